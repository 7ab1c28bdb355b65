-- ===== a number read anywhere in an array of numbers
def bil (o_ : Option bN) : Bool := match o_ with
  | some (.inl b_) => decide (b_.1 = -2147483648) && decide (b_.2 = 2147483647)
  | _ => false
theorem bil_ok {o_ : Option bN} (h : bil o_ = true) : o_ = some (.inl (-2147483648, 2147483647)) := by
  unfold bil at h
  split at h
  · rename_i b_
    simp only [Bool.and_eq_true, decide_eq_true_eq] at h
    obtain ⟨b1_, b2_⟩ := b_
    obtain ⟨h1, h2⟩ := h
    have h1 : b1_ = -2147483648 := h1
    have h2 : b2_ = 2147483647 := h2
    rw [h1, h2]
  · cases h
def bilv (v_ : bV) : Bool := match v_ with
  | some (.inl _) => true
  | _ => false
noncomputable def bwn (I : Nat → Nat → Option bN) (a_ : Nat) (k_ : Nat) : Bool := Nat.rec (motive := fun _ => Bool) true (fun j_ ih_ => bil (I a_ j_) && ih_) k_
theorem bwn_ok {I : Nat → Nat → Option bN} {a_ : Nat} : ∀ {k_ j_ : Nat}, bwn I a_ k_ = true → j_ < k_ → bil (I a_ j_) = true := by
  intro k_
  induction k_ with
  | zero => intro j_ _ hj; exact absurd hj (Nat.not_lt_zero _)
  | succ m_ ih_ =>
    intro j_ h hj
    have h : (bil (I a_ m_) && bwn I a_ m_) = true := h
    rw [Bool.and_eq_true] at h
    rcases Nat.lt_or_ge j_ m_ with q_ | q_
    · exact ih_ h.2 q_
    · have e_ : j_ = m_ := by omega
      rw [e_]
      exact h.1
noncomputable def bsrw (zf : Nat → Option (Nat × Nat)) (I : Nat → Nat → Option bN) (pc : Nat) (e : Instr × Nat × List Nat) (G : bE) (n : Nat) (la : bL) (sa : List bV) (ov : bO) : Option bQ := match e.1 with
  | .iaload => match sa with
    | some (.inl f_) :: v_ :: s_ => match bcel v_ with
      | some [a_] => match brg G f_ with
        | none => none
        | some r_ => match decide (r_.1 + 16 ≤ r_.2) with
          | false => none
          | true => match zf a_ with
            | none => none
            | some z_ => match (decide (0 ≤ r_.1) && decide (r_.2 < (z_.2 : Int))) && (Nat.beq z_.1 20 && (ov.all (fun q_ => !(Nat.beq q_.1.1 a_) || bilv q_.2) && xfN z_.2 (bwn I a_))) with
              | false => none
              | true => some (bpush pc 1 G n la s_ ov (.inl (-2147483648, 2147483647)))
      | _ => none
    | _ => none
  | _ => none
section
variable {Z : List (Nat × Nat)} {I : Nat → Nat → Option bN} {W : bW} {p : Nat → Int} {mi pc : Nat} {e : Instr × Nat × List Nat} {G : bE} {n : Nat} {la : bL} {sa : List bV} {ov : bO} {lo : xL} {st : List Jvm.Term} {h : xH}
set_option maxHeartbeats 4000000 in
theorem bsrw_ok {zf : Nat → Option (Nat × Nat)} (hz : ∀ a_ z_, zf a_ = some z_ → xhg Z a_ = some z_) {q_ : bQ} (R : bR Z I p (G, n, la, sa, ov) lo st h) (hs : bsrw zf I pc e G n la sa ov = some q_) : bSt Z I W p mi pc e n lo st h q_ := by
  obtain ⟨i_, ln, ax⟩ := e
  have r1_ := R.1
  cases i_ with
  | iaload =>
    simp only [bsrw] at hs
    rcases sa with _ | ⟨v0_, _ | ⟨v_, s_⟩⟩
    · cases hs
    · rcases v0_ with _ | (f_ | l0_) <;> cases hs
    · rcases v0_ with _ | (f_ | l0_)
      · cases hs
      · simp only at hs
        cases hv : bcel v_ with
        | none => rw [hv] at hs; cases hs
        | some as_ =>
        rw [hv] at hs
        rcases as_ with _ | ⟨a_, _ | ⟨y9_, t9_⟩⟩
        · cases hs
        · simp only at hs
          cases hr : brg G f_ with
          | none => rw [hr] at hs; cases hs
          | some r_ =>
          rw [hr] at hs
          simp only at hs
          cases hd : decide (r_.1 + 16 ≤ r_.2) with
          | false => rw [hd] at hs; cases hs
          | true =>
          rw [hd] at hs
          simp only at hs
          cases hzf : zf a_ with
          | none => rw [hzf] at hs; cases hs
          | some z_ =>
          rw [hzf] at hs
          simp only at hs
          cases hc_ : ((decide (0 ≤ r_.1) && decide (r_.2 < (z_.2 : Int))) && (Nat.beq z_.1 20 && (ov.all (fun q_ => !(Nat.beq q_.1.1 a_) || bilv q_.2) && xfN z_.2 (bwn I a_)))) with
          | false => rw [hc_] at hs; cases hs
          | true =>
          rw [hc_] at hs
          cases hs
          simp only [Bool.and_eq_true, decide_eq_true_eq, xfN_eq] at hc_
          obtain ⟨⟨k1_, k2_⟩, k3_, k4_, k5_⟩ := hc_
          obtain ⟨t_, s', rfl⟩ := bR_top R
          obtain ⟨R1, -, x_, rfl, hx⟩ := bR_pop R
          obtain ⟨t2_, s', rfl⟩ := bR_top R1
          obtain ⟨R2, -, g2⟩ := bR_pop R1
          obtain ⟨b_, hb_, rfl⟩ := bcel_ok hv g2
          have e_ := List.mem_singleton.mp hb_
          subst e_
          have hb2 := brg_ok r1_ (a := r_.1) (b := r_.2) hr
          rw [← hx] at hb2
          obtain ⟨c_, c1_, c2_, c3_, c4_, c5_⟩ := bR_cell R2 (hz _ _ hzf)
          have hlt : x_.toInt.toNat < c_.2.length := by omega
          have hk : Nat.beq c_.1 20 = true := by
            rw [c2_]
            exact k3_
          have hxi : xix (.int x_) c_.2.length = some x_.toInt.toNat := xix_at (by omega) (by omega)
          have ht := List.getElem?_eq_getElem hlt
          have hi_ : ∃ y_ : Int32, c_.2[x_.toInt.toNat] = .int y_ := by
            have k_ := c4_ _ _ ht
            cases hb3 : blo ov b_ x_.toInt.toNat with
            | some w_ =>
              rw [hb3] at k_
              have m_ := List.all_eq_true.mp k4_ _ (blo_in hb3)
              have q0_ : Nat.beq b_ b_ = true := Nat.beq_refl b_
              simp only [q0_, Bool.not_true, Bool.false_or] at m_
              rcases w_ with _ | (g_ | l_)
              · cases m_
              · obtain ⟨y_, y0_, -⟩ := k_
                exact ⟨y_, y0_⟩
              · cases m_
            | none =>
              rw [hb3] at k_
              obtain ⟨e9_, e1_, e2_⟩ := k_
              have m_ := bil_ok (bwn_ok (j_ := x_.toInt.toNat) k5_ (by omega))
              rw [e1_] at m_
              cases m_
              obtain ⟨y_, y0_, -, -⟩ := e2_
              exact ⟨y_, y0_⟩
          obtain ⟨y_, hy_⟩ := hi_
          rw [hy_] at ht
          exact bSt_e R2 ⟨y_, rfl, bi_lo y_, bi_hi y_⟩ (fun kk => by simp only [xsp, xhg_eq, c1_, hk, cond_true, hxi, ht, xI])
        · cases hs
      · cases hs
  | _ => cases hs
end
-- ===== a number written anywhere in an array of any numbers
noncomputable def bswp (zf : Nat → Option (Nat × Nat)) (I : Nat → Nat → Option bN) (W : bW) (pc : Nat) (e : Instr × Nat × List Nat) (G : bE) (n : Nat) (la : bL) (sa : List bV) (ov : bO) : Option bQ := match e.1 with
  | .iastore => match sa with
    | some (.inl g_) :: some (.inl f_) :: v_ :: s_ => match bcel v_ with
      | some [a_] => match brg G f_ with
        | none => none
        | some r_ => match decide (r_.1 + 16 ≤ r_.2) with
          | false => none
          | true => match zf a_ with
            | none => none
            | some z_ => match (decide (0 ≤ r_.1) && decide (r_.2 < (z_.2 : Int))) && ((Nat.beq z_.1 20 && W.any (fun w_ => (Nat.ble w_.1 a_ && Nat.ble a_ w_.2.1) && (decide ((w_.2.2.1 : Int) ≤ r_.1) && decide (r_.2 ≤ (w_.2.2.2 : Int))))) && (ov.all (fun q_ => !(Nat.beq q_.1.1 a_) || bilv q_.2) && xfN z_.2 (bwn I a_))) with
              | false => none
              | true => some (pc + 1, G, n, la, s_, ov.filter (fun q_ => !(Nat.beq q_.1.1 a_)))
      | _ => none
    | _ => none
  | _ => none
section
variable {Z : List (Nat × Nat)} {I : Nat → Nat → Option bN} {W : bW} {p : Nat → Int} {mi pc : Nat} {e : Instr × Nat × List Nat} {G : bE} {n : Nat} {la : bL} {sa : List bV} {ov : bO} {lo : xL} {st : List Jvm.Term} {h : xH}
theorem bHr_wide (g0 : bHr Z I p ov h) {i_ j_ : Nat} {c_ : xC} {x_ : Int32} (hc_ : h[i_]? = some c_) (hI : ∀ m_, m_ < c_.2.length → I i_ m_ = some (.inl (-2147483648, 2147483647))) (ho : ov.all (fun q_ => !(Nat.beq q_.1.1 i_) || bilv q_.2) = true) : bHr Z I p (ov.filter (fun q_ => !(Nat.beq q_.1.1 i_))) (h.set i_ (c_.1, c_.2.set j_ (.int x_))) := by
  have hi_ : i_ < h.length := (List.getElem?_eq_some_iff.mp hc_).1
  refine ⟨by rw [List.length_set]; exact g0.1, fun k_ q_ hq => ?_⟩
  obtain ⟨c', c1_, c2_, c3_, c4_⟩ := g0.2 k_ q_ hq
  by_cases hk : k_ = i_
  · subst hk
    rw [hc_] at c1_
    cases c1_
    refine ⟨(c_.1, c_.2.set j_ (.int x_)), by rw [List.getElem?_set_self hi_], c2_, by rw [← c3_]; exact List.length_set, fun m_ u_ hm_ => ?_⟩
    have hm2 : (c_.2.set j_ (.int x_))[m_]? = some u_ := hm_
    have hlt : m_ < c_.2.length := by
      have w_ := (List.getElem?_eq_some_iff.mp hm2).1
      rwa [List.length_set] at w_
    rw [blo_filf (g_ := fun q_ => !(Nat.beq q_.1 k_)) (by show (!(Nat.beq k_ k_)) = false; rw [Nat.beq_refl]; rfl)]
    refine ⟨_, hI m_ hlt, ?_⟩
    by_cases hmj : j_ = m_
    · subst hmj
      rw [List.getElem?_set_self hlt] at hm2
      cases hm2
      exact ⟨x_, rfl, bi_lo x_, bi_hi x_⟩
    · rw [List.getElem?_set_ne hmj] at hm2
      have k4_ := c4_ m_ u_ hm2
      cases hb3 : blo ov k_ m_ with
      | some w_ =>
        rw [hb3] at k4_
        have m9_ := List.all_eq_true.mp ho _ (blo_in hb3)
        have q0_ : Nat.beq k_ k_ = true := Nat.beq_refl k_
        simp only [q0_, Bool.not_true, Bool.false_or] at m9_
        rcases w_ with _ | (g_ | l_)
        · cases m9_
        · obtain ⟨y_, y0_, -⟩ := k4_
          exact ⟨y_, y0_, bi_lo y_, bi_hi y_⟩
        · cases m9_
      | none =>
        rw [hb3] at k4_
        obtain ⟨e9_, e1_, e2_⟩ := k4_
        rw [hI m_ hlt] at e1_
        cases e1_
        exact e2_
  · refine ⟨c', by rw [List.getElem?_set_ne (fun q_ => hk q_.symm)]; exact c1_, c2_, c3_, fun m_ u_ hm_ => ?_⟩
    rw [blo_filt (g_ := fun q_ => !(Nat.beq q_.1 i_)) (by
      have w_ : Nat.beq k_ i_ = false := by
        cases q_ : Nat.beq k_ i_ with
        | false => rfl
        | true => exact absurd (Nat.eq_of_beq_eq_true q_) hk
      show (!(Nat.beq k_ i_)) = true
      rw [w_]
      rfl)]
    exact c4_ m_ u_ hm_
set_option maxHeartbeats 4000000 in
theorem bswp_ok (hZ : Z.length = 354) {zf : Nat → Option (Nat × Nat)} (hz : ∀ a_ z_, zf a_ = some z_ → xhg Z a_ = some z_) {q_ : bQ} (R : bR Z I p (G, n, la, sa, ov) lo st h) (hs : bswp zf I W pc e G n la sa ov = some q_) : bSt Z I W p mi pc e n lo st h q_ := by
  obtain ⟨i_, ln, ax⟩ := e
  have r1_ := R.1
  have hlen : h.length = 354 := by
    obtain ⟨r1_, r2, r3, r4, r5_, r6, r7, r8, r9, rx_⟩ := R
    exact r8.1.trans hZ
  cases i_ with
  | iastore =>
    simp only [bswp] at hs
    split at hs
    · rename_i g_ f_ v_ s_
      cases hv : bcel v_ with
      | none => rw [hv] at hs; cases hs
      | some as_ =>
      rw [hv] at hs
      rcases as_ with _ | ⟨a_, _ | ⟨y9_, t9_⟩⟩
      · cases hs
      · simp only at hs
        cases hr : brg G f_ with
        | none => rw [hr] at hs; cases hs
        | some r_ =>
        rw [hr] at hs
        simp only at hs
        cases hd : decide (r_.1 + 16 ≤ r_.2) with
        | false => rw [hd] at hs; cases hs
        | true =>
        rw [hd] at hs
        simp only at hs
        cases hzf : zf a_ with
        | none => rw [hzf] at hs; cases hs
        | some z_ =>
        rw [hzf] at hs
        simp only at hs
        cases hc_ : ((decide (0 ≤ r_.1) && decide (r_.2 < (z_.2 : Int))) && ((Nat.beq z_.1 20 && W.any (fun w_ => (Nat.ble w_.1 a_ && Nat.ble a_ w_.2.1) && (decide ((w_.2.2.1 : Int) ≤ r_.1) && decide (r_.2 ≤ (w_.2.2.2 : Int))))) && (ov.all (fun q_ => !(Nat.beq q_.1.1 a_) || bilv q_.2) && xfN z_.2 (bwn I a_)))) with
        | false => rw [hc_] at hs; cases hs
        | true =>
        rw [hc_] at hs
        cases hs
        simp only [Bool.and_eq_true, decide_eq_true_eq, xfN_eq] at hc_
        obtain ⟨⟨k1_, k2_⟩, ⟨k3_, k6_⟩, k4_, k5_⟩ := hc_
        obtain ⟨t_, s', rfl⟩ := bR_top R
        obtain ⟨R0_, hvl, y_, rfl, hy⟩ := bR_pop R
        obtain ⟨t1_, s', rfl⟩ := bR_top R0_
        obtain ⟨R1, -, x_, rfl, hx⟩ := bR_pop R0_
        obtain ⟨t2_, s', rfl⟩ := bR_top R1
        obtain ⟨R2, -, g2⟩ := bR_pop R1
        obtain ⟨b_, hb_, rfl⟩ := bcel_ok hv g2
        have e_ := List.mem_singleton.mp hb_
        subst e_
        have hb2 := brg_ok r1_ (a := r_.1) (b := r_.2) hr
        rw [← hx] at hb2
        obtain ⟨c_, c1_, c2_, c3_, c4_, c5_⟩ := bR_cell R2 (hz _ _ hzf)
        have hlt : x_.toInt.toNat < c_.2.length := by omega
        have hk : Nat.beq c_.1 20 = true := by
          rw [c2_]
          exact k3_
        have hxi : xix (.int x_) c_.2.length = some x_.toInt.toNat := xix_at (by omega) (by omega)
        have hw : biw W b_ x_.toInt.toNat = true := by
          obtain ⟨w_, hw1, hw2⟩ := List.any_eq_true.mp k6_
          simp only [Bool.and_eq_true, decide_eq_true_eq] at hw2
          refine List.any_eq_true.mpr ⟨w_, hw1, ?_⟩
          simp only [Bool.and_eq_true]
          exact ⟨hw2.1, Nat.ble_eq_true_of_le (by omega), Nat.ble_eq_true_of_le (by omega)⟩
        have hxx : xidx h.length (.int y_) = true := rfl
        obtain ⟨r1_, r2, r3, r4, r5_, r6, r7, r8, r9, rx_⟩ := R2
        refine ⟨p, lo, s', _, fun _ _ => rfl, Nat.le_refl _, ⟨r1_, r2, r3, r4, bOl_filter r5_, r6, r7, bHr_wide r8 c1_ (fun m_ hm_ => bil_ok (bwn_ok k5_ (by omega))) k4_, xhw_set r9 (xokc_set r9 c1_ hxx), rx_⟩, bfr_set1 c1_ hw, fun kk => ?_⟩
        simp only [xsp, xhg_eq, c1_, hk, xI, Bool.and_self, cond_true, hxi, xst_eq, xfN_eq]
      · cases hs
    · cases hs
  | _ => cases hs
end
