-- ===== a number read anywhere in an array of numbers
def bil (o_ : Option bN) : Bool := match o_ with
  | some (.inl _) => true
  | _ => false
def bilv (v_ : bV) : Bool := match v_ with
  | some (.inl _) => true
  | _ => false
noncomputable def bwn (I : Nat → Nat → Option bN) (a_ : Nat) (k_ : Nat) : Bool := Nat.rec (motive := fun _ => Bool) true (fun j_ ih_ => bil (I a_ j_) && ih_) k_
theorem bwn_ok {I : Nat → Nat → Option bN} {a_ : Nat} : ∀ {k_ j_ : Nat}, bwn I a_ k_ = true → j_ < k_ → bil (I a_ j_) = true := by
  intro k_
  induction k_ with
  | zero => intro j_ _ hj; exact absurd hj (Nat.not_lt_zero _)
  | succ m_ ih_ =>
    intro j_ h hj
    have h : (bil (I a_ m_) && bwn I a_ m_) = true := h
    rw [Bool.and_eq_true] at h
    rcases Nat.lt_or_ge j_ m_ with q_ | q_
    · exact ih_ h.2 q_
    · have e_ : j_ = m_ := by omega
      rw [e_]
      exact h.1
noncomputable def bsrw (zf : Nat → Option (Nat × Nat)) (I : Nat → Nat → Option bN) (pc : Nat) (e : Instr × Nat × List Nat) (G : bE) (n : Nat) (la : bL) (sa : List bV) (ov : bO) : Option bQ := match e.1 with
  | .iaload => match sa with
    | some (.inl f_) :: v_ :: s_ => match bcel v_ with
      | some [a_] => match brg G f_ with
        | none => none
        | some r_ => match decide (r_.1 + 300 ≤ r_.2) with
          | false => none
          | true => match zf a_ with
            | none => none
            | some z_ => match (decide (0 ≤ r_.1) && decide (r_.2 < (z_.2 : Int))) && (Nat.beq z_.1 20 && (ov.all (fun q_ => !(Nat.beq q_.1.1 a_) || bilv q_.2) && xfN z_.2 (bwn I a_))) with
              | false => none
              | true => some (bpush pc 1 G n la s_ ov (.inl (-2147483648, 2147483647)))
      | _ => none
    | _ => none
  | _ => none
section
variable {Z : List (Nat × Nat)} {I : Nat → Nat → Option bN} {W : bW} {p : Nat → Int} {mi pc : Nat} {e : Instr × Nat × List Nat} {G : bE} {n : Nat} {la : bL} {sa : List bV} {ov : bO} {lo : xL} {st : List Jvm.Term} {h : xH}
set_option maxHeartbeats 4000000 in
theorem bsrw_ok {zf : Nat → Option (Nat × Nat)} (hz : ∀ a_ z_, zf a_ = some z_ → xhg Z a_ = some z_) {q_ : bQ} (R : bR Z I p (G, n, la, sa, ov) lo st h) (hs : bsrw zf I pc e G n la sa ov = some q_) : bSt Z I W p mi pc e n lo st h q_ := by
  obtain ⟨i_, ln, ax⟩ := e
  have r1_ := R.1
  cases i_ with
  | iaload =>
    simp only [bsrw] at hs
    rcases sa with _ | ⟨v0_, _ | ⟨v_, s_⟩⟩
    · cases hs
    · rcases v0_ with _ | (f_ | l0_) <;> cases hs
    · rcases v0_ with _ | (f_ | l0_)
      · cases hs
      · simp only at hs
        cases hv : bcel v_ with
        | none => rw [hv] at hs; cases hs
        | some as_ =>
        rw [hv] at hs
        rcases as_ with _ | ⟨a_, _ | ⟨y9_, t9_⟩⟩
        · cases hs
        · simp only at hs
          cases hr : brg G f_ with
          | none => rw [hr] at hs; cases hs
          | some r_ =>
          rw [hr] at hs
          simp only at hs
          cases hd : decide (r_.1 + 300 ≤ r_.2) with
          | false => rw [hd] at hs; cases hs
          | true =>
          rw [hd] at hs
          simp only at hs
          cases hzf : zf a_ with
          | none => rw [hzf] at hs; cases hs
          | some z_ =>
          rw [hzf] at hs
          simp only at hs
          cases hc_ : ((decide (0 ≤ r_.1) && decide (r_.2 < (z_.2 : Int))) && (Nat.beq z_.1 20 && (ov.all (fun q_ => !(Nat.beq q_.1.1 a_) || bilv q_.2) && xfN z_.2 (bwn I a_)))) with
          | false => rw [hc_] at hs; cases hs
          | true =>
          rw [hc_] at hs
          cases hs
          simp only [Bool.and_eq_true, decide_eq_true_eq, xfN_eq] at hc_
          obtain ⟨⟨k1_, k2_⟩, k3_, k4_, k5_⟩ := hc_
          obtain ⟨t_, s', rfl⟩ := bR_top R
          obtain ⟨R1, -, x_, rfl, hx⟩ := bR_pop R
          obtain ⟨t2_, s', rfl⟩ := bR_top R1
          obtain ⟨R2, -, g2⟩ := bR_pop R1
          obtain ⟨b_, hb_, rfl⟩ := bcel_ok hv g2
          have e_ := List.mem_singleton.mp hb_
          subst e_
          have hb2 := brg_ok r1_ (a := r_.1) (b := r_.2) hr
          rw [← hx] at hb2
          obtain ⟨c_, c1_, c2_, c3_, c4_, c5_⟩ := bR_cell R2 (hz _ _ hzf)
          have hlt : x_.toInt.toNat < c_.2.length := by omega
          have hk : Nat.beq c_.1 20 = true := by
            rw [c2_]
            exact k3_
          have hxi : xix (.int x_) c_.2.length = some x_.toInt.toNat := xix_at (by omega) (by omega)
          have ht := List.getElem?_eq_getElem hlt
          have hi_ : ∃ y_ : Int32, c_.2[x_.toInt.toNat] = .int y_ := by
            have k_ := c4_ _ _ ht
            cases hb3 : blo ov b_ x_.toInt.toNat with
            | some w_ =>
              rw [hb3] at k_
              have m_ := List.all_eq_true.mp k4_ _ (blo_in hb3)
              have q0_ : Nat.beq b_ b_ = true := Nat.beq_refl b_
              simp only [q0_, Bool.not_true, Bool.false_or] at m_
              rcases w_ with _ | (g_ | l_)
              · cases m_
              · obtain ⟨y_, y0_, -⟩ := k_
                exact ⟨y_, y0_⟩
              · cases m_
            | none =>
              rw [hb3] at k_
              obtain ⟨e9_, e1_, e2_⟩ := k_
              have m_ := bwn_ok (j_ := x_.toInt.toNat) k5_ (by omega)
              rw [e1_] at m_
              rcases e9_ with g_ | l_
              · obtain ⟨y_, y0_, -, -⟩ := e2_
                exact ⟨y_, y0_⟩
              · cases m_
          obtain ⟨y_, hy_⟩ := hi_
          rw [hy_] at ht
          exact bSt_e R2 ⟨y_, rfl, bi_lo y_, bi_hi y_⟩ (fun kk => by simp only [xsp, xhg_eq, c1_, hk, cond_true, hxi, ht, xI])
        · cases hs
      · cases hs
  | _ => cases hs
end
