-- ===== what writes
section
variable {Z : List (Nat × Nat)} {I : Nat → Nat → Option bN} {W : bW} {p : Nat → Int} {mi pc : Nat} {e : Instr × Nat × List Nat} {G : bE} {n : Nat} {la : bL} {sa : List bV} {ov : bO} {lo : xL} {st : List Jvm.Term} {h : xH}
theorem blo_filt {g_ : Nat × Nat → Bool} {i_ j_ : Nat} (hg : g_ (i_, j_) = true) : ∀ {ov : bO}, blo (ov.filter (fun r_ => g_ r_.1)) i_ j_ = blo ov i_ j_ := by
  intro ov
  induction ov with
  | nil => rfl
  | cons r_ t_ ih_ =>
    obtain ⟨⟨a_, b_⟩, v_⟩ := r_
    by_cases e : g_ (a_, b_) = true
    · rw [List.filter_cons_of_pos (by exact e)]
      simp only [blo, ih_]
    · rw [List.filter_cons_of_neg (by exact e), ih_]
      have e1_ : (Nat.beq a_ i_ && Nat.beq b_ j_) = false := by
        cases e1_ : (Nat.beq a_ i_ && Nat.beq b_ j_) with
        | false => rfl
        | true =>
          simp only [Bool.and_eq_true] at e1_
          rw [Nat.eq_of_beq_eq_true e1_.1, Nat.eq_of_beq_eq_true e1_.2] at e
          exact absurd hg e
      simp only [blo, e1_]
theorem blo_filf {g_ : Nat × Nat → Bool} {i_ j_ : Nat} (hg : g_ (i_, j_) = false) : ∀ {ov : bO}, blo (ov.filter (fun r_ => g_ r_.1)) i_ j_ = none := by
  intro ov
  induction ov with
  | nil => rfl
  | cons r_ t_ ih_ =>
    obtain ⟨⟨a_, b_⟩, v_⟩ := r_
    by_cases e : g_ (a_, b_) = true
    · rw [List.filter_cons_of_pos (by exact e)]
      have e1_ : (Nat.beq a_ i_ && Nat.beq b_ j_) = false := by
        cases e1_ : (Nat.beq a_ i_ && Nat.beq b_ j_) with
        | false => rfl
        | true =>
          simp only [Bool.and_eq_true] at e1_
          rw [Nat.eq_of_beq_eq_true e1_.1, Nat.eq_of_beq_eq_true e1_.2, hg] at e
          cases e
      simp only [blo, e1_]
      exact ih_
    · rw [List.filter_cons_of_neg (by exact e)]
      exact ih_
theorem bOl_filter {g_ : (Nat × Nat) × bV → Bool} (h : bOl n ov = true) : bOl n (ov.filter g_) = true := by
  unfold bOl at h ⊢
  exact List.all_eq_true.mpr (fun q_ hq => List.all_eq_true.mp h q_ (List.mem_filter.mp hq).1)
def bmem (ps_ : List (Nat × Nat)) (q_ : Nat × Nat) : Bool := ps_.any (fun r_ => Nat.beq r_.1 q_.1 && Nat.beq r_.2 q_.2)
/-- this may be written there, and what is known of it forgotten -/
def bfree (I : Nat → Nat → Option bN) (G : bE) (ov : bO) (w_ : bN) (q_ : Nat × Nat) : Bool := match I q_.1 q_.2 with
  | none => false
  | some b_ => bsN b_ w_ && (match blo ov q_.1 q_.2 with
    | none => true
    | some v_ => bkv G b_ v_)
theorem bfree_ok (hG : bok G p) {w_ : bN} {i_ j_ : Nat} (hf : bfree I G ov w_ (i_, j_) = true) : ∃ b_, I i_ j_ = some b_ ∧ (∀ t_, bnv w_ t_ → bnv b_ t_) ∧ ∀ t_, (match blo ov i_ j_ with
    | some v_ => bga p v_ t_
    | none => ∃ b_, I i_ j_ = some b_ ∧ bnv b_ t_) → bnv b_ t_ := by
  unfold bfree at hf
  simp only at hf
  cases hI : I i_ j_ with
  | none => rw [hI] at hf; cases hf
  | some b_ =>
    rw [hI] at hf
    simp only [Bool.and_eq_true] at hf
    refine ⟨b_, rfl, fun t_ k_ => bsN_ok hf.1 k_, fun t_ k_ => ?_⟩
    cases hb_ : blo ov i_ j_ with
    | none =>
      rw [hb_] at k_
      obtain ⟨b', h1, h2⟩ := k_
      cases h1
      exact h2
    | some v_ =>
      rw [hb_] at k_ hf
      exact bkv_ok hG hf.2 k_
/-- a cell changed somewhere among these places -/
theorem bHr_weak (hG : bok G p) (g0 : bHr Z I p ov h) {i_ : Nat} {c_ : xC} {l : List Jvm.Term} {w_ : bN} {ps_ : List (Nat × Nat)} (hc_ : h[i_]? = some c_) (hl : l.length = c_.2.length) (hu : ∀ m_ u_, l[m_]? = some u_ → c_.2[m_]? = some u_ ∨ ((i_, m_) ∈ ps_ ∧ bnv w_ u_)) (hf : ps_.all (bfree I G ov w_) = true) : bHr Z I p (ov.filter (fun r_ => !(bmem ps_ r_.1))) (h.set i_ (c_.1, l)) := by
  have hi_ : i_ < h.length := (List.getElem?_eq_some_iff.mp hc_).1
  refine ⟨by rw [List.length_set]; exact g0.1, fun k_ q_ hq => ?_⟩
  obtain ⟨c', c1_, c2_, c3_, c4_⟩ := g0.2 k_ q_ hq
  have keep_ : ∀ m_ u_, c'.2[m_]? = some u_ → (match blo (ov.filter (fun r_ => !(bmem ps_ r_.1))) k_ m_ with
    | some v_ => bga p v_ u_
    | none => ∃ b_, I k_ m_ = some b_ ∧ bnv b_ u_) := by
    intro m_ u_ hu
    have k4_ := c4_ m_ u_ hu
    cases hb_ : bmem ps_ (k_, m_) with
    | true =>
      rw [blo_filf (g_ := fun q_ => !(bmem ps_ q_)) (by simp only [hb_, Bool.not_true])]
      obtain ⟨r_, hr, hb_⟩ := List.any_eq_true.mp hb_
      simp only [Bool.and_eq_true] at hb_
      have e1_ : r_ = (k_, m_) := by
        obtain ⟨r1_, r2⟩ := r_
        have f1_ : r1_ = k_ := Nat.eq_of_beq_eq_true hb_.1
        have f2_ : r2 = m_ := Nat.eq_of_beq_eq_true hb_.2
        rw [f1_, f2_]
      rw [e1_] at hr
      obtain ⟨b_, b1, -, b3⟩ := bfree_ok hG (List.all_eq_true.mp hf _ hr)
      exact ⟨b_, b1, b3 u_ k4_⟩
    | false =>
      rw [blo_filt (g_ := fun q_ => !(bmem ps_ q_)) (by simp only [hb_, Bool.not_false])]
      exact k4_
  by_cases hk : k_ = i_
  · subst hk
    rw [hc_] at c1_
    cases c1_
    refine ⟨(c_.1, l), by rw [List.getElem?_set_self hi_], c2_, by rw [← c3_]; exact hl, fun m_ u_ hm_ => ?_⟩
    rcases hu m_ u_ hm_ with h1 | ⟨h1, h2⟩
    · exact keep_ m_ u_ h1
    · have hb_ : bmem ps_ (k_, m_) = true := List.any_eq_true.mpr ⟨_, h1, by simp⟩
      rw [blo_filf (g_ := fun q_ => !(bmem ps_ q_)) (by simp only [hb_, Bool.not_true])]
      obtain ⟨b_, b1, b2, -⟩ := bfree_ok hG (List.all_eq_true.mp hf _ h1)
      exact ⟨b_, b1, b2 u_ h2⟩
  · exact ⟨c', by rw [List.getElem?_set_ne (fun q_ => hk q_.symm)]; exact c1_, c2_, c3_, keep_⟩
def bput (I : Nat → Nat → Option bN) (W : bW) (G : bE) (ov : bO) (ps_ : List (Nat × Nat)) (v_ : bV) : Option bO := match ps_ with
  | [q_] => (match biw W q_.1 q_.2 with
    | true => some (((q_.1, q_.2), v_) :: ov)
    | false => none)
  | _ => (match bplv G v_ with
    | none => none
    | some w_ => match ps_.all (bfree I G ov w_) && ps_.all (fun q_ => biw W q_.1 q_.2) with
      | true => some (ov.filter (fun r_ => !(bmem ps_ r_.1)))
      | false => none)
theorem bput_ok (R : bR Z I p (G, n, la, sa, ov) lo st h) {i_ j_ : Nat} {c_ : xC} {v_ : bV} {t_ : Jvm.Term} {ps_ : List (Nat × Nat)} {ov' : bO} (hc_ : h[i_]? = some c_) (hj : j_ < c_.2.length) (hv : bvl n v_ = true) (g_ : bga p v_ t_) (hx : xidx h.length t_ = true) (hm_ : (i_, j_) ∈ ps_) (hs : bput I W G ov ps_ v_ = some ov') : bR Z I p (G, n, la, sa, ov') lo st (h.set i_ (c_.1, c_.2.set j_ t_)) ∧ biw W i_ j_ = true := by
  unfold bput at hs
  split at hs
  · rename_i q_
    have e1_ := List.mem_singleton.mp hm_
    subst e1_
    cases hw : biw W i_ j_ with
    | false =>
      simp only [hw] at hs
      cases hs
    | true =>
      simp only [hw] at hs
      cases hs
      exact ⟨bR_put R hc_ hj hv g_ hx, rfl⟩
  · cases hb_ : bplv G v_ with
    | none => rw [hb_] at hs; cases hs
    | some w_ =>
    rw [hb_] at hs
    simp only at hs
    cases hk : (ps_.all (bfree I G ov w_) && ps_.all (fun q_ => biw W q_.1 q_.2)) with
    | false => rw [hk] at hs; cases hs
    | true =>
    rw [hk] at hs
    cases hs
    simp only [Bool.and_eq_true] at hk
    obtain ⟨r1_, r2, r3, r4, r5_, r6, r7, r8, r9, rx_⟩ := R
    refine ⟨⟨r1_, r2, r3, r4, bOl_filter r5_, r6, r7, bHr_weak r1_ r8 hc_ (by rw [List.length_set]) (fun m_ u_ hu => ?_) hk.1, xhw_set r9 (xokc_set r9 hc_ hx), rx_⟩, List.all_eq_true.mp hk.2 _ hm_⟩
    by_cases hmj : m_ = j_
    · subst hmj
      rw [List.getElem?_set_self hj] at hu
      cases hu
      exact Or.inr ⟨hm_, bplv_ok r1_ hb_ g_⟩
    · rw [List.getElem?_set_ne (fun q_ => hmj q_.symm)] at hu
      exact Or.inl hu
/-- what may be put into a field of this type -/
def bfs (ty_ : FieldType) (G : bE) (v_ : bV) : Bool := match ty_ with
  | .int => (match v_ with
    | some (.inl _) => true
    | _ => false)
  | .boolean => (match v_ with
    | some (.inl f_) => (match brg G f_ with
      | some r_ => decide (0 ≤ r_.1) && decide (r_.2 ≤ 1)
      | none => false)
    | _ => false)
  | .object _ => (match v_ with
    | some (.inr _) => true
    | _ => false)
  | .array _ => (match v_ with
    | some (.inr _) => true
    | _ => false)
  | _ => false
theorem b01 {x_ : Int32} (h1 : 0 ≤ x_.toInt) (h2 : x_.toInt ≤ 1) : x_ = 0 ∨ x_ = 1 := by
  have e0_ : (0 : Int32).toInt = 0 := rfl
  have e1_ : (1 : Int32).toInt = 1 := rfl
  rcases (show x_.toInt = 0 ∨ x_.toInt = 1 by omega) with q_ | q_
  · exact Or.inl (Int32.toInt_inj.mp (by omega))
  · exact Or.inr (Int32.toInt_inj.mp (by omega))
theorem bfs_ok (hG : bok G p) {ty_ : FieldType} {v_ : bV} {t_ : Jvm.Term} (k_ : bfs ty_ G v_ = true) (g_ : bga p v_ t_) : xfits ty_ t_ = true := by
  unfold bfs at k_
  split at k_
  · split at k_
    · exact bga_I g_
    · cases k_
  · split at k_
    · rename_i f_
      cases hr : brg G f_ with
      | none => rw [hr] at k_; cases k_
      | some r_ =>
        rw [hr] at k_
        simp only [Bool.and_eq_true, decide_eq_true_eq] at k_
        obtain ⟨x_, rfl, hx⟩ := g_
        have h1 := brg_ok hG (a := r_.1) (b := r_.2) hr
        simp only [xfits, xlit, Bool.or_eq_true, decide_eq_true_eq]
        exact b01 (by omega) (by omega)
    · cases k_
  · split at k_
    · exact g_.2.1
    · cases k_
  · split at k_
    · exact g_.2.1
    · cases k_
  · cases k_
/-- all places of an array -/
def bap (a_ m_ : Nat) : List (Nat × Nat) := match m_ with
  | 0 => []
  | m_ + 1 => (a_, m_) :: bap a_ m_
theorem bap_mem {a_ m_ k_ : Nat} (h : k_ < m_) : (a_, k_) ∈ bap a_ m_ := by
  induction m_ with
  | zero => omega
  | succ m_ ih_ =>
    simp only [bap, List.mem_cons]
    by_cases e : k_ = m_
    · exact Or.inl (by rw [e])
    · exact Or.inr (ih_ (by omega))
/-- all places of arrays of ints, of that length at least -/
noncomputable def bar0 (zf : Nat → Option (Nat × Nat)) (b_ : Int) (as_ : List Nat) : Option (List (Nat × Nat)) := match as_ with
  | [] => some []
  | a_ :: t_ => match zf a_ with
    | none => none
    | some z_ => match Nat.beq z_.1 20 && decide (b_ ≤ (z_.2 : Int)) with
      | false => none
      | true => match bar0 zf b_ t_ with
        | none => none
        | some w_ => some (bap a_ z_.2 ++ w_)
theorem bar0_ok {zf : Nat → Option (Nat × Nat)} {b_ : Int} : ∀ {as_ : List Nat} {ps_ : List (Nat × Nat)}, bar0 zf b_ as_ = some ps_ → ∀ a_ ∈ as_, ∃ z_, zf a_ = some z_ ∧ z_.1 = 20 ∧ b_ ≤ (z_.2 : Int) ∧ ∀ k_, k_ < z_.2 → (a_, k_) ∈ ps_ := by
  intro as_
  induction as_ with
  | nil => intro ps_ _ a_ ha_; cases ha_
  | cons y_ t_ ih_ =>
    intro ps_ k_ a_ ha_
    simp only [bar0] at k_
    cases h1 : zf y_ with
    | none => rw [h1] at k_; cases k_
    | some z_ =>
    rw [h1] at k_
    simp only at k_
    cases h2 : (Nat.beq z_.1 20 && decide (b_ ≤ (z_.2 : Int))) with
    | false => rw [h2] at k_; cases k_
    | true =>
    rw [h2] at k_
    simp only at k_
    cases h3 : bar0 zf b_ t_ with
    | none => rw [h3] at k_; cases k_
    | some w_ =>
    rw [h3] at k_
    cases k_
    simp only [Bool.and_eq_true, decide_eq_true_eq] at h2
    rcases List.mem_cons.mp ha_ with rfl | ha_
    · exact ⟨z_, h1, Nat.eq_of_beq_eq_true h2.1, h2.2, fun m_ hm_ => List.mem_append.mpr (Or.inl (bap_mem hm_))⟩
    · obtain ⟨w_, w1_, w2_, w3_, w4_⟩ := ih_ h3 a_ ha_
      exact ⟨w_, w1_, w2_, w3_, fun m_ hm_ => List.mem_append.mpr (Or.inr (w4_ m_ hm_))⟩
noncomputable def bsw (zf : Nat → Option (Nat × Nat)) (I : Nat → Nat → Option bN) (W : bW) (pc : Nat) (e : Instr × Nat × List Nat) (G : bE) (n : Nat) (la : bL) (sa : List bV) (ov : bO) : Option bQ := match e.1 with
  | .putfield _ => match e.2.2 with
    | [_, ci, kf] => match sa with
      | x_ :: v_ :: s_ => match bcel v_ with
        | none => none
        | some as_ => match bpls zf ci ci as_ [(kf : Int)] with
          | none => none
          | some ps_ => match bfs (xty ci kf) G x_ && !(xT ci kf).2.2.2 with
            | false => none
            | true => match bput I W G ov ps_ x_ with
              | none => none
              | some ov' => some (pc + 3, G, n, la, s_, ov')
      | _ => none
    | _ => none
  | .iastore => match sa with
    | some (.inl g_) :: some (.inl f_) :: v_ :: s_ => match bcel v_ with
      | none => none
      | some as_ => match bpos G f_ with
        | none => none
        | some xs => match bpls zf 20 20 as_ xs with
          | none => none
          | some ps_ => match bput I W G ov ps_ (some (.inl g_)) with
            | none => none
            | some ov' => some (pc + 1, G, n, la, s_, ov')
    | _ => none
  | .invokestatic _ => match e.2.2 with
    | [_, cm, _, _, _] => match Nat.beq cm 903 with
      | false => none
      | true => match sa with
        | some (.inl fn_) :: some (.inl fd_) :: v1_ :: some (.inl fs) :: v0_ :: s_ => match Nat.ble (s_.length + 3) 6 && s_.all (fun v_ => !(bgL v_)) with
          | false => none
          | true => match bcel v0_ with
            | none => none
            | some as0 => match bcel v1_ with
              | none => none
              | some as1 => match brg G fs with
                | none => none
                | some rs => match brg G fd_ with
                  | none => none
                  | some rd_ => match brg G fn_ with
                    | none => none
                    | some rn => match brg G (badd fs fn_) with
                      | none => none
                      | some r0 => match brg G (badd fd_ fn_) with
                        | none => none
                        | some r1_ => match decide (0 ≤ rs.1) && (decide (0 ≤ rd_.1) && decide (0 ≤ rn.1)) with
                          | false => none
                          | true => match bar0 zf r0.2 as0 with
                            | none => none
                            | some p0_ => match bar0 zf r1_.2 as1 with
                              | none => none
                              | some p1_ => match bhl I G ov p0_ with
                                | some (.inl b_) => (match p1_.all (bfree I G ov (.inl b_)) && p1_.all (fun q_ => biw W q_.1 q_.2) with
                                  | false => none
                                  | true => some (pc + 3, G, n, la, s_, ov.filter (fun r_ => !(bmem p1_ r_.1))))
                                | _ => none
        | _ => none
    | _ => none
  | _ => none
theorem i32_nn {x_ : Int32} (h : 0 ≤ x_.toInt) : (!decide (x_ < 0)) = true := by
  have : decide (x_ < 0) = false := by
    refine decide_eq_false (fun q_ => ?_)
    have := Int32.lt_iff_toInt_lt.mp q_
    have e : (0 : Int32).toInt = 0 := rfl
    omega
  rw [this]
  rfl
set_option maxHeartbeats 8000000 in
theorem bsw_ok (hZ : Z.length = 354) {zf : Nat → Option (Nat × Nat)} (hz : ∀ a_ z_, zf a_ = some z_ → xhg Z a_ = some z_) {q_ : bQ} (R : bR Z I p (G, n, la, sa, ov) lo st h) (hs : bsw zf I W pc e G n la sa ov = some q_) : bSt Z I W p mi pc e n lo st h q_ := by
  obtain ⟨i_, ln, ax⟩ := e
  have r1_ := R.1
  have hlen : h.length = 354 := by
    obtain ⟨r1_, r2, r3, r4, r5_, r6, r7, r8, r9, rx_⟩ := R
    exact r8.1.trans hZ
  cases i_ with
  | putfield idx_ =>
    simp only [bsw] at hs
    rcases ax with _ | ⟨x0_, _ | ⟨ci, _ | ⟨kf, _ | ⟨x9, t9⟩⟩⟩⟩ <;> first | (cases hs; done) | skip
    simp only at hs
    rcases sa with _ | ⟨x_, _ | ⟨v_, s_⟩⟩ <;> first | (cases hs; done) | skip
    simp only at hs
    cases hv : bcel v_ with
    | none => rw [hv] at hs; cases hs
    | some as_ =>
    rw [hv] at hs
    simp only at hs
    cases hp : bpls zf ci ci as_ [(kf : Int)] with
    | none => rw [hp] at hs; cases hs
    | some ps_ =>
    rw [hp] at hs
    simp only at hs
    cases hf : (bfs (xty ci kf) G x_ && !(xT ci kf).2.2.2) with
    | false => rw [hf] at hs; cases hs
    | true =>
    rw [hf] at hs
    simp only at hs
    cases ho : bput I W G ov ps_ x_ with
    | none => rw [ho] at hs; cases hs
    | some ov' =>
    rw [ho] at hs
    cases hs
    simp only [Bool.and_eq_true] at hf
    obtain ⟨t_, s', rfl⟩ := bR_top R
    obtain ⟨R1, hvl, g_⟩ := bR_pop R
    obtain ⟨t2_, s', rfl⟩ := bR_top R1
    obtain ⟨R2, -, g2⟩ := bR_pop R1
    obtain ⟨a_, ha_, rfl⟩ := bcel_ok hv g2
    obtain ⟨z_, z1, z2, z3, z4⟩ := bpls_ok hp a_ ha_
    obtain ⟨y1, y2, y3⟩ := z4 _ List.mem_cons_self
    obtain ⟨c_, c1_, c2_, c3_, c4_, c5_⟩ := bR_cell R2 (hz _ _ z1)
    have hlt : kf < c_.2.length := by omega
    have hk : Nat.beq c_.1 ci = true := by
      have : c_.1 = ci := by omega
      rw [this]
      simp
    have hx : xidx h.length t_ = true := by rw [hlen]; exact bga_x g_
    have hft := bfs_ok r1_ hf.1 g_
    obtain ⟨k1_, k2_⟩ := bput_ok R2 c1_ hlt hvl g_ hx y3 ho
    refine ⟨p, lo, s', _, fun _ _ => rfl, Nat.le_refl _, k1_, bfr_set1 c1_ k2_, fun kk => ?_⟩
    simp only [xsp, xhg_eq, c1_, hk, Nat.ble_eq_true_of_le hlt, hx, hft, hf.2, Bool.true_or, Bool.and_self, cond_true, xst_eq, xfN_eq]
  | iastore =>
    simp only [bsw] at hs
    split at hs
    · rename_i g_ f_ v_ s_
      cases hv : bcel v_ with
      | none => rw [hv] at hs; cases hs
      | some as_ =>
      rw [hv] at hs
      simp only at hs
      cases hq : bpos G f_ with
      | none => rw [hq] at hs; cases hs
      | some xs =>
      rw [hq] at hs
      simp only at hs
      cases hp : bpls zf 20 20 as_ xs with
      | none => rw [hp] at hs; cases hs
      | some ps_ =>
      rw [hp] at hs
      simp only at hs
      cases ho : bput I W G ov ps_ (some (.inl g_)) with
      | none => rw [ho] at hs; cases hs
      | some ov' =>
      rw [ho] at hs
      cases hs
      obtain ⟨t_, s', rfl⟩ := bR_top R
      obtain ⟨R0_, hvl, g0⟩ := bR_pop R
      obtain ⟨t1_, s', rfl⟩ := bR_top R0_
      obtain ⟨R1, -, x_, rfl, hx⟩ := bR_pop R0_
      obtain ⟨t2_, s', rfl⟩ := bR_top R1
      obtain ⟨R2, -, g2⟩ := bR_pop R1
      obtain ⟨a_, ha_, rfl⟩ := bcel_ok hv g2
      obtain ⟨z_, z1, z2, z3, z4⟩ := bpls_ok hp a_ ha_
      obtain ⟨y1, y2, y3⟩ := z4 _ (bpos_ok r1_ hq)
      obtain ⟨c_, c1_, c2_, c3_, c4_, c5_⟩ := bR_cell R2 (hz _ _ z1)
      rw [← hx] at y1 y2 y3
      have hlt : x_.toInt.toNat < c_.2.length := by omega
      have hk : Nat.beq c_.1 20 = true := by
        have : c_.1 = 20 := by omega
        rw [this]
        rfl
      have hxi : xix (.int x_) c_.2.length = some x_.toInt.toNat := xix_at y1 (by omega)
      have hxx : xidx h.length t_ = true := by rw [hlen]; exact bga_x g0
      have gI := bga_I g0
      obtain ⟨k1_, k2_⟩ := bput_ok R2 c1_ hlt hvl g0 hxx y3 ho
      refine ⟨p, lo, s', _, fun _ _ => rfl, Nat.le_refl _, k1_, bfr_set1 c1_ k2_, fun kk => ?_⟩
      simp only [xsp, xhg_eq, c1_, hk, gI, Bool.and_self, cond_true, hxi, xst_eq, xfN_eq]
    · cases hs
  | invokestatic idx_ =>
    simp only [bsw] at hs
    rcases ax with _ | ⟨x0_, _ | ⟨cm, _ | ⟨a1_, _ | ⟨b1, _ | ⟨d1_, _ | ⟨x9, t9⟩⟩⟩⟩⟩⟩ <;> first | (cases hs; done) | skip
    simp only at hs
    cases hcm : Nat.beq cm 903 with
    | false => rw [hcm] at hs; cases hs
    | true =>
    rw [hcm] at hs
    simp only at hs
    split at hs
    · rename_i fn_ fd_ v1_ fs v0_ s_
      cases hk : (Nat.ble (s_.length + 3) 6 && s_.all (fun v_ => !(bgL v_))) with
      | false => rw [hk] at hs; cases hs
      | true =>
      rw [hk] at hs
      simp only at hs
      cases hv0 : bcel v0_ with
      | none => rw [hv0] at hs; cases hs
      | some as0 =>
      rw [hv0] at hs
      simp only at hs
      cases hv1 : bcel v1_ with
      | none => rw [hv1] at hs; cases hs
      | some as1 =>
      rw [hv1] at hs
      simp only at hs
      cases hrs : brg G fs with
      | none => rw [hrs] at hs; cases hs
      | some rs =>
      rw [hrs] at hs
      simp only at hs
      cases hrd : brg G fd_ with
      | none => rw [hrd] at hs; cases hs
      | some rd_ =>
      rw [hrd] at hs
      simp only at hs
      cases hrn : brg G fn_ with
      | none => rw [hrn] at hs; cases hs
      | some rn =>
      rw [hrn] at hs
      simp only at hs
      cases hr0 : brg G (badd fs fn_) with
      | none => rw [hr0] at hs; cases hs
      | some r0 =>
      rw [hr0] at hs
      simp only at hs
      cases hr1 : brg G (badd fd_ fn_) with
      | none => rw [hr1] at hs; cases hs
      | some rr1 =>
      rw [hr1] at hs
      simp only at hs
      cases hnn_ : (decide (0 ≤ rs.1) && (decide (0 ≤ rd_.1) && decide (0 ≤ rn.1))) with
      | false => rw [hnn_] at hs; cases hs
      | true =>
      rw [hnn_] at hs
      simp only at hs
      cases hp0 : bar0 zf r0.2 as0 with
      | none => rw [hp0] at hs; cases hs
      | some p0_ =>
      rw [hp0] at hs
      simp only at hs
      cases hp1 : bar0 zf rr1.2 as1 with
      | none => rw [hp1] at hs; cases hs
      | some p1_ =>
      rw [hp1] at hs
      simp only at hs
      split at hs
      · rename_i b_ hb_
        cases hw : (p1_.all (bfree I G ov (.inl b_)) && p1_.all (fun q_ => biw W q_.1 q_.2)) with
        | false => rw [hw] at hs; cases hs
        | true =>
        rw [hw] at hs
        cases hs
        simp only [Bool.and_eq_true, decide_eq_true_eq] at hk hnn_ hw
        obtain ⟨t_, s', rfl⟩ := bR_top R
        obtain ⟨R1, -, xn, rfl, hxn⟩ := bR_pop R
        obtain ⟨t_, s', rfl⟩ := bR_top R1
        obtain ⟨R2, -, xd, rfl, hxd⟩ := bR_pop R1
        obtain ⟨t_, s', rfl⟩ := bR_top R2
        obtain ⟨R3, -, g1⟩ := bR_pop R2
        obtain ⟨t', s', rfl⟩ := bR_top R3
        obtain ⟨R4, -, xs, rfl, hxs⟩ := bR_pop R3
        obtain ⟨t'', s', rfl⟩ := bR_top R4
        obtain ⟨R5, -, g0⟩ := bR_pop R4
        obtain ⟨a0_, ha0, rfl⟩ := bcel_ok hv0 g0
        obtain ⟨a1_, ha1, rfl⟩ := bcel_ok hv1 g1
        obtain ⟨z0, y1, y2, y3, y4⟩ := bar0_ok hp0 a0_ ha0
        obtain ⟨z1, w1_, w2_, w3_, w4_⟩ := bar0_ok hp1 a1_ ha1
        obtain ⟨c0_, c01, c02, c03, c04, c05⟩ := bR_cell R5 (hz _ _ y1)
        obtain ⟨c1_, c11_, c12_, c13_, c14_, c15_⟩ := bR_cell R5 (hz _ _ w1_)
        have q1_ := brg_ok r1_ (a := rs.1) (b := rs.2) hrs
        have q2_ := brg_ok r1_ (a := rd_.1) (b := rd_.2) hrd
        have q3_ := brg_ok r1_ (a := rn.1) (b := rn.2) hrn
        have q4_ := brg_ok r1_ (a := r0.1) (b := r0.2) hr0
        have q5_ := brg_ok r1_ (a := rr1.1) (b := rr1.2) hr1
        rw [badd_ok] at q4_ q5_
        have ez : ∀ x_ : Int32, x_.toNatClampNeg = x_.toInt.toNat := fun x_ => rfl
        have n1_ : xs.toNatClampNeg + xn.toNatClampNeg ≤ c0_.2.length := by rw [ez, ez]; omega
        have n2_ : xd.toNatClampNeg + xn.toNatClampNeg ≤ c1_.2.length := by rw [ez, ez]; omega
        have b1 : Nat.beq c0_.1 20 = true := by rw [c02, y2]; rfl
        have b2 : Nat.beq c1_.1 20 = true := by rw [c12_, w2_]; rfl
        have e20 : c1_.1 = 20 := c12_.trans w2_
        have m1_ := i32_nn (x_ := xs) (by omega)
        have m2_ := i32_nn (x_ := xd) (by omega)
        have m3_ := i32_nn (x_ := xn) (by omega)
        have r5_ := R5
        obtain ⟨s1_, s2_, s3_, s4_, s5, s6_, s7, s8, s9, sx⟩ := r5_
        have key_ : s'.length = s_.length ∧ s'.all (fun t_ => !(xG t_)) = true := by
          have kk : ∀ {s_ : List bV} {st : List Jvm.Term}, bSr p s_ st → s_.all (fun v_ => !(bgL v_)) = true → st.length = s_.length ∧ st.all (fun t_ => !(xG t_)) = true := by
            intro s_
            induction s_ with
            | nil => intro st k_ _; cases st with
              | nil => exact ⟨rfl, rfl⟩
              | cons u_ w_ => exact absurd k_ id
            | cons v_ t_ ih_ => intro st k_ h; cases st with
              | nil => exact absurd k_ id
              | cons u_ w_ =>
                simp only [List.all_cons, Bool.and_eq_true] at h
                have i1_ := ih_ k_.2 h.2
                refine ⟨by simp only [List.length_cons, i1_.1], ?_⟩
                simp only [List.all_cons, Bool.and_eq_true]
                exact ⟨by rw [bga_G k_.1]; exact h.1, i1_.2⟩
          exact kk s7 hk.2
        have hle : Nat.ble (s'.length + 1 + 1 + 1) 6 = true := by rw [key_.1]; exact hk.1
        have hlen2 : (c1_.2.take xd.toNatClampNeg ++ ((c0_.2.drop xs.toNatClampNeg).take xn.toNatClampNeg ++ c1_.2.drop (xd.toNatClampNeg + xn.toNatClampNeg))).length = c1_.2.length := by
          simp only [List.length_append, List.length_take, List.length_drop]
          omega
        have huu : ∀ (m_ : Nat) (u_ : Jvm.Term), (c1_.2.take xd.toNatClampNeg ++ ((c0_.2.drop xs.toNatClampNeg).take xn.toNatClampNeg ++ c1_.2.drop (xd.toNatClampNeg + xn.toNatClampNeg)))[m_]? = some u_ → c1_.2[m_]? = some u_ ∨ ((a1_, m_) ∈ p1_ ∧ bnv (.inl b_) u_) := by
          intro m_ u_ hu
          have hm_ : m_ < c1_.2.length := by rw [← hlen2]; exact (List.getElem?_eq_some_iff.mp hu).1
          rw [List.getElem?_append] at hu
          split at hu
          · rename_i l1
            rw [List.getElem?_take] at hu
            split at hu
            · exact Or.inl hu
            · cases hu
          · rename_i l1
            rw [List.getElem?_append] at hu
            simp only [List.length_take, List.length_drop] at hu l1
            split at hu
            · rename_i l2
              rw [List.getElem?_take] at hu
              split at hu
              · rw [List.getElem?_drop] at hu
                have hlt := (List.getElem?_eq_some_iff.mp hu).1
                obtain ⟨w_, wa, wb⟩ := bhl_ok hb_ _ (y4 _ (by rw [← c03]; exact hlt))
                exact Or.inr ⟨w4_ m_ (by rw [← c13_]; exact hm_), wb _ (bpl_ok r1_ c04 hu wa)⟩
              · cases hu
            · rename_i l2
              rw [List.getElem?_drop] at hu
              refine Or.inl ?_
              rw [← hu]
              congr 1
              omega
        have hR : bR Z I p (G, n, la, s_, ov.filter (fun r_ => !(bmem p1_ r_.1))) lo s' (h.set a1_ (c1_.1, c1_.2.take xd.toNatClampNeg ++ ((c0_.2.drop xs.toNatClampNeg).take xn.toNatClampNeg ++ c1_.2.drop (xd.toNatClampNeg + xn.toNatClampNeg)))) := by
          exact ⟨s1_, s2_, s3_, s4_, bOl_filter s5, s6_, s7, bHr_weak r1_ s8 c11_ hlen2 huu hw.1, xhw_set s9 (by rw [e20]; exact xokc_20), sx⟩
        refine ⟨p, lo, s', _, fun _ _ => rfl, Nat.le_refl _, hR, bfr_setw c11_ hlen2 (fun m_ u_ hu => (huu m_ u_ hu).imp id (fun q_ => List.all_eq_true.mp hw.2 _ q_.1)), fun kk => ?_⟩
        · have hcm2 := Nat.eq_of_beq_eq_true hcm
          subst hcm2
          have f1_ : Nat.beq 903 901 = false := rfl
          have f2_ : Nat.beq 903 902 = false := rfl
          have f3_ : Nat.beq 20 20 = true := rfl
          have f4_ : ∀ b_ : Nat, xG (.index b_) = false := fun _ => rfl
          have f5_ : ∀ v_ : Int32, xG (.int v_) = false := fun _ => rfl
          simp only [xsp, List.length_cons, hle, List.all_cons, f3_, f4_, f5_, Bool.not_false, Bool.true_and, key_.2, xI, Bool.and_self, cond_true, f1_, f2_, cond_false, hcm, xhg_eq, c01, c11_, b1, b2, m1_, m2_, m3_, Nat.ble_eq_true_of_le n1_, Nat.ble_eq_true_of_le n2_, xfL_eq, xst_eq, xfN_eq, e20]
      · cases hs
    · cases hs
  | _ => cases hs
end
