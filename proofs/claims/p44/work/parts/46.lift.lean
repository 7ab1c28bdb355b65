-- ===== a contract over a wider invariant: the cells of the other side stay as they are
theorem bInv_to {Z : List (Nat × Nat)} {I K_ : Nat → Nat → Option bN} {own_ : Nat → Bool} (h1 : ∀ i_ j_, own_ i_ = true → K_ i_ j_ = I i_ j_) (h2 : ∀ i_ z_ j_ e, Z[i_]? = some z_ → j_ < z_.2 → own_ i_ = false → K_ i_ j_ = some e → ∃ e', I i_ j_ = some e' ∧ ∀ t_, bnv e t_ → bnv e' t_) {h : xH} (H_ : bInv Z K_ h) : bInv Z I h := by
  refine ⟨⟨H_.1.1, fun i_ q_ hq => ?_⟩, H_.2⟩
  obtain ⟨c_, c1_, c2_, c3_, c4_⟩ := H_.1.2 i_ q_ hq
  refine ⟨c_, c1_, c2_, c3_, fun j_ t_ ht => ?_⟩
  have k_ : ∃ e, K_ i_ j_ = some e ∧ bnv e t_ := c4_ j_ t_ ht
  show ∃ e, I i_ j_ = some e ∧ bnv e t_
  obtain ⟨e, k1_, k2_⟩ := k_
  cases ho : own_ i_ with
  | true =>
    rw [h1 i_ j_ ho] at k1_
    exact ⟨e, k1_, k2_⟩
  | false =>
    have hj : j_ < q_.2 := by rw [← c3_]; exact (List.getElem?_eq_some_iff.mp ht).1
    obtain ⟨e', e1_, e2_⟩ := h2 i_ q_ j_ e hq hj ho k1_
    exact ⟨e', e1_, e2_ t_ k2_⟩
theorem bcon_lift {Z : List (Nat × Nat)} {I K_ : Nat → Nat → Option bN} {X_ : xH → Prop} {own_ : Nat → Bool} {c_ : bC} (h1 : ∀ i_ j_, own_ i_ = true → K_ i_ j_ = I i_ j_) (h2 : ∀ i_ z_ j_ e, Z[i_]? = some z_ → j_ < z_.2 → own_ i_ = false → K_ i_ j_ = some e → ∃ e', I i_ j_ = some e' ∧ ∀ t_, bnv e t_ → bnv e' t_) (hW : ∀ i_ j_, own_ i_ = false → biw c_.2.2.2.1 i_ j_ = false) (hc_ : bcon Z I X_ c_) : bcon Z K_ X_ c_ := by
  intro h ts H_ hx P_ Hp
  obtain ⟨t_, h', a1_, a2, a3, a4, a5⟩ := hc_ h ts (bInv_to h1 h2 H_) hx P_ Hp
  refine ⟨t_, h', a1_, ⟨⟨a2.1.1, fun i_ q_ hq => ?_⟩, a2.2⟩, a3, a4, a5⟩
  obtain ⟨c', c1_, c2_, c3_, c4_⟩ := a2.1.2 i_ q_ hq
  refine ⟨c', c1_, c2_, c3_, fun j_ t_ ht => ?_⟩
  show ∃ e, K_ i_ j_ = some e ∧ bnv e t_
  cases ho : own_ i_ with
  | true =>
    have k_ : ∃ e, I i_ j_ = some e ∧ bnv e t_ := c4_ j_ t_ ht
    rw [h1 i_ j_ ho]
    exact k_
  | false =>
    obtain ⟨c0_, d1_, d2_, d3_, d4_⟩ := H_.1.2 i_ q_ hq
    have e1_ := a3 i_ j_ (hW i_ j_ ho)
    rw [bpat_at c1_, bpat_at d1_] at e1_
    exact d4_ j_ t_ (e1_.symm.trans ht)
/-- the two sides' invariants, joined: the class's cells lie ahead of 338 -/
def bIj (i_ j_ : Nat) : Option bN := bif Nat.ble 338 i_ then bIm i_ j_ else bIx i_ j_
def bju (I J_ : Nat → Nat → Option bN) (i_ j_ : Nat) : Bool := match J_ i_ j_ with
  | none => true
  | some e => match I i_ j_ with
    | none => false
    | some e' => bsN e' e
def bjw9 (I J_ : Nat → Nat → Option bN) (i_ : Nat) : Bool := match bzf i_ with
  | none => false
  | some z_ => (List.range z_.2).all (fun j_ => bju I J_ i_ j_)
theorem bjx_all : (List.range 16).all (fun k_ => bjw9 bIx bIm (338 + k_)) = true := by decide +kernel
theorem bjm0 : (List.range 26).all (fun k_ => bjw9 bIm bIx (0 + k_)) = true := by decide +kernel
theorem bjm1 : (List.range 26).all (fun k_ => bjw9 bIm bIx (26 + k_)) = true := by decide +kernel
theorem bjm2 : (List.range 26).all (fun k_ => bjw9 bIm bIx (52 + k_)) = true := by decide +kernel
theorem bjm3 : (List.range 26).all (fun k_ => bjw9 bIm bIx (78 + k_)) = true := by decide +kernel
theorem bjm4 : (List.range 26).all (fun k_ => bjw9 bIm bIx (104 + k_)) = true := by decide +kernel
theorem bjm5 : (List.range 26).all (fun k_ => bjw9 bIm bIx (130 + k_)) = true := by decide +kernel
theorem bjm6 : (List.range 26).all (fun k_ => bjw9 bIm bIx (156 + k_)) = true := by decide +kernel
theorem bjm7 : (List.range 26).all (fun k_ => bjw9 bIm bIx (182 + k_)) = true := by decide +kernel
theorem bjm8 : (List.range 26).all (fun k_ => bjw9 bIm bIx (208 + k_)) = true := by decide +kernel
theorem bjm9 : (List.range 26).all (fun k_ => bjw9 bIm bIx (234 + k_)) = true := by decide +kernel
theorem bjm10 : (List.range 26).all (fun k_ => bjw9 bIm bIx (260 + k_)) = true := by decide +kernel
theorem bjm11 : (List.range 26).all (fun k_ => bjw9 bIm bIx (286 + k_)) = true := by decide +kernel
theorem bjm12 : (List.range 26).all (fun k_ => bjw9 bIm bIx (312 + k_)) = true := by decide +kernel
theorem bjw9_ok {I J_ : Nat → Nat → Option bN} {i_ : Nat} (h : bjw9 I J_ i_ = true) {z_ : Nat × Nat} {j_ : Nat} {e : bN} (hz : bZ[i_]? = some z_) (hj : j_ < z_.2) (he : J_ i_ j_ = some e) : ∃ e', I i_ j_ = some e' ∧ ∀ t_, bnv e t_ → bnv e' t_ := by
  unfold bjw9 at h
  cases hf : bzf i_ with
  | none => rw [hf] at h; cases h
  | some w_ =>
  rw [hf] at h
  have hw := (bzf_ok i_ w_ hf).symm.trans ((xhg_eq bZ i_).trans hz)
  cases hw
  have k_ := List.all_eq_true.mp h j_ (List.mem_range.mpr hj)
  unfold bju at k_
  rw [he] at k_
  cases hI : I i_ j_ with
  | none => simp only [hI] at k_; cases k_
  | some e' =>
    simp only [hI] at k_
    exact ⟨e', rfl, fun t_ ht => bsN_ok k_ ht⟩
theorem bjm_ok {i_ : Nat} (hi_ : i_ < 338) : bjw9 bIm bIx i_ = true := by
  have key_ : ∀ c_, c_ ≤ i_ → i_ < c_ + 26 → (List.range 26).all (fun k_ => bjw9 bIm bIx (c_ + k_)) = true → bjw9 bIm bIx i_ = true := by
    intro c_ h1 h2 h3
    have w_ := List.all_eq_true.mp h3 (i_ - c_) (List.mem_range.mpr (by omega))
    rw [show c_ + (i_ - c_) = i_ by omega] at w_
    exact w_
  rcases Nat.lt_or_ge i_ 26 with q0 | q0
  · exact key_ 0 (by omega) (by omega) bjm0
  rcases Nat.lt_or_ge i_ 52 with q26 | q26
  · exact key_ 26 (by omega) (by omega) bjm1
  rcases Nat.lt_or_ge i_ 78 with q52 | q52
  · exact key_ 52 (by omega) (by omega) bjm2
  rcases Nat.lt_or_ge i_ 104 with q78 | q78
  · exact key_ 78 (by omega) (by omega) bjm3
  rcases Nat.lt_or_ge i_ 130 with q104 | q104
  · exact key_ 104 (by omega) (by omega) bjm4
  rcases Nat.lt_or_ge i_ 156 with q130 | q130
  · exact key_ 130 (by omega) (by omega) bjm5
  rcases Nat.lt_or_ge i_ 182 with q156 | q156
  · exact key_ 156 (by omega) (by omega) bjm6
  rcases Nat.lt_or_ge i_ 208 with q182 | q182
  · exact key_ 182 (by omega) (by omega) bjm7
  rcases Nat.lt_or_ge i_ 234 with q208 | q208
  · exact key_ 208 (by omega) (by omega) bjm8
  rcases Nat.lt_or_ge i_ 260 with q234 | q234
  · exact key_ 234 (by omega) (by omega) bjm9
  rcases Nat.lt_or_ge i_ 286 with q260 | q260
  · exact key_ 260 (by omega) (by omega) bjm10
  rcases Nat.lt_or_ge i_ 312 with q286 | q286
  · exact key_ 286 (by omega) (by omega) bjm11
  exact key_ 312 (by omega) (by omega) bjm12
theorem bjx_ok {i_ : Nat} (h1 : 338 ≤ i_) (h2 : i_ < 354) : bjw9 bIx bIm i_ = true := by
  have w_ := List.all_eq_true.mp bjx_all (i_ - 338) (List.mem_range.mpr (by omega))
  rw [show 338 + (i_ - 338) = i_ by omega] at w_
  exact w_
/-- a contract of the class, over both sides -/
theorem bcon_x {X_ : xH → Prop} {c_ : bC} (hW : c_.2.2.2.1.all (fun q_ => Nat.ble (q_.2.1 + 1) 338) = true) (hc_ : bcon bZ bIx X_ c_) : bcon bZ bIj X_ c_ := by
  refine bcon_lift (own_ := fun i_ => Nat.ble (i_ + 1) 338) (fun i_ j_ ho => ?_) (fun i_ z_ j_ e hz hj ho he => ?_) (fun i_ j_ ho => ?_) hc_
  · have h := Nat.le_of_ble_eq_true ho
    have e : Nat.ble 338 i_ = false := by
      cases q_ : Nat.ble 338 i_ with
      | false => rfl
      | true => have := Nat.le_of_ble_eq_true q_; omega
    show (bif Nat.ble 338 i_ then bIm i_ j_ else bIx i_ j_) = bIx i_ j_
    rw [e]
    rfl
  · have h : 338 ≤ i_ := by
      rcases Nat.lt_or_ge i_ 338 with q_ | q_
      · exact absurd (Nat.ble_eq_true_of_le (show i_ + 1 ≤ 338 by omega)) (by rw [show Nat.ble (i_ + 1) 338 = false from ho]; exact Bool.false_ne_true)
      · exact q_
    have hl : i_ < 354 := by
      have w_ := (List.getElem?_eq_some_iff.mp hz).1
      rw [bZ_len] at w_
      exact w_
    have e1_ : bIm i_ j_ = some e := by
      rw [← he]
      show bIm i_ j_ = (bif Nat.ble 338 i_ then bIm i_ j_ else bIx i_ j_)
      rw [Nat.ble_eq_true_of_le h]
      rfl
    exact bjw9_ok (bjx_ok h hl) hz hj e1_
  · have h : 338 ≤ i_ := by
      rcases Nat.lt_or_ge i_ 338 with q_ | q_
      · exact absurd (Nat.ble_eq_true_of_le (show i_ + 1 ≤ 338 by omega)) (by rw [show Nat.ble (i_ + 1) 338 = false from ho]; exact Bool.false_ne_true)
      · exact q_
    cases e : biw c_.2.2.2.1 i_ j_ with
    | false => rfl
    | true =>
      obtain ⟨q_, hq, hb_⟩ := List.any_eq_true.mp e
      have k_ := Nat.le_of_ble_eq_true (List.all_eq_true.mp hW q_ hq)
      simp only [Bool.and_eq_true] at hb_
      have b2 := Nat.le_of_ble_eq_true hb_.1.2
      omega
/-- a contract of the reference, over both sides -/
theorem bcon_m {X_ : xH → Prop} {c_ : bC} (hW : c_.2.2.2.1.all (fun q_ => Nat.ble 338 q_.1) = true) (hc_ : bcon bZ bIm X_ c_) : bcon bZ bIj X_ c_ := by
  refine bcon_lift (own_ := fun i_ => Nat.ble 338 i_) (fun i_ j_ ho => ?_) (fun i_ z_ j_ e hz hj ho he => ?_) (fun i_ j_ ho => ?_) hc_
  · show (bif Nat.ble 338 i_ then bIm i_ j_ else bIx i_ j_) = bIm i_ j_
    rw [show Nat.ble 338 i_ = true from ho]
    rfl
  · have h : i_ < 338 := by
      rcases Nat.lt_or_ge i_ 338 with q_ | q_
      · exact q_
      · exact absurd (Nat.ble_eq_true_of_le q_) (by rw [show Nat.ble 338 i_ = false from ho]; exact Bool.false_ne_true)
    have e1_ : bIx i_ j_ = some e := by
      rw [← he]
      show bIx i_ j_ = (bif Nat.ble 338 i_ then bIm i_ j_ else bIx i_ j_)
      rw [show Nat.ble 338 i_ = false from ho]
      rfl
    exact bjw9_ok (bjm_ok h) hz hj e1_
  · have h : i_ < 338 := by
      rcases Nat.lt_or_ge i_ 338 with q_ | q_
      · exact q_
      · exact absurd (Nat.ble_eq_true_of_le q_) (by rw [show Nat.ble 338 i_ = false from ho]; exact Bool.false_ne_true)
    cases e : biw c_.2.2.2.1 i_ j_ with
    | false => rfl
    | true =>
      obtain ⟨q_, hq, hb_⟩ := List.any_eq_true.mp e
      have k_ := Nat.le_of_ble_eq_true (List.all_eq_true.mp hW q_ hq)
      simp only [Bool.and_eq_true] at hb_
      have b1 := Nat.le_of_ble_eq_true hb_.1.1
      omega
