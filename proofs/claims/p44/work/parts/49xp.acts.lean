-- ===== image, restore: the reference
theorem inx_ok (x_ : Int32) : inx x_.toInt = (x_ + 1).toInt := by
  have l := Int32.le_toInt x_
  have u_ := Int32.toInt_lt x_
  unfold inx
  by_cases e_ : x_.toInt = 2147483647
  · rw [decide_eq_true e_]
    have k_ : x_ = Int32.ofInt 2147483647 := Int32.toInt_inj.mp (e_.trans (by decide +kernel))
    rw [k_]
    decide +kernel
  · rw [decide_eq_false e_]
    rw [Int32.toInt_add, show (1 : Int32).toInt = 1 from rfl, xbm32 (by omega) (by omega)]
theorem bptl {h_ : xH} {a_ k_ l j_ : Nat} {t_ : Jvm.Term} (c_ : bcq h_ a_ k_ l) (e_ : bpat h_ a_ j_ = some t_) : j_ < l := by
  obtain ⟨d_, d1_, d2_, d3_⟩ := c_
  rw [bpat_at d1_] at e_
  rw [← d3_]
  exact (List.getElem?_eq_some_iff.mp e_).1
theorem tv_at {h_ : xH} {a_ j_ : Nat} {x_ : Int32} (e_ : bpat h_ a_ j_ = some (.int x_)) : tv h_ a_ j_ = x_.toInt := by
  unfold tv
  rw [e_]
/-- an int's place with this number holds this int -/
theorem tv_in {h_ : xH} {a_ j_ : Nat} {x_ : Int32} (B_ : bInv bZ bIj h_) (hk : ink a_ j_ = true) (e_ : tv h_ a_ j_ = x_.toInt) : bpat h_ a_ j_ = some (.int x_) := by
  obtain ⟨y_, ey⟩ := in_ex B_ hk
  rw [tv_at ey] at e_
  rw [ey, Int32.toInt_inj.mp e_]
theorem key_m2 : (wvM.all (fun p_ => Nat.ble (p_.2 + 1) 40) && wrM.all (fun p_ => Nat.ble (p_.2.2.2.2 + 1) 40)) = true := by decide +kernel
/-- a world as the other was -/
theorem MW_cp {b_ q_ b' q' : Nat} {W_ W' : Nat → List Int32} {V V' : Nat → Int32} {h_ h' : xH} (H_ : MW b_ q_ W_ V h_) (f_ : ∀ j_ x_, bpat h_ b_ j_ = some (.int x_) → bpat h' b' j_ = some (.int x_)) (eW : ∀ k_, k_ < 40 → W' (q' + k_) = W_ (q_ + k_)) (eV : ∀ k_, k_ < 40 → V' (q' + k_) = V (q_ + k_)) : MW b' q' W' V' h' := by
  have z_ := key_m2
  rw [Bool.and_eq_true] at z_
  obtain ⟨H1_, H2_, ⟨H3, H4⟩, H5, H6⟩ := H_
  refine ⟨fun p_ hp => ?_, fun p_ hp => ?_, ?_, ?_⟩
  · rw [eV _ (Nat.le_of_ble_eq_true (List.all_eq_true.mp z_.1 p_ hp))]
    exact f_ _ _ (H1_ p_ hp)
  · rw [eW _ (Nat.le_of_ble_eq_true (List.all_eq_true.mp z_.2 p_ hp))]
    exact ⟨f_ _ _ (H2_ p_ hp).1, fun j_ x_ hx => f_ _ _ ((H2_ p_ hp).2 j_ x_ hx)⟩
  · rw [eW 23 (by omega)]
    exact ⟨f_ _ _ H3, fun j_ x_ hx => ⟨f_ _ _ (H4 j_ x_ hx).1, f_ _ _ (H4 j_ x_ hx).2⟩⟩
  · rw [eW 24 (by omega)]
    exact ⟨f_ _ _ H5, fun j_ x_ hx => ⟨f_ _ _ (H6 j_ x_ hx).1, f_ _ _ (H6 j_ x_ hx).2⟩⟩
theorem MS_cp {W_ W' : Nat → List Int32} {V V' : Nat → Int32} {h_ h' : xH} (H_ : MS W_ V h_) (f_ : ∀ c_ j_, c_ = 350 ∨ (c_ = 351 ∨ c_ = 352) → bpat h' c_ j_ = bpat h_ c_ j_) (eW : ∀ k_, k_ < 4 → W' (40 + k_) = W_ (40 + k_)) (eV : ∀ k_, k_ < 8 → V' (210 + k_) = V (210 + k_)) : MS W' V' h' := by
  have G_ := MS_fr H_ f_
  intro k_ hk
  obtain ⟨a1_, a2, a3⟩ := G_ k_ hk
  rw [eW k_ hk, eV (2 * k_) (by omega), show 211 + 2 * k_ = 210 + (2 * k_ + 1) by omega, eV (2 * k_ + 1) (by omega)]
  rw [show 211 + 2 * k_ = 210 + (2 * k_ + 1) by omega] at a2
  exact ⟨a1_, a2, a3⟩
theorem ink_m : ((List.range 768).all (fun j_ => ink 339 j_ && ink 340 j_) && ink 338 2) = true := by decide +kernel
theorem m_image {W_ : Nat → List Int32} {V : Nat → Int32} {h_ : xH} (B_ : bInv bZ bIj h_) (H_ : SM W_ V h_) : ∃ h', (∀ D_, 60 ≤ D_ → xrun D_ 232 0 [(0, .index 338)] [] h_ (some (.int (V 200 + 1)), h', [])) ∧ (bInv bZ bIj h' → SM (imW W_) (imV V) h') := by
  obtain ⟨x_, h', rn, fr_, cp_, ex_, ei⟩ := image_x (bIj_m B_)
  obtain ⟨H1_, ⟨H2_, H3⟩, -, H6, H7⟩ := H_
  rw [tv_at H6, inx_ok] at ex_ ei
  have ex_ := Int32.toInt_inj.mp ex_
  subst ex_
  have kk := ink_m
  rw [Bool.and_eq_true] at kk
  refine ⟨h', fun D_ hD => rn D_ (by omega), fun B' => ?_⟩
  have c9_ : bcq h_ 339 20 768 := bcq_of (n_ := 339) (z_ := (20, 768)) H1_ rfl
  have f9_ : ∀ j_, bpat h' 339 j_ = bpat h_ 339 j_ := fun j_ => fr_ _ _ rfl
  have f0_ : ∀ j_ x_, bpat h_ 339 j_ = some (.int x_) → bpat h' 340 j_ = some (.int x_) := fun j_ x_ e_ => by
    have hj := bptl c9_ e_
    have k_ := List.all_eq_true.mp kk.1 j_ (List.mem_range.mpr hj)
    rw [Bool.and_eq_true] at k_
    exact tv_in B' k_.2 ((cp_ j_ hj).trans (tv_at e_))
  refine ⟨sHp_of B', ⟨MW_cp H2_ (fun j_ x_ e_ => (f9_ j_).trans e_) (fun k_ hk => ?_) (fun k_ hk => ?_), ?_⟩, ⟨MW_cp H2_ f0_ (fun k_ hk => ?_) (fun k_ hk => ?_), Or.inr ?_⟩, ?_, MS_cp H7 (fun c_ j_ hc_ => ?_) (fun k_ hk => ?_) (fun k_ hk => ?_)⟩
  · unfold imW
    rw [if_neg (by omega)]
  · unfold imV
    rw [if_neg (by omega), if_neg (by omega)]
  · have e_ : imV V 4 = V 4 := by
      unfold imV
      rw [if_neg (by omega), if_neg (by omega)]
    rw [e_]
    exact (f9_ 8).trans H3
  · unfold imW
    rw [if_pos (by omega), show 100 + k_ - 100 = 0 + k_ by omega]
  · unfold imV
    rw [if_pos (by omega), show 100 + k_ - 100 = 0 + k_ by omega]
  · have e_ : imV V 104 = V 4 := by
      unfold imV
      rw [if_pos (by omega)]
    rw [e_]
    exact f0_ _ _ H3
  · have e_ : imV V 200 = V 200 + 1 := by
      unfold imV
      rw [if_neg (by omega), if_pos rfl]
    rw [e_]
    exact tv_in B' kk.2 ei
  · rcases hc_ with rfl | rfl | rfl
    · exact fr_ _ _ rfl
    · exact fr_ _ _ rfl
    · exact fr_ _ _ rfl
  · unfold imW
    rw [if_neg (by omega)]
  · unfold imV
    rw [if_neg (by omega), if_neg (by omega)]
theorem m_restore {W_ : Nat → List Int32} {V : Nat → Int32} {h_ : xH} (B_ : bInv bZ bIj h_) (H_ : SM W_ V h_) (g_ : ¬ V 200 = 0) : ∃ y_ h', (∀ D_, 60 ≤ D_ → xrun D_ 233 0 [(0, .index 338)] [] h_ (some (.int y_), h', [])) ∧ (bInv bZ bIj h' → SM (rsW W_) (rsV V) h') := by
  obtain ⟨H1_, -, ⟨H4, H5⟩, H6, H7⟩ := H_
  obtain ⟨x_, h', rn, fr_, cp_, ex_⟩ := restore_x (bIj_m B_) (by
    rw [tv_at H6]
    intro q_
    exact g_ (Int32.toInt_inj.mp q_))
  have kk := ink_m
  rw [Bool.and_eq_true] at kk
  refine ⟨x_, h', fun D_ hD => rn D_ (by omega), fun B' => ?_⟩
  have c0_ : bcq h_ 340 20 768 := bcq_of (n_ := 340) (z_ := (20, 768)) H1_ rfl
  have f9_ : ∀ j_, bpat h' 340 j_ = bpat h_ 340 j_ := fun j_ => fr_ _ _ rfl
  have f0_ : ∀ j_ x_, bpat h_ 340 j_ = some (.int x_) → bpat h' 339 j_ = some (.int x_) := fun j_ x_ e_ => by
    have hj := bptl c0_ e_
    have k_ := List.all_eq_true.mp kk.1 j_ (List.mem_range.mpr hj)
    rw [Bool.and_eq_true] at k_
    exact tv_in B' k_.1 ((cp_ j_ hj).trans (tv_at e_))
  refine ⟨sHp_of B', ⟨MW_cp H4 f0_ (fun k_ hk => ?_) (fun k_ hk => ?_), ?_⟩, ⟨MW_cp H4 (fun j_ x_ e_ => (f9_ j_).trans e_) (fun k_ hk => ?_) (fun k_ hk => ?_), ?_⟩, ?_, MS_cp H7 (fun c_ j_ hc_ => ?_) (fun k_ hk => ?_) (fun k_ hk => ?_)⟩
  · unfold rsW
    rw [if_pos (by omega), show 0 + k_ + 100 = 100 + k_ by omega]
  · unfold rsV
    rw [if_pos (by omega), show 0 + k_ + 100 = 100 + k_ by omega]
  · have e_ : rsV V 4 = V 104 := by
      unfold rsV
      rw [if_pos (by omega)]
    rw [e_]
    rcases H5 with e5_ | e5_
    · exact absurd e5_ g_
    · exact f0_ _ _ e5_
  · unfold rsW
    rw [if_neg (by omega)]
  · unfold rsV
    rw [if_neg (by omega)]
  · have e_ : rsV V 104 = V 104 := by
      unfold rsV
      rw [if_neg (by omega)]
    rw [e_]
    rcases H5 with e5_ | e5_
    · exact absurd e5_ g_
    · exact Or.inr ((f9_ 8).trans e5_)
  · have e_ : rsV V 200 = V 200 := by
      unfold rsV
      rw [if_neg (by omega)]
    rw [e_]
    exact (fr_ _ _ rfl).trans H6
  · rcases hc_ with rfl | rfl | rfl
    · exact fr_ _ _ rfl
    · exact fr_ _ _ rfl
    · exact fr_ _ _ rfl
  · unfold rsW
    rw [if_neg (by omega)]
  · unfold rsV
    rw [if_neg (by omega)]
