-- ===== THE STATE: rows by keys (W), ints by keys (V); what the class holds of it, what the reference holds of it
def upR (W_ : Nat → List Int32) (k_ : Nat) (l : List Int32) (j_ : Nat) : List Int32 := if j_ = k_ then l else W_ j_
def upI (V : Nat → Int32) (k_ : Nat) (x_ : Int32) (j_ : Nat) : Int32 := if j_ = k_ then x_ else V j_
theorem upR_eq {W_ : Nat → List Int32} {k_ : Nat} {l : List Int32} : upR W_ k_ l k_ = l := if_pos rfl
theorem upI_eq {V : Nat → Int32} {k_ : Nat} {x_ : Int32} : upI V k_ x_ k_ = x_ := if_pos rfl
theorem upR_ne {W_ : Nat → List Int32} {k_ j_ : Nat} {l : List Int32} (h_ : ¬ j_ = k_) : upR W_ k_ l j_ = W_ j_ := if_neg h_
theorem upI_ne {V : Nat → Int32} {k_ j_ : Nat} {x_ : Int32} (h_ : ¬ j_ = k_) : upI V k_ x_ j_ = V j_ := if_neg h_
/-- a world's ints: their places in the class, their keys -/
def wvX : List ((Nat × Nat) × Nat) := [((1, 9), 0), ((1, 10), 1), ((1, 12), 3), ((1, 13), 4), ((58, 0), 10), ((58, 1), 11), ((58, 2), 12), ((59, 0), 13), ((59, 1), 14), ((59, 2), 15), ((60, 0), 16), ((60, 1), 17), ((60, 2), 18), ((61, 0), 19), ((61, 1), 20), ((61, 2), 21), ((62, 0), 22), ((62, 1), 23), ((62, 2), 24), ((63, 0), 25), ((63, 1), 26), ((63, 2), 27), ((64, 0), 28), ((64, 1), 29), ((64, 2), 30), ((65, 0), 31), ((65, 1), 32), ((65, 2), 33)]
/-- a world's rows: their cells in the class, how much they take, their keys: CALLS, THE TAPE, what waits, times of ECHOES, TEXTS, their CALLS and ROCKS -/
def wrX : List (Nat × Nat × Nat × Nat) := [(34, 35, 12, 0), (36, 37, 12, 1), (38, 39, 12, 2), (40, 41, 12, 3), (42, 43, 12, 4), (44, 45, 12, 5), (46, 47, 12, 6), (48, 49, 12, 7), (50, 51, 12, 8), (52, 53, 12, 9), (54, 55, 12, 10), (56, 57, 12, 11), (5, 6, 60, 20), (7, 8, 24, 21), (67, 68, 60, 23), (71, 72, 60, 24)]
def XW (o q_ : Nat) (W_ : Nat → List Int32) (V : Nat → Int32) (h_ : xH) : Prop := (∀ p_ ∈ wvX, bpat h_ (p_.1.1 + o) p_.1.2 = some (.int (V (q_ + p_.2)))) ∧ ∀ p_ ∈ wrX, rwx h_ (p_.1 + o) (p_.2.1 + o) p_.2.2.1 (W_ (q_ + p_.2.2.2))
/-- SHEETS, the class -/
def XS (W_ : Nat → List Int32) (V : Nat → Int32) (h_ : xH) : Prop := ∀ k_, k_ < 4 → bpat h_ (324 + 2 * k_) 1 = some (.int (V (210 + 2 * k_))) ∧ (bpat h_ (324 + 2 * k_) 2 = some (.int (V (211 + 2 * k_))) ∧ ∀ j_ x_, (W_ (40 + k_))[j_]? = some x_ → bpat h_ (325 + 2 * k_) j_ = some (.int x_))
def SX (W_ : Nat → List Int32) (V : Nat → Int32) (h_ : xH) : Prop := sHp h_ ∧ (XW 0 0 W_ V h_ ∧ (XW 73 100 W_ V h_ ∧ (bpat h_ 0 14 = some (.int (V 200)) ∧ XS W_ V h_)))
/-- the same of the reference: places of one row of numbers -/
def wvM : List (Nat × Nat) := [(0, 0), (1, 1), (5, 3), (10, 10), (11, 11), (12, 12), (13, 13), (14, 14), (15, 15), (16, 16), (17, 17), (18, 18), (19, 19), (20, 20), (21, 21), (22, 22), (23, 23), (24, 24), (25, 25), (26, 26), (27, 27), (28, 28), (29, 29), (30, 30), (31, 31), (32, 32), (33, 33)]
/-- place of the size, of the first, from one to the next, how many at most, key -/
def wrM : List (Nat × Nat × Nat × Nat × Nat) := [(34, 35, 1, 12, 0), (47, 48, 1, 12, 1), (60, 61, 1, 12, 2), (73, 74, 1, 12, 3), (86, 87, 1, 12, 4), (99, 100, 1, 12, 5), (112, 113, 1, 12, 6), (125, 126, 1, 12, 7), (138, 139, 1, 12, 8), (151, 152, 1, 12, 9), (164, 165, 1, 12, 10), (177, 178, 1, 12, 11), (6, 684, 1, 60, 20), (7, 744, 1, 24, 21)]
def rwq (h_ : xH) (b_ s_ t_ d_ : Nat) (l : List Int32) : Prop := bpat h_ b_ s_ = some (.int (Int32.ofNat l.length)) ∧ ∀ j_ x_, l[j_]? = some x_ → bpat h_ b_ (t_ + d_ * j_) = some (.int x_)
/-- a step of the class's TEXT as the reference keeps it -/
def yof (u_ : Nat) (x_ : Int32) : Int32 × Int32 := if x_.toInt < 10000 then (0, x_) else if x_.toInt < 10004 then (1, Int32.ofNat (nmc u_ (x_.toInt.toNat - 10000))) else if x_ = 20033 then (2, 0) else (3, x_ - 20000)
def txq (h_ : xH) (b_ s_ u_ : Nat) (xs : List Int32) : Prop := bpat h_ b_ s_ = some (.int (Int32.ofNat xs.length)) ∧ ∀ j_ x_, xs[j_]? = some x_ → bpat h_ b_ (s_ + 1 + 2 * j_) = some (.int (yof u_ x_).1) ∧ bpat h_ b_ (s_ + 2 + 2 * j_) = some (.int (yof u_ x_).2)
def MW (b_ q_ : Nat) (W_ : Nat → List Int32) (V : Nat → Int32) (h_ : xH) : Prop := (∀ p_ ∈ wvM, bpat h_ b_ p_.1 = some (.int (V (q_ + p_.2)))) ∧ ((∀ p_ ∈ wrM, rwq h_ b_ p_.1 p_.2.1 p_.2.2.1 (W_ (q_ + p_.2.2.2.2))) ∧ (txq h_ b_ 434 0 (W_ (q_ + 23)) ∧ txq h_ b_ 559 1 (W_ (q_ + 24))))
def MS (W_ : Nat → List Int32) (V : Nat → Int32) (h_ : xH) : Prop := ∀ k_, k_ < 4 → bpat h_ 350 k_ = some (.int (V (210 + 2 * k_))) ∧ (bpat h_ 351 k_ = some (.int (V (211 + 2 * k_))) ∧ ∀ j_ x_, (W_ (40 + k_))[j_]? = some x_ → bpat h_ 352 (24 * k_ + j_) = some (.int x_))
def SM (W_ : Nat → List Int32) (V : Nat → Int32) (h_ : xH) : Prop := sHp h_ ∧ ((MW 339 0 W_ V h_ ∧ bpat h_ 339 8 = some (.int (V 4))) ∧ ((MW 340 100 W_ V h_ ∧ (V 200 = 0 ∨ bpat h_ 340 8 = some (.int (V 104)))) ∧ (bpat h_ 338 2 = some (.int (V 200)) ∧ MS W_ V h_)))
/-- a SOUND -/
def snd_ (x_ : Int32) : Prop := 0 ≤ x_.toInt ∧ (x_.toInt ≤ 53 ∨ (60 ≤ x_.toInt ∧ x_.toInt ≤ 99))
def snds (l : List Int32) : Prop := ∀ x_ ∈ l, snd_ x_
def i3b (x_ : Int32) (u_ : Int) : Prop := 0 ≤ x_.toInt ∧ x_.toInt ≤ u_
/-- what holds of each world -/
def okW (q_ : Nat) (W_ : Nat → List Int32) (V : Nat → Int32) : Prop := ((i3b (V q_) 12 ∧ i3b (V (q_ + 1)) 8) ∧ ((i3b (V (q_ + 2)) 9999 ∧ i3b (V (q_ + 3)) 1048575) ∧ i3b (V (q_ + 5)) 8)) ∧ ((∀ k_, k_ < 8 → i3b (V (q_ + 10 + 3 * k_)) 6 ∧ (i3b (V (q_ + 11 + 3 * k_)) 9 ∧ i3b (V (q_ + 12 + 3 * k_)) 20)) ∧ ((∀ c_, c_ < 12 → (W_ (q_ + c_)).length ≤ 12 ∧ snds (W_ (q_ + c_))) ∧ (((W_ (q_ + 20)).length ≤ 60 ∧ ∀ x_ ∈ W_ (q_ + 20), i3b x_ 255) ∧ ((W_ (q_ + 21)).length ≤ 24 ∧ (((W_ (q_ + 22)).length ≤ 10 ∧ ((W_ (q_ + 26)).length = (W_ (q_ + 22)).length ∧ (W_ (q_ + 27)).length = (W_ (q_ + 22)).length)) ∧ ∀ u_, u_ < 2 → (W_ (q_ + 23 + u_)).length ≤ 60 ∧ ((∀ x_ ∈ W_ (q_ + 23 + u_), okx x_) ∧ (¬ W_ (q_ + 23 + u_) = [] → evk (W_ (q_ + 23 + u_)))))))))
def okS (W_ : Nat → List Int32) (V : Nat → Int32) : Prop := okW 0 W_ V ∧ (okW 100 W_ V ∧ ∀ k_, k_ < 4 → ((W_ (40 + k_)).length = 24 ∧ ((V (210 + 2 * k_)).toInt = 0 ∨ ((V (210 + 2 * k_)).toInt = 8 ∨ ((V (210 + 2 * k_)).toInt = 16 ∨ (V (210 + 2 * k_)).toInt = 32)))) ∧ i3b (V (211 + 2 * k_)) 24)
/-- BOTH SIDES HOLD THE SAME -/
def RS (h_ : xH) : Prop := ∃ W_ V, okS W_ V ∧ (SX W_ V h_ ∧ SM W_ V h_)
-- ===== what is not touched stays: the cells of the class's that SX reads; the places of the reference's
def sxc (c_ : Nat) : Bool := [0, 1, 5, 6, 7, 8, 34, 35, 36, 37, 38, 39, 40, 41, 42, 43, 44, 45, 46, 47, 48, 49, 50, 51, 52, 53, 54, 55, 56, 57, 58, 59, 60, 61, 62, 63, 64, 65, 67, 68, 71, 72, 74, 78, 79, 80, 81, 107, 108, 109, 110, 111, 112, 113, 114, 115, 116, 117, 118, 119, 120, 121, 122, 123, 124, 125, 126, 127, 128, 129, 130, 131, 132, 133, 134, 135, 136, 137, 138, 140, 141, 144, 145, 324, 325, 326, 327, 328, 329, 330, 331].any (Nat.beq c_)
def smc (c_ j_ : Nat) : Bool := (Nat.beq c_ 339 || Nat.beq c_ 340) || ((Nat.beq c_ 350 || Nat.beq c_ 351) || (Nat.beq c_ 352 || (Nat.beq c_ 338 && Nat.beq j_ 2)))
theorem sxc_v : wvX.all (fun p_ => sxc p_.1.1 && sxc (p_.1.1 + 73)) = true := by decide +kernel
theorem sxc_r : wrX.all (fun p_ => (sxc p_.1 && sxc (p_.1 + 73)) && (sxc p_.2.1 && sxc (p_.2.1 + 73))) = true := by decide +kernel
theorem sxc_s : (List.range 4).all (fun k_ => sxc (324 + 2 * k_) && sxc (325 + 2 * k_)) = true := by decide +kernel
theorem XW_fr {o q_ : Nat} {W_ : Nat → List Int32} {V : Nat → Int32} {h_ h' : xH} (H_ : XW o q_ W_ V h_) (m_ : ysm h_ h') (ho : o = 0 ∨ o = 73) (f_ : ∀ c_ j_, sxc c_ = true → bpat h' c_ j_ = bpat h_ c_ j_) : XW o q_ W_ V h' := by
  refine ⟨fun p_ hp => ?_, fun p_ hp => ?_⟩
  · have k_ := List.all_eq_true.mp sxc_v p_ hp
    rw [Bool.and_eq_true] at k_
    have e_ : sxc (p_.1.1 + o) = true := by
      rcases ho with rfl | rfl
      · exact k_.1
      · exact k_.2
    exact (f_ _ _ e_).trans (H_.1 p_ hp)
  · have k_ := List.all_eq_true.mp sxc_r p_ hp
    simp only [Bool.and_eq_true] at k_
    have e1_ : sxc (p_.1 + o) = true := by
      rcases ho with rfl | rfl
      · exact k_.1.1
      · exact k_.1.2
    have e2_ : sxc (p_.2.1 + o) = true := by
      rcases ho with rfl | rfl
      · exact k_.2.1
      · exact k_.2.2
    refine rwx_keep (H_.2 p_ hp) m_ (fun c_ j_ hc_ => ?_)
    rcases hc_ with rfl | rfl
    · exact f_ _ _ e1_
    · exact f_ _ _ e2_
theorem XS_fr {W_ : Nat → List Int32} {V : Nat → Int32} {h_ h' : xH} (H_ : XS W_ V h_) (f_ : ∀ c_ j_, sxc c_ = true → bpat h' c_ j_ = bpat h_ c_ j_) : XS W_ V h' := by
  intro k_ hk
  have e_ := List.all_eq_true.mp sxc_s k_ (List.mem_range.mpr hk)
  rw [Bool.and_eq_true] at e_
  obtain ⟨a1_, a2, a3⟩ := H_ k_ hk
  exact ⟨(f_ _ _ e_.1).trans a1_, (f_ _ _ e_.1).trans a2, fun j_ x_ hx => (f_ _ _ e_.2).trans (a3 j_ x_ hx)⟩
theorem SX_fr {W_ : Nat → List Int32} {V : Nat → Int32} {h_ h' : xH} (H_ : SX W_ V h_) (m_ : ysm h_ h') (f_ : ∀ c_ j_, sxc c_ = true → bpat h' c_ j_ = bpat h_ c_ j_) : SX W_ V h' := ⟨m_.1, XW_fr H_.2.1 m_ (Or.inl rfl) f_, XW_fr H_.2.2.1 m_ (Or.inr rfl) f_, (f_ 0 14 (by decide)).trans H_.2.2.2.1, XS_fr H_.2.2.2.2 f_⟩
theorem MW_fr {b_ q_ : Nat} {W_ : Nat → List Int32} {V : Nat → Int32} {h_ h' : xH} (H_ : MW b_ q_ W_ V h_) (f_ : ∀ j_, bpat h' b_ j_ = bpat h_ b_ j_) : MW b_ q_ W_ V h' := ⟨fun p_ hp => (f_ _).trans (H_.1 p_ hp), fun p_ hp => ⟨(f_ _).trans (H_.2.1 p_ hp).1, fun j_ x_ hx => (f_ _).trans ((H_.2.1 p_ hp).2 j_ x_ hx)⟩, ⟨(f_ _).trans H_.2.2.1.1, fun j_ x_ hx => ⟨(f_ _).trans (H_.2.2.1.2 j_ x_ hx).1, (f_ _).trans (H_.2.2.1.2 j_ x_ hx).2⟩⟩, ⟨(f_ _).trans H_.2.2.2.1, fun j_ x_ hx => ⟨(f_ _).trans (H_.2.2.2.2 j_ x_ hx).1, (f_ _).trans (H_.2.2.2.2 j_ x_ hx).2⟩⟩⟩
theorem MS_fr {W_ : Nat → List Int32} {V : Nat → Int32} {h_ h' : xH} (H_ : MS W_ V h_) (f_ : ∀ c_ j_, c_ = 350 ∨ (c_ = 351 ∨ c_ = 352) → bpat h' c_ j_ = bpat h_ c_ j_) : MS W_ V h' := fun k_ hk => ⟨(f_ _ _ (Or.inl rfl)).trans (H_ k_ hk).1, (f_ _ _ (Or.inr (Or.inl rfl))).trans (H_ k_ hk).2.1, fun j_ x_ hx => (f_ _ _ (Or.inr (Or.inr rfl))).trans ((H_ k_ hk).2.2 j_ x_ hx)⟩
theorem SM_fr {W_ : Nat → List Int32} {V : Nat → Int32} {h_ h' : xH} (H_ : SM W_ V h_) (m_ : ysm h_ h') (f_ : ∀ c_ j_, smc c_ j_ = true → bpat h' c_ j_ = bpat h_ c_ j_) : SM W_ V h' := by
  have f9_ : ∀ j_, bpat h' 339 j_ = bpat h_ 339 j_ := fun j_ => f_ _ _ rfl
  have f0_ : ∀ j_, bpat h' 340 j_ = bpat h_ 340 j_ := fun j_ => f_ _ _ rfl
  refine ⟨m_.1, ⟨MW_fr H_.2.1.1 f9_, (f9_ 8).trans H_.2.1.2⟩, ⟨MW_fr H_.2.2.1.1 f0_, ?_⟩, (f_ 338 2 rfl).trans H_.2.2.2.1, MS_fr H_.2.2.2.2 (fun c_ j_ hc_ => ?_)⟩
  · rcases H_.2.2.1.2 with e_ | e_
    · exact Or.inl e_
    · exact Or.inr ((f0_ 8).trans e_)
  · rcases hc_ with rfl | rfl | rfl
    · exact f_ _ _ rfl
    · exact f_ _ _ rfl
    · exact f_ _ _ rfl
-- ===== the class: one int of the live world, one row of it, both
theorem wvX_u : wvX.all (fun p_ => wvX.all (fun q_ => (decide (p_.1 = q_.1)) == decide (p_.2 = q_.2)) && (wrX.all (fun q_ => !(decide (p_.1.1 = q_.1)) && !(decide (p_.1.1 = q_.2.1)))  && (wrX.all (fun q_ => !(decide (p_.1.1 = q_.1 + 73)) && !(decide (p_.1.1 = q_.2.1 + 73))) && !(wvX.any (fun q_ => decide (p_.1.1 = q_.1.1 + 73)))))) = true := by decide +kernel
theorem wrX_u : wrX.all (fun p_ => wrX.all (fun q_ => ((decide (p_.1 = q_.1)) == decide (p_.2.2.2 = q_.2.2.2)) && (((decide (p_.2.1 = q_.2.1)) == decide (p_.2.2.2 = q_.2.2.2)) && (!(decide (p_.1 = q_.2.1)) && ((!(decide (p_.1 = q_.1 + 73)) && !(decide (p_.2.1 = q_.2.1 + 73))) && (!(decide (p_.1 = q_.2.1 + 73)) && !(decide (p_.2.1 = q_.1 + 73)))))))) = true := by decide +kernel
theorem wvX_k {p_ q_ : (Nat × Nat) × Nat} (hp : p_ ∈ wvX) (hq : q_ ∈ wvX) : p_.1 = q_.1 ↔ p_.2 = q_.2 := by
  have k_ := List.all_eq_true.mp wvX_u p_ hp
  simp only [Bool.and_eq_true] at k_
  have e_ := List.all_eq_true.mp k_.1 q_ hq
  have e_ := beq_iff_eq.mp e_
  exact decide_eq_decide.mp e_
theorem wvX_r {p_ : (Nat × Nat) × Nat} {q_ : Nat × Nat × Nat × Nat} (hp : p_ ∈ wvX) (hq : q_ ∈ wrX) : ¬ p_.1.1 = q_.1 ∧ ¬ p_.1.1 = q_.2.1 := by
  have k_ := List.all_eq_true.mp wvX_u p_ hp
  simp only [Bool.and_eq_true] at k_
  have e_ := List.all_eq_true.mp k_.2.1 q_ hq
  simp only [Bool.and_eq_true, Bool.not_eq_true', decide_eq_false_iff_not] at e_
  exact e_
theorem wrX_k {p_ q_ : Nat × Nat × Nat × Nat} (hp : p_ ∈ wrX) (hq : q_ ∈ wrX) : (p_.1 = q_.1 ↔ p_.2.2.2 = q_.2.2.2) ∧ ((p_.2.1 = q_.2.1 ↔ p_.2.2.2 = q_.2.2.2) ∧ ¬ p_.1 = q_.2.1) := by
  have k_ := List.all_eq_true.mp (List.all_eq_true.mp wrX_u p_ hp) q_ hq
  simp only [Bool.and_eq_true, Bool.not_eq_true', decide_eq_false_iff_not] at k_
  exact ⟨decide_eq_decide.mp (beq_iff_eq.mp k_.1), decide_eq_decide.mp (beq_iff_eq.mp k_.2.1), k_.2.2.1⟩
/-- cells of the live world's alone -/
def sxl (c_ : Nat) : Bool := wvX.any (fun p_ => decide (p_.1.1 = c_)) || wrX.any (fun p_ => decide (p_.1 = c_) || decide (p_.2.1 = c_))
theorem sxl_k1 : wvX.all (fun p_ => !(sxl (p_.1.1 + 73))) = true := by decide +kernel
theorem sxl_k2 : wrX.all (fun p_ => !(sxl (p_.1 + 73)) && !(sxl (p_.2.1 + 73))) = true := by decide +kernel
theorem sxl_k3 : (List.range 4).all (fun k_ => !(sxl (324 + 2 * k_)) && !(sxl (325 + 2 * k_))) = true := by decide +kernel
theorem sxl_k4 : sxl 0 = false := by decide +kernel
theorem sxl_v {p_ : (Nat × Nat) × Nat} (hp : p_ ∈ wvX) : sxl p_.1.1 = true := by
  unfold sxl
  rw [Bool.or_eq_true]
  exact Or.inl (List.any_eq_true.mpr ⟨p_, hp, decide_eq_true rfl⟩)
theorem sxl_r {p_ : Nat × Nat × Nat × Nat} (hp : p_ ∈ wrX) : sxl p_.1 = true ∧ sxl p_.2.1 = true := by
  unfold sxl
  constructor
  · rw [Bool.or_eq_true]
    refine Or.inr (List.any_eq_true.mpr ⟨p_, hp, ?_⟩)
    rw [Bool.or_eq_true]
    exact Or.inl (decide_eq_true rfl)
  · rw [Bool.or_eq_true]
    refine Or.inr (List.any_eq_true.mpr ⟨p_, hp, ?_⟩)
    rw [Bool.or_eq_true]
    exact Or.inr (decide_eq_true rfl)
/-- the live world anew, all else as it was -/
theorem SX_live {W_ W' : Nat → List Int32} {V V' : Nat → Int32} {h_ h' : xH} (H_ : SX W_ V h_) (m_ : ysm h_ h') (L_ : XW 0 0 W' V' h') (f_ : ∀ c_ j_, sxc c_ = true → sxl c_ = false → bpat h' c_ j_ = bpat h_ c_ j_) (eW : ∀ k_, 40 ≤ k_ → W' k_ = W_ k_) (eV : ∀ k_, 40 ≤ k_ → V' k_ = V k_) : SX W' V' h' := by
  obtain ⟨H1_, H2_, H3, H4, H5⟩ := H_
  refine ⟨m_.1, L_, ⟨fun p_ hp => ?_, fun p_ hp => ?_⟩, ?_, fun k_ hk => ?_⟩
  · have k_ := List.all_eq_true.mp sxc_v p_ hp
    rw [Bool.and_eq_true] at k_
    have y_ := List.all_eq_true.mp sxl_k1 p_ hp
    rw [Bool.not_eq_true'] at y_
    rw [eV _ (by omega)]
    exact (f_ _ _ k_.2 y_).trans (H3.1 p_ hp)
  · have k_ := List.all_eq_true.mp sxc_r p_ hp
    simp only [Bool.and_eq_true] at k_
    have y_ := List.all_eq_true.mp sxl_k2 p_ hp
    simp only [Bool.and_eq_true, Bool.not_eq_true'] at y_
    rw [eW _ (by omega)]
    refine rwx_keep (H3.2 p_ hp) m_ (fun c_ j_ hc_ => ?_)
    rcases hc_ with rfl | rfl
    · exact f_ _ _ k_.1.2 y_.1
    · exact f_ _ _ k_.2.2 y_.2
  · rw [eV _ (by omega)]
    exact (f_ 0 14 (by decide) sxl_k4).trans H4
  · have e_ := List.all_eq_true.mp sxc_s k_ (List.mem_range.mpr hk)
    rw [Bool.and_eq_true] at e_
    have y_ := List.all_eq_true.mp sxl_k3 k_ (List.mem_range.mpr hk)
    simp only [Bool.and_eq_true, Bool.not_eq_true'] at y_
    obtain ⟨a1_, a2, a3⟩ := H5 k_ hk
    rw [eV _ (by omega), eV _ (by omega), eW _ (by omega)]
    exact ⟨(f_ _ _ e_.1 y_.1).trans a1_, (f_ _ _ e_.1 y_.1).trans a2, fun j_ x_ hx => (f_ _ _ e_.2 y_.2).trans (a3 j_ x_ hx)⟩
/-- ints with keys D, rows with keys E anew -/
theorem XW_up {W_ W' : Nat → List Int32} {V V' : Nat → Int32} {h_ h' : xH} {D_ E_ : Nat → Prop} (H_ : XW 0 0 W_ V h_) (m_ : ysm h_ h') (hV : ∀ k_, ¬ D_ k_ → V' k_ = V k_) (hW : ∀ k_, ¬ E_ k_ → W' k_ = W_ k_) (fv : ∀ p_ ∈ wvX, ¬ D_ p_.2 → bpat h' p_.1.1 p_.1.2 = bpat h_ p_.1.1 p_.1.2) (ev_ : ∀ p_ ∈ wvX, D_ p_.2 → bpat h' p_.1.1 p_.1.2 = some (.int (V' p_.2))) (fr_ : ∀ p_ ∈ wrX, ¬ E_ p_.2.2.2 → ∀ j_, bpat h' p_.1 j_ = bpat h_ p_.1 j_ ∧ bpat h' p_.2.1 j_ = bpat h_ p_.2.1 j_) (er : ∀ p_ ∈ wrX, E_ p_.2.2.2 → rwx h' p_.1 p_.2.1 p_.2.2.1 (W' p_.2.2.2)) : XW 0 0 W' V' h' := by
  refine ⟨fun p_ hp => ?_, fun p_ hp => ?_⟩
  · rw [Nat.add_zero, Nat.zero_add]
    by_cases d_ : D_ p_.2
    · exact ev_ p_ hp d_
    · have e_ := H_.1 p_ hp
      rw [Nat.add_zero, Nat.zero_add] at e_
      rw [hV _ d_, fv p_ hp d_]
      exact e_
  · rw [Nat.add_zero, Nat.add_zero, Nat.zero_add]
    by_cases d_ : E_ p_.2.2.2
    · exact er p_ hp d_
    · have e_ := H_.2 p_ hp
      rw [Nat.add_zero, Nat.add_zero, Nat.zero_add] at e_
      rw [hW _ d_]
      refine rwx_keep e_ m_ (fun c_ j_ hc_ => ?_)
      rcases hc_ with rfl | rfl
      · exact (fr_ p_ hp d_ j_).1
      · exact (fr_ p_ hp d_ j_).2
/-- one int -/
theorem SX_i {W_ : Nat → List Int32} {V : Nat → Int32} {h_ h' : xH} {a_ i_ k_ : Nat} {y_ : Int32} (H_ : SX W_ V h_) (m_ : ysm h_ h') (hk : ((a_, i_), k_) ∈ wvX) (e_ : bpat h' a_ i_ = some (.int y_)) (f_ : ∀ c_ j_, sxc c_ = true → ¬ (c_ = a_ ∧ j_ = i_) → bpat h' c_ j_ = bpat h_ c_ j_) : SX W_ (upI V k_ y_) h' := by
  have k40 : k_ < 40 := by
    have w_ : wvX.all (fun p_ => Nat.ble (p_.2 + 1) 40) = true := by decide +kernel
    exact Nat.le_of_ble_eq_true (List.all_eq_true.mp w_ _ hk)
  have la : sxl a_ = true := sxl_v hk
  refine SX_live H_ m_ (XW_up (D_ := fun j_ => j_ = k_) (E_ := fun _ => False) H_.2.1 m_ (fun j_ n_ => upI_ne n_) (fun _ _ => rfl) (fun p_ hp n_ => ?_) (fun p_ hp d_ => ?_) (fun p_ hp _ j_ => ?_) (fun p_ hp d_ => d_.elim)) (fun c_ j_ hc_ hl => f_ c_ j_ hc_ (fun q_ => ?_)) (fun _ _ => rfl) (fun j_ hj => upI_ne (by omega))
  · have s_ := List.all_eq_true.mp sxc_v p_ hp
    rw [Bool.and_eq_true] at s_
    refine f_ _ _ s_.1 (fun q_ => n_ ?_)
    exact (wvX_k hp hk).mp (Prod.ext q_.1 q_.2)
  · have g_ := (wvX_k hp hk).mpr d_
    rw [g_, d_, upI_eq]
    exact e_
  · have s_ := List.all_eq_true.mp sxc_r p_ hp
    simp only [Bool.and_eq_true] at s_
    have r_ := wvX_r hk hp
    exact ⟨f_ _ _ s_.1.1 (fun q_ => r_.1 q_.1.symm), f_ _ _ s_.2.1 (fun q_ => r_.2 q_.1.symm)⟩
  · rw [q_.1, la] at hl
    cases hl
/-- one row -/
theorem SX_r {W_ : Nat → List Int32} {V : Nat → Int32} {h_ h' : xH} {a_ b_ n_ k_ : Nat} {l : List Int32} (H_ : SX W_ V h_) (m_ : ysm h_ h') (hk : (a_, b_, n_, k_) ∈ wrX) (R_ : rwx h' a_ b_ n_ l) (f_ : ∀ c_ j_, sxc c_ = true → ¬ c_ = a_ → ¬ c_ = b_ → bpat h' c_ j_ = bpat h_ c_ j_) : SX (upR W_ k_ l) V h' := by
  have k40 : k_ < 40 := by
    have w_ : wrX.all (fun p_ => Nat.ble (p_.2.2.2 + 1) 40) = true := by decide +kernel
    exact Nat.le_of_ble_eq_true (List.all_eq_true.mp w_ _ hk)
  have la := sxl_r hk
  refine SX_live H_ m_ (XW_up (D_ := fun _ => False) (E_ := fun j_ => j_ = k_) H_.2.1 m_ (fun _ _ => rfl) (fun j_ n_ => upR_ne n_) (fun p_ hp n_ => ?_) (fun p_ hp d_ => d_.elim) (fun p_ hp n_ j_ => ?_) (fun p_ hp d_ => ?_)) (fun c_ j_ hc_ hl => f_ c_ j_ hc_ (fun q_ => ?_) (fun q_ => ?_)) (fun j_ hj => upR_ne (by omega)) (fun _ _ => rfl)
  · have s_ := List.all_eq_true.mp sxc_v p_ hp
    rw [Bool.and_eq_true] at s_
    have r_ := wvX_r hp hk
    exact f_ _ _ s_.1 r_.1 r_.2
  · have s_ := List.all_eq_true.mp sxc_r p_ hp
    simp only [Bool.and_eq_true] at s_
    have u_ := wrX_k hp hk
    have u2_ := wrX_k hk hp
    exact ⟨f_ _ _ s_.1.1 (fun q_ => n_ (u_.1.mp q_)) u_.2.2, f_ _ _ s_.2.1 (fun q_ => u2_.2.2 q_.symm) (fun q_ => n_ (u_.2.1.mp q_))⟩
  · have u_ := wrX_k hp hk
    have w_ : wrX.all (fun p_ => wrX.all (fun q_ => !(decide (p_.2.2.2 = q_.2.2.2)) || decide (p_ = q_))) = true := by decide +kernel
    have w2_ := List.all_eq_true.mp (List.all_eq_true.mp w_ p_ hp) _ hk
    rw [Bool.or_eq_true, Bool.not_eq_true', decide_eq_false_iff_not] at w2_
    rcases w2_ with w2_ | w2_
    · exact absurd d_ w2_
    · have w2_ := of_decide_eq_true w2_
      subst w2_
      rw [upR_eq]
      exact R_
  · rw [q_, la.1] at hl
    cases hl
  · rw [q_, la.2] at hl
    cases hl
/-- one int and one row -/
theorem SX_ir {W_ : Nat → List Int32} {V : Nat → Int32} {h_ h' : xH} {a0_ i_ k0_ a_ b_ n_ k_ : Nat} {y_ : Int32} {l : List Int32} (H_ : SX W_ V h_) (m_ : ysm h_ h') (hv : ((a0_, i_), k0_) ∈ wvX) (hk : (a_, b_, n_, k_) ∈ wrX) (e_ : bpat h' a0_ i_ = some (.int y_)) (R_ : rwx h' a_ b_ n_ l) (f_ : ∀ c_ j_, sxc c_ = true → ¬ (c_ = a0_ ∧ j_ = i_) → ¬ c_ = a_ → ¬ c_ = b_ → bpat h' c_ j_ = bpat h_ c_ j_) : SX (upR W_ k_ l) (upI V k0_ y_) h' := by
  have v40 : k0_ < 40 := by
    have w_ : wvX.all (fun p_ => Nat.ble (p_.2 + 1) 40) = true := by decide +kernel
    exact Nat.le_of_ble_eq_true (List.all_eq_true.mp w_ _ hv)
  have k40 : k_ < 40 := by
    have w_ : wrX.all (fun p_ => Nat.ble (p_.2.2.2 + 1) 40) = true := by decide +kernel
    exact Nat.le_of_ble_eq_true (List.all_eq_true.mp w_ _ hk)
  have la := sxl_r hk
  have lv : sxl a0_ = true := sxl_v hv
  refine SX_live H_ m_ (XW_up (D_ := fun j_ => j_ = k0_) (E_ := fun j_ => j_ = k_) H_.2.1 m_ (fun _ n_ => upI_ne n_) (fun j_ n_ => upR_ne n_) (fun p_ hp n_ => ?_) (fun p_ hp d_ => ?_) (fun p_ hp n_ j_ => ?_) (fun p_ hp d_ => ?_)) (fun c_ j_ hc_ hl => f_ c_ j_ hc_ (fun q_ => ?_) (fun q_ => ?_) (fun q_ => ?_)) (fun j_ hj => upR_ne (by omega)) (fun j_ hj => upI_ne (by omega))
  · have s_ := List.all_eq_true.mp sxc_v p_ hp
    rw [Bool.and_eq_true] at s_
    have r_ := wvX_r hp hk
    exact f_ _ _ s_.1 (fun q_ => n_ ((wvX_k hp hv).mp (Prod.ext q_.1 q_.2))) r_.1 r_.2
  · have g_ := (wvX_k hp hv).mpr d_
    rw [g_, d_, upI_eq]
    exact e_
  · have s_ := List.all_eq_true.mp sxc_r p_ hp
    simp only [Bool.and_eq_true] at s_
    have u_ := wrX_k hp hk
    have u2_ := wrX_k hk hp
    have r_ := wvX_r hv hp
    exact ⟨f_ _ _ s_.1.1 (fun q_ => r_.1 q_.1.symm) (fun q_ => n_ (u_.1.mp q_)) u_.2.2, f_ _ _ s_.2.1 (fun q_ => r_.2 q_.1.symm) (fun q_ => u2_.2.2 q_.symm) (fun q_ => n_ (u_.2.1.mp q_))⟩
  · have w_ : wrX.all (fun p_ => wrX.all (fun q_ => !(decide (p_.2.2.2 = q_.2.2.2)) || decide (p_ = q_))) = true := by decide +kernel
    have w2_ := List.all_eq_true.mp (List.all_eq_true.mp w_ p_ hp) _ hk
    rw [Bool.or_eq_true, Bool.not_eq_true', decide_eq_false_iff_not] at w2_
    rcases w2_ with w2_ | w2_
    · exact absurd d_ w2_
    · have w2_ := of_decide_eq_true w2_
      subst w2_
      rw [upR_eq]
      exact R_
  · rw [q_.1, lv] at hl
    cases hl
  · rw [q_, la.1] at hl
    cases hl
  · rw [q_, la.2] at hl
    cases hl
-- ===== the reference: whose a place is
def smo (i_ : Nat) : Nat := if i_ < 10 then (if i_ < 3 then i_ else if i_ = 3 then 1022 else if i_ = 4 then 5 else if i_ = 5 then 3 else if i_ = 6 then 1020 else if i_ = 7 then 1021 else if i_ = 8 then 4 else 9999) else if i_ < 34 then i_ else if i_ < 190 then 1000 + (i_ - 34) / 13 else if i_ < 330 then (if (i_ - 190) % 14 = 0 then 1022 else 9998) else if i_ < 434 then 9997 else if i_ < 559 then 1023 else if i_ < 684 then 1024 else if i_ < 744 then 1020 else 1021
theorem smo_v : wvM.all (fun p_ => decide (smo p_.1 = p_.2) && Nat.ble (p_.1 + 1) 768) = true := by decide +kernel
theorem smo_r : wrM.all (fun p_ => (decide (smo p_.1 = 1000 + p_.2.2.2.2) && Nat.ble (p_.1 + 1) 768) && (List.range p_.2.2.2.1).all (fun j_ => decide (smo (p_.2.1 + p_.2.2.1 * j_) = 1000 + p_.2.2.2.2) && Nat.ble (p_.2.1 + p_.2.2.1 * j_ + 1) 768)) = true := by decide +kernel
/-- how long rows are -/
def lenS (W_ : Nat → List Int32) : Prop := (∀ p_ ∈ wrM, (W_ p_.2.2.2.2).length ≤ p_.2.2.2.1) ∧ ∀ u_, u_ < 2 → (W_ (23 + u_)).length ≤ 60
theorem rwq_fr {h_ h' : xH} {b_ s_ t_ d_ n_ : Nat} {l : List Int32} (R_ : rwq h_ b_ s_ t_ d_ l) (hn : l.length ≤ n_) (f1_ : bpat h' b_ s_ = bpat h_ b_ s_) (f2_ : ∀ j_, j_ < n_ → bpat h' b_ (t_ + d_ * j_) = bpat h_ b_ (t_ + d_ * j_)) : rwq h' b_ s_ t_ d_ l := by
  refine ⟨f1_.trans R_.1, fun j_ x_ hx => ?_⟩
  have lj := (List.getElem?_eq_some_iff.mp hx).1
  exact (f2_ j_ (by omega)).trans (R_.2 j_ x_ hx)
theorem txq_fr {h_ h' : xH} {b_ s_ u_ : Nat} {l : List Int32} (R_ : txq h_ b_ s_ u_ l) (hn : l.length ≤ 60) (f_ : ∀ j_, s_ ≤ j_ → j_ < s_ + 125 → bpat h' b_ j_ = bpat h_ b_ j_) : txq h' b_ s_ u_ l := by
  refine ⟨(f_ s_ (by omega) (by omega)).trans R_.1, fun j_ x_ hx => ?_⟩
  have lj := (List.getElem?_eq_some_iff.mp hx).1
  exact ⟨(f_ _ (by omega) (by omega)).trans (R_.2 j_ x_ hx).1, (f_ _ (by omega) (by omega)).trans (R_.2 j_ x_ hx).2⟩
theorem SM_up {W_ W' : Nat → List Int32} {V V' : Nat → Int32} {h_ h' : xH} {D_ : Nat → Prop} (H_ : SM W_ V h_) (K_ : lenS W_) (m_ : ysm h_ h') (f0_ : ∀ c_ j_, smc c_ j_ = true → ¬ c_ = 339 → bpat h' c_ j_ = bpat h_ c_ j_) (f_ : ∀ i_, i_ < 768 → ¬ D_ (smo i_) → bpat h' 339 i_ = bpat h_ 339 i_) (hV : ∀ k_, ¬ D_ k_ → V' k_ = V k_) (hW : ∀ k_, ¬ D_ (1000 + k_) → W' k_ = W_ k_) (h40 : ∀ k_, 40 ≤ k_ → W' k_ = W_ k_ ∧ V' k_ = V k_) (ev_ : ∀ p_ ∈ wvM, D_ p_.2 → bpat h' 339 p_.1 = some (.int (V' p_.2))) (ez : D_ 4 → bpat h' 339 8 = some (.int (V' 4))) (er : ∀ p_ ∈ wrM, D_ (1000 + p_.2.2.2.2) → rwq h' 339 p_.1 p_.2.1 p_.2.2.1 (W' p_.2.2.2.2)) (et : ∀ u_, u_ < 2 → D_ (1023 + u_) → txq h' 339 (434 + 125 * u_) u_ (W' (23 + u_))) : SM W' V' h' := by
  obtain ⟨H1_, ⟨⟨a1_, a2, a3, a4⟩, H3⟩, ⟨⟨b1, b2, b3, b4⟩, H5⟩, H6, H7⟩ := H_
  have f3_ : ∀ j_, bpat h' 340 j_ = bpat h_ 340 j_ := fun j_ => f0_ 340 j_ rfl (by decide)
  have tx : ∀ u_, u_ < 2 → txq h_ 339 (434 + 125 * u_) u_ (W_ (23 + u_)) → txq h' 339 (434 + 125 * u_) u_ (W' (23 + u_)) := by
    intro u_ hu T
    by_cases d_ : D_ (1023 + u_)
    · exact et u_ hu d_
    · rw [hW (23 + u_) (by rw [show 1000 + (23 + u_) = 1023 + u_ by omega]; exact d_)]
      refine txq_fr T (K_.2 u_ hu) (fun j_ h1 h2 => f_ j_ (by omega) ?_)
      have e_ : smo j_ = 1023 + u_ := by
        unfold smo
        have u2_ : u_ = 0 ∨ u_ = 1 := by omega
        rcases u2_ with rfl | rfl
        · rw [if_neg (by omega), if_neg (by omega), if_neg (by omega), if_neg (by omega), if_neg (by omega), if_pos (by omega)]
        · rw [if_neg (by omega), if_neg (by omega), if_neg (by omega), if_neg (by omega), if_neg (by omega), if_neg (by omega), if_pos (by omega)]
      rw [e_]
      exact d_
  refine ⟨m_.1, ⟨⟨fun p_ hp => ?_, fun p_ hp => ?_, ?_, ?_⟩, ?_⟩, ⟨⟨fun p_ hp => ?_, fun p_ hp => ?_, ?_, ?_⟩, ?_⟩, ?_, fun k_ hk => ?_⟩
  · have s_ := List.all_eq_true.mp smo_v p_ hp
    rw [Bool.and_eq_true] at s_
    rw [Nat.zero_add]
    by_cases d_ : D_ p_.2
    · exact ev_ p_ hp d_
    · have e_ := a1_ p_ hp
      rw [Nat.zero_add] at e_
      rw [hV _ d_, f_ _ (Nat.le_of_ble_eq_true s_.2) (by rw [of_decide_eq_true s_.1]; exact d_)]
      exact e_
  · have s_ := List.all_eq_true.mp smo_r p_ hp
    simp only [Bool.and_eq_true] at s_
    rw [Nat.zero_add]
    by_cases d_ : D_ (1000 + p_.2.2.2.2)
    · exact er p_ hp d_
    · have e_ := a2 p_ hp
      rw [Nat.zero_add] at e_
      rw [hW _ d_]
      refine rwq_fr e_ (K_.1 p_ hp) (f_ _ (Nat.le_of_ble_eq_true s_.1.2) (by rw [of_decide_eq_true s_.1.1]; exact d_)) (fun j_ hj => ?_)
      have w_ := List.all_eq_true.mp s_.2 j_ (List.mem_range.mpr hj)
      rw [Bool.and_eq_true] at w_
      exact f_ _ (Nat.le_of_ble_eq_true w_.2) (by rw [of_decide_eq_true w_.1]; exact d_)
  · exact tx 0 (by omega) a3
  · exact tx 1 (by omega) a4
  · by_cases d_ : D_ 4
    · exact ez d_
    · rw [hV _ d_, f_ 8 (by omega) (by rw [show smo 8 = 4 from rfl]; exact d_)]
      exact H3
  · rw [(h40 _ (by omega)).2]
    exact (f3_ _).trans (b1 p_ hp)
  · rw [(h40 _ (by omega)).1]
    exact ⟨(f3_ _).trans (b2 p_ hp).1, fun j_ x_ hx => (f3_ _).trans ((b2 p_ hp).2 j_ x_ hx)⟩
  · rw [(h40 _ (by omega)).1]
    exact ⟨(f3_ _).trans b3.1, fun j_ x_ hx => ⟨(f3_ _).trans (b3.2 j_ x_ hx).1, (f3_ _).trans (b3.2 j_ x_ hx).2⟩⟩
  · rw [(h40 _ (by omega)).1]
    exact ⟨(f3_ _).trans b4.1, fun j_ x_ hx => ⟨(f3_ _).trans (b4.2 j_ x_ hx).1, (f3_ _).trans (b4.2 j_ x_ hx).2⟩⟩
  · rw [(h40 200 (by omega)).2, (h40 104 (by omega)).2]
    rcases H5 with e_ | e_
    · exact Or.inl e_
    · exact Or.inr ((f3_ 8).trans e_)
  · rw [(h40 200 (by omega)).2]
    exact (f0_ 338 2 rfl (by decide)).trans H6
  · obtain ⟨c1_, c2_, c3_⟩ := H7 k_ hk
    rw [(h40 _ (by omega)).2, (h40 _ (by omega)).2, (h40 _ (by omega)).1]
    exact ⟨(f0_ 350 _ rfl (by decide)).trans c1_, (f0_ 351 _ rfl (by decide)).trans c2_, fun j_ x_ hx => (f0_ 352 _ rfl (by decide)).trans (c3_ j_ x_ hx)⟩
/-- one int -/
theorem SM_i {W_ : Nat → List Int32} {V : Nat → Int32} {h_ h' : xH} {i_ k_ : Nat} {y_ : Int32} (H_ : SM W_ V h_) (K_ : lenS W_) (m_ : ysm h_ h') (hk : (i_, k_) ∈ wvM) (e_ : bpat h' 339 i_ = some (.int y_)) (f_ : ∀ c_ j_, smc c_ j_ = true → ¬ (c_ = 339 ∧ j_ = i_) → bpat h' c_ j_ = bpat h_ c_ j_) : SM W_ (upI V k_ y_) h' := by
  have s_ := List.all_eq_true.mp smo_v _ hk
  rw [Bool.and_eq_true] at s_
  have w_ : wvM.all (fun p_ => Nat.ble (p_.2 + 1) 34 && (!(Nat.beq p_.2 4) && wvM.all (fun q_ => !(decide (p_.2 = q_.2)) || decide (p_ = q_)))) = true := by decide +kernel
  have w1_ := List.all_eq_true.mp w_ _ hk
  simp only [Bool.and_eq_true] at w1_
  obtain ⟨k34, k4_, ku⟩ := w1_
  have k34 := Nat.le_of_ble_eq_true k34
  have k4_ : ¬ k_ = 4 := fun q_ => by rw [q_] at k4_; exact absurd k4_ Bool.false_ne_true
  have k34 : k_ + 1 ≤ 34 := k34
  refine SM_up (D_ := fun o => o = k_) H_ K_ m_ (fun c_ j_ hc_ n_ => f_ c_ j_ hc_ (fun q_ => n_ q_.1)) (fun j_ _ n_ => f_ 339 j_ rfl (fun q_ => n_ ?_)) (fun j_ n_ => upI_ne n_) (fun _ _ => rfl) (fun j_ hj => ⟨rfl, upI_ne (by omega)⟩) (fun p_ hp d_ => ?_) (fun d_ => absurd d_.symm k4_) (fun p_ hp d_ => ?_) (fun u_ hu d_ => ?_)
  · rw [q_.2]
    exact of_decide_eq_true s_.1
  · have z_ := List.all_eq_true.mp ku p_ hp
    rw [Bool.or_eq_true, Bool.not_eq_true', decide_eq_false_iff_not] at z_
    have d_ : p_.2 = k_ := d_
    rcases z_ with z_ | z_
    · exact absurd d_.symm z_
    · have z_ := of_decide_eq_true z_
      subst z_
      rw [upI_eq]
      exact e_
  · have d_ : 1000 + p_.2.2.2.2 = k_ := d_
    omega
  · have d_ : 1023 + u_ = k_ := d_
    omega
/-- z -/
theorem SM_z {W_ : Nat → List Int32} {V : Nat → Int32} {h_ h' : xH} {y_ : Int32} (H_ : SM W_ V h_) (K_ : lenS W_) (m_ : ysm h_ h') (e_ : bpat h' 339 8 = some (.int y_)) (f_ : ∀ c_ j_, smc c_ j_ = true → ¬ (c_ = 339 ∧ j_ = 8) → bpat h' c_ j_ = bpat h_ c_ j_) : SM W_ (upI V 4 y_) h' := by
  refine SM_up (D_ := fun o => o = 4) H_ K_ m_ (fun c_ j_ hc_ n_ => f_ c_ j_ hc_ (fun q_ => n_ q_.1)) (fun j_ _ n_ => f_ 339 j_ rfl (fun q_ => n_ ?_)) (fun j_ n_ => upI_ne n_) (fun _ _ => rfl) (fun j_ hj => ⟨rfl, upI_ne (by omega)⟩) (fun p_ hp d_ => ?_) (fun _ => by rw [upI_eq]; exact e_) (fun p_ hp d_ => ?_) (fun u_ hu d_ => ?_)
  · rw [q_.2]
    rfl
  · have w_ : wvM.all (fun p_ => !(Nat.beq p_.2 4)) = true := by decide +kernel
    have w1_ := List.all_eq_true.mp w_ p_ hp
    have d_ : p_.2 = 4 := d_
    rw [d_] at w1_
    exact absurd w1_ Bool.false_ne_true
  · have d_ : 1000 + p_.2.2.2.2 = 4 := d_
    omega
  · have d_ : 1023 + u_ = 4 := d_
    omega
/-- one row -/
theorem SM_r {W_ : Nat → List Int32} {V : Nat → Int32} {h_ h' : xH} {s_ t_ d_ n_ k_ : Nat} {l : List Int32} (H_ : SM W_ V h_) (K_ : lenS W_) (m_ : ysm h_ h') (hk : (s_, t_, d_, n_, k_) ∈ wrM) (R_ : rwq h' 339 s_ t_ d_ l) (f_ : ∀ c_ j_, smc c_ j_ = true → ¬ (c_ = 339 ∧ smo j_ = 1000 + k_) → bpat h' c_ j_ = bpat h_ c_ j_) : SM (upR W_ k_ l) V h' := by
  have w_ : wrM.all (fun p_ => (Nat.ble (p_.2.2.2.2 + 1) 40 && (!(Nat.beq p_.2.2.2.2 23) && !(Nat.beq p_.2.2.2.2 24))) && wrM.all (fun q_ => !(decide (p_.2.2.2.2 = q_.2.2.2.2)) || decide (p_ = q_))) = true := by decide +kernel
  have w1_ := List.all_eq_true.mp w_ _ hk
  simp only [Bool.and_eq_true] at w1_
  obtain ⟨⟨k34, k23, k24⟩, ku⟩ := w1_
  have k40 : k_ + 1 ≤ 40 := Nat.le_of_ble_eq_true k34
  have k23 : ¬ k_ = 23 := fun q_ => by rw [q_] at k23; exact absurd k23 Bool.false_ne_true
  have k24 : ¬ k_ = 24 := fun q_ => by rw [q_] at k24; exact absurd k24 Bool.false_ne_true
  refine SM_up (D_ := fun o => o = 1000 + k_) H_ K_ m_ (fun c_ j_ hc_ n_ => f_ c_ j_ hc_ (fun q_ => n_ q_.1)) (fun j_ _ n_ => f_ 339 j_ rfl (fun q_ => n_ q_.2)) (fun _ _ => rfl) (fun j_ n_ => upR_ne (fun q_ => n_ (by rw [q_]))) (fun j_ hj => ⟨upR_ne (by omega), rfl⟩) (fun p_ hp d_ => ?_) (fun d_ => absurd d_ (by omega)) (fun p_ hp d_ => ?_) (fun u_ hu d_ => ?_)
  · have v_ : wvM.all (fun p_ => Nat.ble (p_.2 + 1) 40) = true := by decide +kernel
    have v1_ := Nat.le_of_ble_eq_true (List.all_eq_true.mp v_ p_ hp)
    have d_ : p_.2 = 1000 + k_ := d_
    omega
  · have z_ := List.all_eq_true.mp ku p_ hp
    rw [Bool.or_eq_true, Bool.not_eq_true', decide_eq_false_iff_not] at z_
    have d_ : 1000 + p_.2.2.2.2 = 1000 + k_ := d_
    rcases z_ with z_ | z_
    · exact absurd (show k_ = p_.2.2.2.2 by omega) z_
    · have z_ := of_decide_eq_true z_
      subst z_
      rw [upR_eq]
      exact R_
  · have d_ : 1023 + u_ = 1000 + k_ := d_
    omega
/-- one int and one row -/
theorem SM_ir {W_ : Nat → List Int32} {V : Nat → Int32} {h_ h' : xH} {i_ k0_ s_ t_ d_ n_ k_ : Nat} {y_ : Int32} {l : List Int32} (H_ : SM W_ V h_) (K_ : lenS W_) (m_ : ysm h_ h') (hv : (i_, k0_) ∈ (8, 4) :: wvM) (hk : (s_, t_, d_, n_, k_) ∈ wrM) (e_ : bpat h' 339 i_ = some (.int y_)) (R_ : rwq h' 339 s_ t_ d_ l) (f_ : ∀ c_ j_, smc c_ j_ = true → ¬ (c_ = 339 ∧ j_ = i_) → ¬ (c_ = 339 ∧ smo j_ = 1000 + k_) → bpat h' c_ j_ = bpat h_ c_ j_) : SM (upR W_ k_ l) (upI V k0_ y_) h' := by
  have w_ : wrM.all (fun p_ => (Nat.ble (p_.2.2.2.2 + 1) 40 && (!(Nat.beq p_.2.2.2.2 23) && !(Nat.beq p_.2.2.2.2 24))) && wrM.all (fun q_ => !(decide (p_.2.2.2.2 = q_.2.2.2.2)) || decide (p_ = q_))) = true := by decide +kernel
  have w1_ := List.all_eq_true.mp w_ _ hk
  simp only [Bool.and_eq_true] at w1_
  obtain ⟨⟨k34, k23, k24⟩, ku⟩ := w1_
  have k40 : k_ + 1 ≤ 40 := Nat.le_of_ble_eq_true k34
  have k23 : ¬ k_ = 23 := fun q_ => by rw [q_] at k23; exact absurd k23 Bool.false_ne_true
  have k24 : ¬ k_ = 24 := fun q_ => by rw [q_] at k24; exact absurd k24 Bool.false_ne_true
  have v_ : ((8, 4) :: wvM).all (fun p_ => (Nat.ble (p_.2 + 1) 34 && decide (smo p_.1 = p_.2)) && ((8, 4) :: wvM).all (fun q_ => !(decide (p_.2 = q_.2)) || decide (p_ = q_))) = true := by decide +kernel
  have v1_ := List.all_eq_true.mp v_ _ hv
  simp only [Bool.and_eq_true] at v1_
  obtain ⟨⟨v34, vs⟩, vu⟩ := v1_
  have v34 : k0_ + 1 ≤ 34 := Nat.le_of_ble_eq_true v34
  have vs : smo i_ = k0_ := of_decide_eq_true vs
  have vq_ : ∀ p_ ∈ (8, 4) :: wvM, p_.2 = k0_ → p_ = (i_, k0_) := by
    intro p_ hp d_
    have z_ := List.all_eq_true.mp vu p_ hp
    rw [Bool.or_eq_true, Bool.not_eq_true', decide_eq_false_iff_not] at z_
    rcases z_ with z_ | z_
    · exact absurd d_.symm z_
    · exact (of_decide_eq_true z_).symm
  refine SM_up (D_ := fun o => o = k0_ ∨ o = 1000 + k_) H_ K_ m_ (fun c_ j_ hc_ n_ => f_ c_ j_ hc_ (fun q_ => n_ q_.1) (fun q_ => n_ q_.1)) (fun j_ _ n_ => f_ 339 j_ rfl (fun q_ => n_ (Or.inl (by rw [q_.2]; exact vs))) (fun q_ => n_ (Or.inr q_.2))) (fun j_ n_ => upI_ne (fun q_ => n_ (Or.inl q_))) (fun j_ n_ => upR_ne (fun q_ => n_ (Or.inr (by rw [q_])))) (fun j_ hj => ⟨upR_ne (by omega), upI_ne (by omega)⟩) (fun p_ hp d_ => ?_) (fun d_ => ?_) (fun p_ hp d_ => ?_) (fun u_ hu d_ => ?_)
  · have d_ : p_.2 = k0_ := by
      rcases d_ with d_ | d_
      · exact d_
      · have v2 : wvM.all (fun p_ => Nat.ble (p_.2 + 1) 40) = true := by decide +kernel
        have v3 := Nat.le_of_ble_eq_true (List.all_eq_true.mp v2 p_ hp)
        omega
    have z_ := vq_ p_ (List.mem_cons_of_mem _ hp) d_
    subst z_
    rw [upI_eq]
    exact e_
  · have d_ : 4 = k0_ := by
      rcases d_ with d_ | d_
      · exact d_
      · omega
    have z_ := vq_ (8, 4) List.mem_cons_self d_
    have z1 : 8 = i_ := congrArg Prod.fst z_
    subst z1
    subst d_
    rw [upI_eq]
    exact e_
  · have d_ : 1000 + p_.2.2.2.2 = 1000 + k_ := by
      rcases d_ with d_ | d_
      · omega
      · exact d_
    have z_ := List.all_eq_true.mp ku p_ hp
    rw [Bool.or_eq_true, Bool.not_eq_true', decide_eq_false_iff_not] at z_
    rcases z_ with z_ | z_
    · exact absurd (show k_ = p_.2.2.2.2 by omega) z_
    · have z_ := of_decide_eq_true z_
      subst z_
      rw [upR_eq]
      exact R_
  · rcases d_ with d_ | d_
    · omega
    · omega
theorem lenS_ok {W_ : Nat → List Int32} {V : Nat → Int32} (K_ : okS W_ V) : lenS W_ := by
  obtain ⟨⟨-, -, c1_, c2_, c3_, ⟨c4_, -⟩, c5_⟩, -⟩ := K_
  refine ⟨fun p_ hp => ?_, fun u_ hu => ?_⟩
  · have w_ : wrM.all (fun p_ => (Nat.ble (p_.2.2.2.2 + 1) 12 && Nat.beq p_.2.2.2.1 12) || ((Nat.beq p_.2.2.2.2 20 && Nat.beq p_.2.2.2.1 60) || ((Nat.beq p_.2.2.2.2 21 && Nat.beq p_.2.2.2.1 24) || (Nat.beq p_.2.2.2.2 22 && Nat.beq p_.2.2.2.1 10)))) = true := by decide +kernel
    have w1_ := List.all_eq_true.mp w_ p_ hp
    simp only [Bool.or_eq_true, Bool.and_eq_true] at w1_
    rcases w1_ with ⟨a_, b_⟩ | ⟨a_, b_⟩ | ⟨a_, b_⟩ | ⟨a_, b_⟩
    · have e_ := (c1_ _ (Nat.le_of_ble_eq_true a_)).1
      rw [Nat.zero_add] at e_
      rw [Nat.eq_of_beq_eq_true b_]
      exact e_
    · rw [Nat.eq_of_beq_eq_true a_, Nat.eq_of_beq_eq_true b_]
      exact c2_.1
    · rw [Nat.eq_of_beq_eq_true a_, Nat.eq_of_beq_eq_true b_]
      exact c3_
    · rw [Nat.eq_of_beq_eq_true a_, Nat.eq_of_beq_eq_true b_]
      exact c4_
  · have e_ := (c5_ u_ hu).1
    rw [show 0 + 23 + u_ = 23 + u_ by omega] at e_
    exact e_
