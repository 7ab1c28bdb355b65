-- ===== SHEETS
theorem upI_same {V : Nat → Int32} {k_ : Nat} : upI V k_ (V k_) = V := funext (fun j_ => by
  unfold upI
  split
  · rename_i e_
    rw [e_]
  · rfl)
theorem upI2_same {V : Nat → Int32} {k_ k2_ : Nat} : upI (upI V k_ (V k_)) k2_ (V k2_) = V := by
  have e_ : upI V k_ (V k_) = V := upI_same
  rw [e_, upI_same]
theorem sx_lo : (wvX.all (fun p_ => Nat.ble (p_.1.1 + 73 + 1) 324) && wrX.all (fun p_ => Nat.ble (p_.1 + 73 + 1) 324 && Nat.ble (p_.2.1 + 73 + 1) 324)) = true := by decide +kernel
theorem XW_lo {o q_ : Nat} {W_ W' : Nat → List Int32} {V V' : Nat → Int32} {h_ h' : xH} (H_ : XW o q_ W_ V h_) (m_ : ysm h_ h') (ho : o = 0 ∨ o = 73) (f_ : ∀ c_ j_, sxc c_ = true → c_ < 324 → bpat h' c_ j_ = bpat h_ c_ j_) (eW : ∀ p_ ∈ wrX, W' (q_ + p_.2.2.2) = W_ (q_ + p_.2.2.2)) (eV : ∀ p_ ∈ wvX, V' (q_ + p_.2) = V (q_ + p_.2)) : XW o q_ W' V' h' := by
  have z_ := sx_lo
  rw [Bool.and_eq_true] at z_
  refine ⟨fun p_ hp => ?_, fun p_ hp => ?_⟩
  · have k_ := List.all_eq_true.mp sxc_v p_ hp
    have l := Nat.le_of_ble_eq_true (List.all_eq_true.mp z_.1 p_ hp)
    rw [Bool.and_eq_true] at k_
    rw [eV p_ hp]
    rcases ho with rfl | rfl
    · exact (f_ _ _ k_.1 (by omega)).trans (H_.1 p_ hp)
    · exact (f_ _ _ k_.2 (by omega)).trans (H_.1 p_ hp)
  · have k_ := List.all_eq_true.mp sxc_r p_ hp
    have l := List.all_eq_true.mp z_.2 p_ hp
    simp only [Bool.and_eq_true] at k_ l
    have l1 := Nat.le_of_ble_eq_true l.1
    have l2 := Nat.le_of_ble_eq_true l.2
    rw [eW p_ hp]
    refine rwx_keep (H_.2 p_ hp) m_ (fun c_ j_ hc_ => ?_)
    rcases ho with rfl | rfl
    · rcases hc_ with rfl | rfl
      · exact f_ _ _ k_.1.1 (by omega)
      · exact f_ _ _ k_.2.1 (by omega)
    · rcases hc_ with rfl | rfl
      · exact f_ _ _ k_.1.2 (by omega)
      · exact f_ _ _ k_.2.2 (by omega)
theorem key_lo : (wvX.all (fun p_ => Nat.ble (p_.2 + 1) 40) && (wrX.all (fun p_ => Nat.ble (p_.2.2.2 + 1) 40) && (wvM.all (fun p_ => Nat.ble (p_.2 + 1) 40) && wrM.all (fun p_ => Nat.ble (p_.2.2.2.2 + 1) 40)))) = true := by decide +kernel
theorem SX_sh {W_ : Nat → List Int32} {V : Nat → Int32} {h_ h' : xH} {k_ : Nat} {b_ n_ : Int32} {l : List Int32} (hk : k_ < 4) (H_ : SX W_ V h_) (m_ : ysm h_ h') (e1_ : bpat h' (324 + 2 * k_) 1 = some (.int b_)) (e2_ : bpat h' (324 + 2 * k_) 2 = some (.int n_)) (e3_ : ∀ j_ y_, l[j_]? = some y_ → bpat h' (325 + 2 * k_) j_ = some (.int y_)) (f_ : ∀ c_ j_, sxc c_ = true → ¬ c_ = 324 + 2 * k_ → ¬ c_ = 325 + 2 * k_ → bpat h' c_ j_ = bpat h_ c_ j_) : SX (upR W_ (40 + k_) l) (upI (upI V (210 + 2 * k_) b_) (211 + 2 * k_) n_) h' := by
  have z_ := key_lo
  simp only [Bool.and_eq_true] at z_
  have zv : ∀ p_ ∈ wvX, p_.2 < 40 := fun p_ hp => Nat.le_of_ble_eq_true (List.all_eq_true.mp z_.1 p_ hp)
  have zr : ∀ p_ ∈ wrX, p_.2.2.2 < 40 := fun p_ hp => Nat.le_of_ble_eq_true (List.all_eq_true.mp z_.2.1 p_ hp)
  obtain ⟨H1_, H2_, H3, H4, H5⟩ := H_
  have fl_ : ∀ c_ j_, sxc c_ = true → c_ < 324 → bpat h' c_ j_ = bpat h_ c_ j_ := fun c_ j_ hc_ l => f_ c_ j_ hc_ (by omega) (by omega)
  refine ⟨m_.1, XW_lo H2_ m_ (Or.inl rfl) fl_ (fun p_ hp => upR_ne (by have := zr p_ hp; omega)) (fun p_ hp => ?_), XW_lo H3 m_ (Or.inr rfl) fl_ (fun p_ hp => upR_ne (by have := zr p_ hp; omega)) (fun p_ hp => ?_), ?_, fun k2_ hk2 => ?_⟩
  · have := zv p_ hp
    rw [upI_ne (by omega), upI_ne (by omega)]
  · have := zv p_ hp
    rw [upI_ne (by omega), upI_ne (by omega)]
  · rw [upI_ne (by omega), upI_ne (by omega)]
    exact (fl_ 0 14 (by decide) (by omega)).trans H4
  · by_cases g_ : k2_ = k_
    · subst g_
      rw [upI_ne (by omega), upI_eq, upI_eq, upR_eq]
      exact ⟨e1_, e2_, e3_⟩
    · have e_ := List.all_eq_true.mp sxc_s k2_ (List.mem_range.mpr hk2)
      rw [Bool.and_eq_true] at e_
      obtain ⟨a1_, a2, a3⟩ := H5 k2_ hk2
      rw [upI_ne (by omega), upI_ne (by omega), upI_ne (by omega), upI_ne (by omega), upR_ne (by omega)]
      exact ⟨(f_ _ _ e_.1 (by omega) (by omega)).trans a1_, (f_ _ _ e_.1 (by omega) (by omega)).trans a2, fun j_ x_ hx => (f_ _ _ e_.2 (by omega) (by omega)).trans (a3 j_ x_ hx)⟩
theorem SM_sh {W_ : Nat → List Int32} {V : Nat → Int32} {h_ h' : xH} {k_ : Nat} {b_ n_ : Int32} {l : List Int32} (hk : k_ < 4) (K_ : ∀ k_, k_ < 4 → (W_ (40 + k_)).length = 24) (H_ : SM W_ V h_) (m_ : ysm h_ h') (e1_ : bpat h' 350 k_ = some (.int b_)) (e2_ : bpat h' 351 k_ = some (.int n_)) (e3_ : ∀ j_ y_, l[j_]? = some y_ → bpat h' 352 (24 * k_ + j_) = some (.int y_)) (f_ : ∀ c_ j_, smc c_ j_ = true → ¬ (c_ = 350 ∧ j_ = k_) → ¬ (c_ = 351 ∧ j_ = k_) → ¬ (c_ = 352 ∧ (24 * k_ ≤ j_ ∧ j_ < 24 * k_ + 24)) → bpat h' c_ j_ = bpat h_ c_ j_) : SM (upR W_ (40 + k_) l) (upI (upI V (210 + 2 * k_) b_) (211 + 2 * k_) n_) h' := by
  have z_ := key_lo
  simp only [Bool.and_eq_true] at z_
  have zv : ∀ p_ ∈ wvM, p_.2 < 40 := fun p_ hp => Nat.le_of_ble_eq_true (List.all_eq_true.mp z_.2.2.1 p_ hp)
  have zr : ∀ p_ ∈ wrM, p_.2.2.2.2 < 40 := fun p_ hp => Nat.le_of_ble_eq_true (List.all_eq_true.mp z_.2.2.2 p_ hp)
  have f9_ : ∀ j_, bpat h' 339 j_ = bpat h_ 339 j_ := fun j_ => f_ _ _ rfl (by omega) (by omega) (by omega)
  have f0_ : ∀ j_, bpat h' 340 j_ = bpat h_ 340 j_ := fun j_ => f_ _ _ rfl (by omega) (by omega) (by omega)
  have mw : ∀ a_ q_, (q_ = 0 ∨ q_ = 100) → (∀ j_, bpat h' a_ j_ = bpat h_ a_ j_) → MW a_ q_ W_ V h_ → MW a_ q_ (upR W_ (40 + k_) l) (upI (upI V (210 + 2 * k_) b_) (211 + 2 * k_) n_) h' := by
    intro a_ q_ hq fb M_
    have M_ := MW_fr M_ fb
    refine ⟨fun p_ hp => ?_, fun p_ hp => ?_, ?_, ?_⟩
    · have := zv p_ hp
      rw [upI_ne (by omega), upI_ne (by omega)]
      exact M_.1 p_ hp
    · have := zr p_ hp
      rw [upR_ne (by omega)]
      exact M_.2.1 p_ hp
    · rw [upR_ne (by omega)]
      exact M_.2.2.1
    · rw [upR_ne (by omega)]
      exact M_.2.2.2
  obtain ⟨H1_, ⟨H2_, H3⟩, ⟨H4, H5⟩, H6, H7⟩ := H_
  refine ⟨m_.1, ⟨mw _ _ (Or.inl rfl) f9_ H2_, ?_⟩, ⟨mw _ _ (Or.inr rfl) f0_ H4, ?_⟩, ?_, fun k2_ hk2 => ?_⟩
  · rw [upI_ne (by omega), upI_ne (by omega)]
    exact (f9_ 8).trans H3
  · rw [upI_ne (by omega), upI_ne (by omega), upI_ne (by omega), upI_ne (by omega)]
    rcases H5 with e_ | e_
    · exact Or.inl e_
    · exact Or.inr ((f0_ 8).trans e_)
  · rw [upI_ne (by omega), upI_ne (by omega)]
    exact (f_ 338 2 rfl (by omega) (by omega) (by omega)).trans H6
  · by_cases g_ : k2_ = k_
    · subst g_
      rw [upI_ne (by omega), upI_eq, upI_eq, upR_eq]
      exact ⟨e1_, e2_, e3_⟩
    · obtain ⟨a1_, a2, a3⟩ := H7 k2_ hk2
      have k24 := K_ k2_ hk2
      rw [upI_ne (by omega), upI_ne (by omega), upI_ne (by omega), upI_ne (by omega), upR_ne (by omega)]
      refine ⟨(f_ 350 _ rfl (by omega) (by omega) (by omega)).trans a1_, (f_ 351 _ rfl (by omega) (by omega) (by omega)).trans a2, fun j_ x_ hx => ?_⟩
      have lj := (List.getElem?_eq_some_iff.mp hx).1
      exact (f_ 352 _ rfl (by omega) (by omega) (by omega)).trans (a3 j_ x_ hx)
theorem sh_k : (List.range 4).all (fun k_ => (decide (fxk fxl 313 k_ = some (324 + 2 * k_)) && decide (fxk fxl (324 + 2 * k_) 0 = some (325 + 2 * k_))) && ((match bzf (324 + 2 * k_) with
  | some z_ => Nat.beq z_.1 7 && Nat.beq z_.2 3
  | none => false) && (match bzf (325 + 2 * k_) with
  | some z_ => Nat.beq z_.1 20 && Nat.beq z_.2 24
  | none => false))) = true := by decide +kernel
theorem sh_s {h_ : xH} {k_ : Nat} (hs : sHp h_) (hk : k_ < 4) : (bpat h_ 313 k_ = some (.index (324 + 2 * k_)) ∧ bpat h_ (324 + 2 * k_) 0 = some (.index (325 + 2 * k_))) ∧ (bcq h_ (324 + 2 * k_) 7 3 ∧ bcq h_ (325 + 2 * k_) 20 24) := by
  have q_ := List.all_eq_true.mp sh_k k_ (List.mem_range.mpr hk)
  simp only [Bool.and_eq_true] at q_
  obtain ⟨⟨k1_, k2_⟩, k3_, k4_⟩ := q_
  refine ⟨⟨fxr_at hs.2 (of_decide_eq_true k1_), fxr_at hs.2 (of_decide_eq_true k2_)⟩, ?_, ?_⟩
  · cases hz : bzf (324 + 2 * k_) with
    | none => rw [hz] at k3_; exact absurd k3_ Bool.false_ne_true
    | some z_ =>
      rw [hz] at k3_
      have q_ : (Nat.beq z_.1 7 && Nat.beq z_.2 3) = true := k3_
      rw [Bool.and_eq_true] at q_
      have e_ := hs.1 _ _ hz
      rw [Nat.eq_of_beq_eq_true q_.1, Nat.eq_of_beq_eq_true q_.2] at e_
      exact e_
  · cases hz : bzf (325 + 2 * k_) with
    | none => rw [hz] at k4_; exact absurd k4_ Bool.false_ne_true
    | some z_ =>
      rw [hz] at k4_
      have q_ : (Nat.beq z_.1 20 && Nat.beq z_.2 24) = true := k4_
      rw [Bool.and_eq_true] at q_
      have e_ := hs.1 _ _ hz
      rw [Nat.eq_of_beq_eq_true q_.1, Nat.eq_of_beq_eq_true q_.2] at e_
      exact e_
theorem isS_n {z_ : Int32} (g_ : 0 ≤ z_.toInt ∧ z_.toInt < 4) : ∃ k_ : Nat, k_ < 4 ∧ (z_ = Int32.ofNat k_ ∧ (Int32.ofNat k_).toInt.toNat = k_) := by
  refine ⟨z_.toInt.toNat, by omega, ?_, i32t (by omega)⟩
  refine Int32.toInt_inj.mp ?_
  rw [i32n (by omega)]
  omega
theorem i4_ : (4 : Int32).toInt = 4 := rfl
theorem i3_ : (3 : Int32).toInt = 3 := rfl
theorem i16_ : (16 : Int32).toInt = 16 := rfl
theorem i32_ : (32 : Int32).toInt = 32 := rfl
theorem oks_l {W_ : Nat → List Int32} {V : Nat → Int32} (K_ : okS W_ V) : ∀ k_, k_ < 4 → (W_ (40 + k_)).length = 24 := fun k_ hk => (K_.2.2 k_ hk).1.1
-- ===== sheet
-- xshE: 203 steps, 4 ends, 9 returns
def xshE_L : List (Nat × Nat × Nat) := []
def xshE_O : yO := [(0, .int 13, .index 323), (323, .int 1, .arg 400), (323, .int 3, .arg 401)]
def xshE_A : yA := (yZ xshE_L, [], [], [], [])
def xshE_C : List xB := []
def xshE_ss : List yS := [(65, [(0, .index 0), (1, .arg 1), (2, .arg 2), (3, .arg 3)], [], [(0, .int 13, .index 323), (323, .int 1, .arg 400), (323, .int 3, .arg 401)], [(.eq, .arg 2, .int 0, true), (.lt, .arg 1, .int 4, true), (.lt, .arg 1, .int 0, false)], []),
  (65, [(0, .index 0), (1, .arg 1), (2, .arg 2), (3, .arg 3)], [], [(0, .int 13, .index 323), (323, .int 1, .arg 400), (323, .int 3, .arg 401)], [(.le, .arg 3, .int 24, true), (.lt, .arg 3, .int 0, false), (.eq, .arg 2, .int 8, true), (.eq, .arg 2, .int 0, false), (.lt, .arg 1, .int 4, true), (.lt, .arg 1, .int 0, false)], []),
  (65, [(0, .index 0), (1, .arg 1), (2, .arg 2), (3, .arg 3)], [], [(0, .int 13, .index 323), (323, .int 1, .arg 400), (323, .int 3, .arg 401)], [(.le, .arg 3, .int 24, true), (.lt, .arg 3, .int 0, false), (.eq, .arg 2, .int 16, true), (.eq, .arg 2, .int 8, false), (.eq, .arg 2, .int 0, false), (.lt, .arg 1, .int 4, true), (.lt, .arg 1, .int 0, false)], []),
  (65, [(0, .index 0), (1, .arg 1), (2, .arg 2), (3, .arg 3)], [], [(0, .int 13, .index 323), (323, .int 1, .arg 400), (323, .int 3, .arg 401)], [(.le, .arg 3, .int 24, true), (.lt, .arg 3, .int 0, false), (.eq, .arg 2, .int 32, true), (.eq, .arg 2, .int 16, false), (.eq, .arg 2, .int 8, false), (.eq, .arg 2, .int 0, false), (.lt, .arg 1, .int 4, true), (.lt, .arg 1, .int 0, false)], [])]
def xshE_rs : List yR := [(some (.int (Int32.ofInt (-1000001))), [(323, .int 1, .add (.arg 400) (.int 1)), (0, .int 13, .index 323), (323, .int 3, .arg 401)], [(.lt, .arg 1, .int 0, true)], [(323, .int 1)]),
  (some (.int (Int32.ofInt (-1000001))), [(323, .int 1, .add (.arg 400) (.int 1)), (0, .int 13, .index 323), (323, .int 3, .arg 401)], [(.lt, .arg 1, .int 4, false), (.lt, .arg 1, .int 0, false)], [(323, .int 1)]),
  (some (.int (Int32.ofInt (-1000001))), [(323, .int 1, .add (.arg 400) (.int 1)), (0, .int 13, .index 323), (323, .int 3, .arg 401)], [(.le, .arg 3, .int 24, false), (.lt, .arg 3, .int 0, false), (.eq, .arg 2, .int 8, true), (.eq, .arg 2, .int 0, false), (.lt, .arg 1, .int 4, true), (.lt, .arg 1, .int 0, false)], [(323, .int 1)]),
  (some (.int (Int32.ofInt (-1000003))), [(323, .int 3, .add (.arg 401) (.int 1)), (0, .int 13, .index 323), (323, .int 1, .arg 400)], [(.lt, .arg 3, .int 0, true), (.eq, .arg 2, .int 8, true), (.eq, .arg 2, .int 0, false), (.lt, .arg 1, .int 4, true), (.lt, .arg 1, .int 0, false)], [(323, .int 3)]),
  (some (.int (Int32.ofInt (-1000001))), [(323, .int 1, .add (.arg 400) (.int 1)), (0, .int 13, .index 323), (323, .int 3, .arg 401)], [(.le, .arg 3, .int 24, false), (.lt, .arg 3, .int 0, false), (.eq, .arg 2, .int 16, true), (.eq, .arg 2, .int 8, false), (.eq, .arg 2, .int 0, false), (.lt, .arg 1, .int 4, true), (.lt, .arg 1, .int 0, false)], [(323, .int 1)]),
  (some (.int (Int32.ofInt (-1000003))), [(323, .int 3, .add (.arg 401) (.int 1)), (0, .int 13, .index 323), (323, .int 1, .arg 400)], [(.lt, .arg 3, .int 0, true), (.eq, .arg 2, .int 16, true), (.eq, .arg 2, .int 8, false), (.eq, .arg 2, .int 0, false), (.lt, .arg 1, .int 4, true), (.lt, .arg 1, .int 0, false)], [(323, .int 3)]),
  (some (.int (Int32.ofInt (-1000001))), [(323, .int 1, .add (.arg 400) (.int 1)), (0, .int 13, .index 323), (323, .int 3, .arg 401)], [(.le, .arg 3, .int 24, false), (.lt, .arg 3, .int 0, false), (.eq, .arg 2, .int 32, true), (.eq, .arg 2, .int 16, false), (.eq, .arg 2, .int 8, false), (.eq, .arg 2, .int 0, false), (.lt, .arg 1, .int 4, true), (.lt, .arg 1, .int 0, false)], [(323, .int 1)]),
  (some (.int (Int32.ofInt (-1000003))), [(323, .int 3, .add (.arg 401) (.int 1)), (0, .int 13, .index 323), (323, .int 1, .arg 400)], [(.lt, .arg 3, .int 0, true), (.eq, .arg 2, .int 32, true), (.eq, .arg 2, .int 16, false), (.eq, .arg 2, .int 8, false), (.eq, .arg 2, .int 0, false), (.lt, .arg 1, .int 4, true), (.lt, .arg 1, .int 0, false)], [(323, .int 3)]),
  (some (.int (Int32.ofInt (-1000001))), [(323, .int 1, .add (.arg 400) (.int 1)), (0, .int 13, .index 323), (323, .int 3, .arg 401)], [(.eq, .arg 2, .int 32, false), (.eq, .arg 2, .int 16, false), (.eq, .arg 2, .int 8, false), (.eq, .arg 2, .int 0, false), (.lt, .arg 1, .int 4, true), (.lt, .arg 1, .int 0, false)], [(323, .int 1)])]
theorem xshE_w : ywa xshE_A xshE_ss xshE_rs = true := by decide +kernel
theorem xshE_k : yis (yev xshE_A 3000 60 108 [65] (0, [(0, .index 0), (1, .arg 1), (2, .arg 2), (3, .arg 3)], [], xshE_O, xshE_C, [])) xshE_ss xshE_rs = true := by decide +kernel
def xshE_r (v1_ v2 v3 v400 v401 : Int32) (k_ : Nat) : Value := bif Nat.beq k_ 1 then .int v1_ else (bif Nat.beq k_ 2 then .int v2 else (bif Nat.beq k_ 3 then .int v3 else (bif Nat.beq k_ 400 then .int v400 else (bif Nat.beq k_ 401 then .int v401 else (.int 0)))))
def xshE_s (n_ : Nat) : Nat := 0
theorem xshE {h_ : xH} {v1_ v2 v3 v400 v401 : Int32} (hs : sHp h_) (o0_ : bpat h_ 323 1 = some (.int v400)) (o1 : bpat h_ 323 3 = some (.int v401)) : ∃ h', ysm h_ h' ∧ (((v2 = (0 : Int32)) ∧ (v1_.toInt < (4 : Int32).toInt) ∧ ((0 : Int32).toInt ≤ v1_.toInt) ∧ (∀ a_ j_ : Nat, bpat h' a_ j_ = bpat h_ a_ j_) ∧ (bldD 60 108 0 [(0, .index 0), (1, .int v1_), (2, .int v2), (3, .int v3)] [] h_ 65 [(0, .index 0), (1, .int v1_), (2, .int v2), (3, .int v3)] [] h'))
  ∨ ((v3.toInt ≤ (24 : Int32).toInt) ∧ ((0 : Int32).toInt ≤ v3.toInt) ∧ (v2 = (8 : Int32)) ∧ (¬ v2 = (0 : Int32)) ∧ (v1_.toInt < (4 : Int32).toInt) ∧ ((0 : Int32).toInt ≤ v1_.toInt) ∧ (∀ a_ j_ : Nat, bpat h' a_ j_ = bpat h_ a_ j_) ∧ (bldD 60 108 0 [(0, .index 0), (1, .int v1_), (2, .int v2), (3, .int v3)] [] h_ 65 [(0, .index 0), (1, .int v1_), (2, .int v2), (3, .int v3)] [] h'))
  ∨ ((v3.toInt ≤ (24 : Int32).toInt) ∧ ((0 : Int32).toInt ≤ v3.toInt) ∧ (v2 = (16 : Int32)) ∧ (¬ v2 = (8 : Int32)) ∧ (¬ v2 = (0 : Int32)) ∧ (v1_.toInt < (4 : Int32).toInt) ∧ ((0 : Int32).toInt ≤ v1_.toInt) ∧ (∀ a_ j_ : Nat, bpat h' a_ j_ = bpat h_ a_ j_) ∧ (bldD 60 108 0 [(0, .index 0), (1, .int v1_), (2, .int v2), (3, .int v3)] [] h_ 65 [(0, .index 0), (1, .int v1_), (2, .int v2), (3, .int v3)] [] h'))
  ∨ ((v3.toInt ≤ (24 : Int32).toInt) ∧ ((0 : Int32).toInt ≤ v3.toInt) ∧ (v2 = (32 : Int32)) ∧ (¬ v2 = (16 : Int32)) ∧ (¬ v2 = (8 : Int32)) ∧ (¬ v2 = (0 : Int32)) ∧ (v1_.toInt < (4 : Int32).toInt) ∧ ((0 : Int32).toInt ≤ v1_.toInt) ∧ (∀ a_ j_ : Nat, bpat h' a_ j_ = bpat h_ a_ j_) ∧ (bldD 60 108 0 [(0, .index 0), (1, .int v1_), (2, .int v2), (3, .int v3)] [] h_ 65 [(0, .index 0), (1, .int v1_), (2, .int v2), (3, .int v3)] [] h'))
  ∨ ((v1_.toInt < (0 : Int32).toInt) ∧ (bpat h' 323 1 = some (.int (v400 + (1 : Int32)))) ∧ (∀ a_ j_ : Nat, ¬ (a_ = 323 ∧ j_ = 1) → bpat h' a_ j_ = bpat h_ a_ j_) ∧ (∀ D_, 60 ≤ D_ → xrun D_ 108 0 [(0, .index 0), (1, .int v1_), (2, .int v2), (3, .int v3)] [] h_ (some (.int (Int32.ofInt (-1000001))), h', [])))
  ∨ (((4 : Int32).toInt ≤ v1_.toInt) ∧ ((0 : Int32).toInt ≤ v1_.toInt) ∧ (bpat h' 323 1 = some (.int (v400 + (1 : Int32)))) ∧ (∀ a_ j_ : Nat, ¬ (a_ = 323 ∧ j_ = 1) → bpat h' a_ j_ = bpat h_ a_ j_) ∧ (∀ D_, 60 ≤ D_ → xrun D_ 108 0 [(0, .index 0), (1, .int v1_), (2, .int v2), (3, .int v3)] [] h_ (some (.int (Int32.ofInt (-1000001))), h', [])))
  ∨ (((24 : Int32).toInt < v3.toInt) ∧ ((0 : Int32).toInt ≤ v3.toInt) ∧ (v2 = (8 : Int32)) ∧ (¬ v2 = (0 : Int32)) ∧ (v1_.toInt < (4 : Int32).toInt) ∧ ((0 : Int32).toInt ≤ v1_.toInt) ∧ (bpat h' 323 1 = some (.int (v400 + (1 : Int32)))) ∧ (∀ a_ j_ : Nat, ¬ (a_ = 323 ∧ j_ = 1) → bpat h' a_ j_ = bpat h_ a_ j_) ∧ (∀ D_, 60 ≤ D_ → xrun D_ 108 0 [(0, .index 0), (1, .int v1_), (2, .int v2), (3, .int v3)] [] h_ (some (.int (Int32.ofInt (-1000001))), h', [])))
  ∨ ((v3.toInt < (0 : Int32).toInt) ∧ (v2 = (8 : Int32)) ∧ (¬ v2 = (0 : Int32)) ∧ (v1_.toInt < (4 : Int32).toInt) ∧ ((0 : Int32).toInt ≤ v1_.toInt) ∧ (bpat h' 323 3 = some (.int (v401 + (1 : Int32)))) ∧ (∀ a_ j_ : Nat, ¬ (a_ = 323 ∧ j_ = 3) → bpat h' a_ j_ = bpat h_ a_ j_) ∧ (∀ D_, 60 ≤ D_ → xrun D_ 108 0 [(0, .index 0), (1, .int v1_), (2, .int v2), (3, .int v3)] [] h_ (some (.int (Int32.ofInt (-1000003))), h', [])))
  ∨ (((24 : Int32).toInt < v3.toInt) ∧ ((0 : Int32).toInt ≤ v3.toInt) ∧ (v2 = (16 : Int32)) ∧ (¬ v2 = (8 : Int32)) ∧ (¬ v2 = (0 : Int32)) ∧ (v1_.toInt < (4 : Int32).toInt) ∧ ((0 : Int32).toInt ≤ v1_.toInt) ∧ (bpat h' 323 1 = some (.int (v400 + (1 : Int32)))) ∧ (∀ a_ j_ : Nat, ¬ (a_ = 323 ∧ j_ = 1) → bpat h' a_ j_ = bpat h_ a_ j_) ∧ (∀ D_, 60 ≤ D_ → xrun D_ 108 0 [(0, .index 0), (1, .int v1_), (2, .int v2), (3, .int v3)] [] h_ (some (.int (Int32.ofInt (-1000001))), h', [])))
  ∨ ((v3.toInt < (0 : Int32).toInt) ∧ (v2 = (16 : Int32)) ∧ (¬ v2 = (8 : Int32)) ∧ (¬ v2 = (0 : Int32)) ∧ (v1_.toInt < (4 : Int32).toInt) ∧ ((0 : Int32).toInt ≤ v1_.toInt) ∧ (bpat h' 323 3 = some (.int (v401 + (1 : Int32)))) ∧ (∀ a_ j_ : Nat, ¬ (a_ = 323 ∧ j_ = 3) → bpat h' a_ j_ = bpat h_ a_ j_) ∧ (∀ D_, 60 ≤ D_ → xrun D_ 108 0 [(0, .index 0), (1, .int v1_), (2, .int v2), (3, .int v3)] [] h_ (some (.int (Int32.ofInt (-1000003))), h', [])))
  ∨ (((24 : Int32).toInt < v3.toInt) ∧ ((0 : Int32).toInt ≤ v3.toInt) ∧ (v2 = (32 : Int32)) ∧ (¬ v2 = (16 : Int32)) ∧ (¬ v2 = (8 : Int32)) ∧ (¬ v2 = (0 : Int32)) ∧ (v1_.toInt < (4 : Int32).toInt) ∧ ((0 : Int32).toInt ≤ v1_.toInt) ∧ (bpat h' 323 1 = some (.int (v400 + (1 : Int32)))) ∧ (∀ a_ j_ : Nat, ¬ (a_ = 323 ∧ j_ = 1) → bpat h' a_ j_ = bpat h_ a_ j_) ∧ (∀ D_, 60 ≤ D_ → xrun D_ 108 0 [(0, .index 0), (1, .int v1_), (2, .int v2), (3, .int v3)] [] h_ (some (.int (Int32.ofInt (-1000001))), h', [])))
  ∨ ((v3.toInt < (0 : Int32).toInt) ∧ (v2 = (32 : Int32)) ∧ (¬ v2 = (16 : Int32)) ∧ (¬ v2 = (8 : Int32)) ∧ (¬ v2 = (0 : Int32)) ∧ (v1_.toInt < (4 : Int32).toInt) ∧ ((0 : Int32).toInt ≤ v1_.toInt) ∧ (bpat h' 323 3 = some (.int (v401 + (1 : Int32)))) ∧ (∀ a_ j_ : Nat, ¬ (a_ = 323 ∧ j_ = 3) → bpat h' a_ j_ = bpat h_ a_ j_) ∧ (∀ D_, 60 ≤ D_ → xrun D_ 108 0 [(0, .index 0), (1, .int v1_), (2, .int v2), (3, .int v3)] [] h_ (some (.int (Int32.ofInt (-1000003))), h', [])))
  ∨ ((¬ v2 = (32 : Int32)) ∧ (¬ v2 = (16 : Int32)) ∧ (¬ v2 = (8 : Int32)) ∧ (¬ v2 = (0 : Int32)) ∧ (v1_.toInt < (4 : Int32).toInt) ∧ ((0 : Int32).toInt ≤ v1_.toInt) ∧ (bpat h' 323 1 = some (.int (v400 + (1 : Int32)))) ∧ (∀ a_ j_ : Nat, ¬ (a_ = 323 ∧ j_ = 1) → bpat h' a_ j_ = bpat h_ a_ j_) ∧ (∀ D_, 60 ≤ D_ → xrun D_ 108 0 [(0, .index 0), (1, .int v1_), (2, .int v2), (3, .int v3)] [] h_ (some (.int (Int32.ofInt (-1000001))), h', [])))) := by
  have hA : yas xshE_A (xshE_r v1_ v2 v3 v400 v401) (yg xshE_s) := ⟨fun q_ hq => absurd hq List.not_mem_nil, fun q_ hq => absurd hq List.not_mem_nil, fun q_ hq => absurd hq List.not_mem_nil, fun n_ hn => yg_lo hn, fun q_ hq => absurd hq List.not_mem_nil⟩
  have Hs : ysh xshE_A.1 (yg xshE_s) h_ := ysh_of2 hs (fun q_ hq => absurd hq List.not_mem_nil)
  have Ho : ymem (xshE_r v1_ v2 v3 v400 v401) (yg xshE_s) xshE_O h_ := List.forall_mem_cons.mpr ⟨bpat_some (fxr_at hs.2 (show fxk fxl 0 13 = some 323 by decide +kernel)), List.forall_mem_cons.mpr ⟨bpat_some o0_, List.forall_mem_cons.mpr ⟨bpat_some o1, fun q_ hq => absurd hq List.not_mem_nil⟩⟩⟩
  have HC : ∀ q_ ∈ xshE_C, xhold (xshE_r v1_ v2 v3 v400 v401) q_ := fun q_ hq => absurd hq List.not_mem_nil
  rcases yrun (yis_ok xshE_k) hA Hs Ho HC with ⟨q_, hq, h', K_, G_⟩ | ⟨q_, hq, h', K_, G_⟩
  · rcases List.mem_cons.mp hq with e_ | hq
    · subst e_
      exact ⟨h', yfr_sm K_.2.2.2 hs K_.1 (ywa_s xshE_w List.mem_cons_self), Or.inl (⟨xq_eqT rfl rfl (K_.2.2.1 _ List.mem_cons_self), xq_ltT rfl rfl (K_.2.2.1 _ (List.mem_cons_of_mem _ List.mem_cons_self)), xq_ltF rfl rfl (K_.2.2.1 _ (List.mem_cons_of_mem _ (List.mem_cons_of_mem _ List.mem_cons_self))), fun a_ j_ => yfr_bp K_.2.2.2 (fun q_ hq => absurd hq List.not_mem_nil), G_⟩)⟩
    rcases List.mem_cons.mp hq with e_ | hq
    · subst e_
      exact ⟨h', yfr_sm K_.2.2.2 hs K_.1 (ywa_s xshE_w (List.mem_cons_of_mem _ List.mem_cons_self)), Or.inr (Or.inl (⟨xq_leT rfl rfl (K_.2.2.1 _ List.mem_cons_self), xq_ltF rfl rfl (K_.2.2.1 _ (List.mem_cons_of_mem _ List.mem_cons_self)), xq_eqT rfl rfl (K_.2.2.1 _ (List.mem_cons_of_mem _ (List.mem_cons_of_mem _ List.mem_cons_self))), xq_eqF rfl rfl (K_.2.2.1 _ (List.mem_cons_of_mem _ (List.mem_cons_of_mem _ (List.mem_cons_of_mem _ List.mem_cons_self)))), xq_ltT rfl rfl (K_.2.2.1 _ (List.mem_cons_of_mem _ (List.mem_cons_of_mem _ (List.mem_cons_of_mem _ (List.mem_cons_of_mem _ List.mem_cons_self))))), xq_ltF rfl rfl (K_.2.2.1 _ (List.mem_cons_of_mem _ (List.mem_cons_of_mem _ (List.mem_cons_of_mem _ (List.mem_cons_of_mem _ (List.mem_cons_of_mem _ List.mem_cons_self)))))), fun a_ j_ => yfr_bp K_.2.2.2 (fun q_ hq => absurd hq List.not_mem_nil), G_⟩))⟩
    rcases List.mem_cons.mp hq with e_ | hq
    · subst e_
      exact ⟨h', yfr_sm K_.2.2.2 hs K_.1 (ywa_s xshE_w (List.mem_cons_of_mem _ (List.mem_cons_of_mem _ List.mem_cons_self))), Or.inr (Or.inr (Or.inl (⟨xq_leT rfl rfl (K_.2.2.1 _ List.mem_cons_self), xq_ltF rfl rfl (K_.2.2.1 _ (List.mem_cons_of_mem _ List.mem_cons_self)), xq_eqT rfl rfl (K_.2.2.1 _ (List.mem_cons_of_mem _ (List.mem_cons_of_mem _ List.mem_cons_self))), xq_eqF rfl rfl (K_.2.2.1 _ (List.mem_cons_of_mem _ (List.mem_cons_of_mem _ (List.mem_cons_of_mem _ List.mem_cons_self)))), xq_eqF rfl rfl (K_.2.2.1 _ (List.mem_cons_of_mem _ (List.mem_cons_of_mem _ (List.mem_cons_of_mem _ (List.mem_cons_of_mem _ List.mem_cons_self))))), xq_ltT rfl rfl (K_.2.2.1 _ (List.mem_cons_of_mem _ (List.mem_cons_of_mem _ (List.mem_cons_of_mem _ (List.mem_cons_of_mem _ (List.mem_cons_of_mem _ List.mem_cons_self)))))), xq_ltF rfl rfl (K_.2.2.1 _ (List.mem_cons_of_mem _ (List.mem_cons_of_mem _ (List.mem_cons_of_mem _ (List.mem_cons_of_mem _ (List.mem_cons_of_mem _ (List.mem_cons_of_mem _ List.mem_cons_self))))))), fun a_ j_ => yfr_bp K_.2.2.2 (fun q_ hq => absurd hq List.not_mem_nil), G_⟩)))⟩
    have e_ := List.mem_singleton.mp hq
    subst e_
    exact ⟨h', yfr_sm K_.2.2.2 hs K_.1 (ywa_s xshE_w (List.mem_cons_of_mem _ (List.mem_cons_of_mem _ (List.mem_cons_of_mem _ List.mem_cons_self)))), Or.inr (Or.inr (Or.inr (Or.inl (⟨xq_leT rfl rfl (K_.2.2.1 _ List.mem_cons_self), xq_ltF rfl rfl (K_.2.2.1 _ (List.mem_cons_of_mem _ List.mem_cons_self)), xq_eqT rfl rfl (K_.2.2.1 _ (List.mem_cons_of_mem _ (List.mem_cons_of_mem _ List.mem_cons_self))), xq_eqF rfl rfl (K_.2.2.1 _ (List.mem_cons_of_mem _ (List.mem_cons_of_mem _ (List.mem_cons_of_mem _ List.mem_cons_self)))), xq_eqF rfl rfl (K_.2.2.1 _ (List.mem_cons_of_mem _ (List.mem_cons_of_mem _ (List.mem_cons_of_mem _ (List.mem_cons_of_mem _ List.mem_cons_self))))), xq_eqF rfl rfl (K_.2.2.1 _ (List.mem_cons_of_mem _ (List.mem_cons_of_mem _ (List.mem_cons_of_mem _ (List.mem_cons_of_mem _ (List.mem_cons_of_mem _ List.mem_cons_self)))))), xq_ltT rfl rfl (K_.2.2.1 _ (List.mem_cons_of_mem _ (List.mem_cons_of_mem _ (List.mem_cons_of_mem _ (List.mem_cons_of_mem _ (List.mem_cons_of_mem _ (List.mem_cons_of_mem _ List.mem_cons_self))))))), xq_ltF rfl rfl (K_.2.2.1 _ (List.mem_cons_of_mem _ (List.mem_cons_of_mem _ (List.mem_cons_of_mem _ (List.mem_cons_of_mem _ (List.mem_cons_of_mem _ (List.mem_cons_of_mem _ (List.mem_cons_of_mem _ List.mem_cons_self)))))))), fun a_ j_ => yfr_bp K_.2.2.2 (fun q_ hq => absurd hq List.not_mem_nil), G_⟩))))⟩
  · rcases List.mem_cons.mp hq with e_ | hq
    · subst e_
      exact ⟨h', yfr_sm K_.2.2.2 hs K_.1 (ywa_r xshE_w List.mem_cons_self), Or.inr (Or.inr (Or.inr (Or.inr (Or.inl (⟨xq_ltT rfl rfl (K_.2.2.1 _ List.mem_cons_self), bpat_of (K_.2.1 _ List.mem_cons_self), fun a_ j_ n0_ => yfr_bp K_.2.2.2 (List.forall_mem_cons.mpr ⟨fun e_ => n0_ ⟨e_.1.symm, e_.2.symm⟩, fun q_ hq => absurd hq List.not_mem_nil⟩), G_⟩)))))⟩
    rcases List.mem_cons.mp hq with e_ | hq
    · subst e_
      exact ⟨h', yfr_sm K_.2.2.2 hs K_.1 (ywa_r xshE_w (List.mem_cons_of_mem _ List.mem_cons_self)), Or.inr (Or.inr (Or.inr (Or.inr (Or.inr (Or.inl (⟨xq_ltF rfl rfl (K_.2.2.1 _ List.mem_cons_self), xq_ltF rfl rfl (K_.2.2.1 _ (List.mem_cons_of_mem _ List.mem_cons_self)), bpat_of (K_.2.1 _ List.mem_cons_self), fun a_ j_ n0_ => yfr_bp K_.2.2.2 (List.forall_mem_cons.mpr ⟨fun e_ => n0_ ⟨e_.1.symm, e_.2.symm⟩, fun q_ hq => absurd hq List.not_mem_nil⟩), G_⟩))))))⟩
    rcases List.mem_cons.mp hq with e_ | hq
    · subst e_
      exact ⟨h', yfr_sm K_.2.2.2 hs K_.1 (ywa_r xshE_w (List.mem_cons_of_mem _ (List.mem_cons_of_mem _ List.mem_cons_self))), Or.inr (Or.inr (Or.inr (Or.inr (Or.inr (Or.inr (Or.inl (⟨xq_leF rfl rfl (K_.2.2.1 _ List.mem_cons_self), xq_ltF rfl rfl (K_.2.2.1 _ (List.mem_cons_of_mem _ List.mem_cons_self)), xq_eqT rfl rfl (K_.2.2.1 _ (List.mem_cons_of_mem _ (List.mem_cons_of_mem _ List.mem_cons_self))), xq_eqF rfl rfl (K_.2.2.1 _ (List.mem_cons_of_mem _ (List.mem_cons_of_mem _ (List.mem_cons_of_mem _ List.mem_cons_self)))), xq_ltT rfl rfl (K_.2.2.1 _ (List.mem_cons_of_mem _ (List.mem_cons_of_mem _ (List.mem_cons_of_mem _ (List.mem_cons_of_mem _ List.mem_cons_self))))), xq_ltF rfl rfl (K_.2.2.1 _ (List.mem_cons_of_mem _ (List.mem_cons_of_mem _ (List.mem_cons_of_mem _ (List.mem_cons_of_mem _ (List.mem_cons_of_mem _ List.mem_cons_self)))))), bpat_of (K_.2.1 _ List.mem_cons_self), fun a_ j_ n0_ => yfr_bp K_.2.2.2 (List.forall_mem_cons.mpr ⟨fun e_ => n0_ ⟨e_.1.symm, e_.2.symm⟩, fun q_ hq => absurd hq List.not_mem_nil⟩), G_⟩)))))))⟩
    rcases List.mem_cons.mp hq with e_ | hq
    · subst e_
      exact ⟨h', yfr_sm K_.2.2.2 hs K_.1 (ywa_r xshE_w (List.mem_cons_of_mem _ (List.mem_cons_of_mem _ (List.mem_cons_of_mem _ List.mem_cons_self)))), Or.inr (Or.inr (Or.inr (Or.inr (Or.inr (Or.inr (Or.inr (Or.inl (⟨xq_ltT rfl rfl (K_.2.2.1 _ List.mem_cons_self), xq_eqT rfl rfl (K_.2.2.1 _ (List.mem_cons_of_mem _ List.mem_cons_self)), xq_eqF rfl rfl (K_.2.2.1 _ (List.mem_cons_of_mem _ (List.mem_cons_of_mem _ List.mem_cons_self))), xq_ltT rfl rfl (K_.2.2.1 _ (List.mem_cons_of_mem _ (List.mem_cons_of_mem _ (List.mem_cons_of_mem _ List.mem_cons_self)))), xq_ltF rfl rfl (K_.2.2.1 _ (List.mem_cons_of_mem _ (List.mem_cons_of_mem _ (List.mem_cons_of_mem _ (List.mem_cons_of_mem _ List.mem_cons_self))))), bpat_of (K_.2.1 _ List.mem_cons_self), fun a_ j_ n0_ => yfr_bp K_.2.2.2 (List.forall_mem_cons.mpr ⟨fun e_ => n0_ ⟨e_.1.symm, e_.2.symm⟩, fun q_ hq => absurd hq List.not_mem_nil⟩), G_⟩))))))))⟩
    rcases List.mem_cons.mp hq with e_ | hq
    · subst e_
      exact ⟨h', yfr_sm K_.2.2.2 hs K_.1 (ywa_r xshE_w (List.mem_cons_of_mem _ (List.mem_cons_of_mem _ (List.mem_cons_of_mem _ (List.mem_cons_of_mem _ List.mem_cons_self))))), Or.inr (Or.inr (Or.inr (Or.inr (Or.inr (Or.inr (Or.inr (Or.inr (Or.inl (⟨xq_leF rfl rfl (K_.2.2.1 _ List.mem_cons_self), xq_ltF rfl rfl (K_.2.2.1 _ (List.mem_cons_of_mem _ List.mem_cons_self)), xq_eqT rfl rfl (K_.2.2.1 _ (List.mem_cons_of_mem _ (List.mem_cons_of_mem _ List.mem_cons_self))), xq_eqF rfl rfl (K_.2.2.1 _ (List.mem_cons_of_mem _ (List.mem_cons_of_mem _ (List.mem_cons_of_mem _ List.mem_cons_self)))), xq_eqF rfl rfl (K_.2.2.1 _ (List.mem_cons_of_mem _ (List.mem_cons_of_mem _ (List.mem_cons_of_mem _ (List.mem_cons_of_mem _ List.mem_cons_self))))), xq_ltT rfl rfl (K_.2.2.1 _ (List.mem_cons_of_mem _ (List.mem_cons_of_mem _ (List.mem_cons_of_mem _ (List.mem_cons_of_mem _ (List.mem_cons_of_mem _ List.mem_cons_self)))))), xq_ltF rfl rfl (K_.2.2.1 _ (List.mem_cons_of_mem _ (List.mem_cons_of_mem _ (List.mem_cons_of_mem _ (List.mem_cons_of_mem _ (List.mem_cons_of_mem _ (List.mem_cons_of_mem _ List.mem_cons_self))))))), bpat_of (K_.2.1 _ List.mem_cons_self), fun a_ j_ n0_ => yfr_bp K_.2.2.2 (List.forall_mem_cons.mpr ⟨fun e_ => n0_ ⟨e_.1.symm, e_.2.symm⟩, fun q_ hq => absurd hq List.not_mem_nil⟩), G_⟩)))))))))⟩
    rcases List.mem_cons.mp hq with e_ | hq
    · subst e_
      exact ⟨h', yfr_sm K_.2.2.2 hs K_.1 (ywa_r xshE_w (List.mem_cons_of_mem _ (List.mem_cons_of_mem _ (List.mem_cons_of_mem _ (List.mem_cons_of_mem _ (List.mem_cons_of_mem _ List.mem_cons_self)))))), Or.inr (Or.inr (Or.inr (Or.inr (Or.inr (Or.inr (Or.inr (Or.inr (Or.inr (Or.inl (⟨xq_ltT rfl rfl (K_.2.2.1 _ List.mem_cons_self), xq_eqT rfl rfl (K_.2.2.1 _ (List.mem_cons_of_mem _ List.mem_cons_self)), xq_eqF rfl rfl (K_.2.2.1 _ (List.mem_cons_of_mem _ (List.mem_cons_of_mem _ List.mem_cons_self))), xq_eqF rfl rfl (K_.2.2.1 _ (List.mem_cons_of_mem _ (List.mem_cons_of_mem _ (List.mem_cons_of_mem _ List.mem_cons_self)))), xq_ltT rfl rfl (K_.2.2.1 _ (List.mem_cons_of_mem _ (List.mem_cons_of_mem _ (List.mem_cons_of_mem _ (List.mem_cons_of_mem _ List.mem_cons_self))))), xq_ltF rfl rfl (K_.2.2.1 _ (List.mem_cons_of_mem _ (List.mem_cons_of_mem _ (List.mem_cons_of_mem _ (List.mem_cons_of_mem _ (List.mem_cons_of_mem _ List.mem_cons_self)))))), bpat_of (K_.2.1 _ List.mem_cons_self), fun a_ j_ n0_ => yfr_bp K_.2.2.2 (List.forall_mem_cons.mpr ⟨fun e_ => n0_ ⟨e_.1.symm, e_.2.symm⟩, fun q_ hq => absurd hq List.not_mem_nil⟩), G_⟩))))))))))⟩
    rcases List.mem_cons.mp hq with e_ | hq
    · subst e_
      exact ⟨h', yfr_sm K_.2.2.2 hs K_.1 (ywa_r xshE_w (List.mem_cons_of_mem _ (List.mem_cons_of_mem _ (List.mem_cons_of_mem _ (List.mem_cons_of_mem _ (List.mem_cons_of_mem _ (List.mem_cons_of_mem _ List.mem_cons_self))))))), Or.inr (Or.inr (Or.inr (Or.inr (Or.inr (Or.inr (Or.inr (Or.inr (Or.inr (Or.inr (Or.inl (⟨xq_leF rfl rfl (K_.2.2.1 _ List.mem_cons_self), xq_ltF rfl rfl (K_.2.2.1 _ (List.mem_cons_of_mem _ List.mem_cons_self)), xq_eqT rfl rfl (K_.2.2.1 _ (List.mem_cons_of_mem _ (List.mem_cons_of_mem _ List.mem_cons_self))), xq_eqF rfl rfl (K_.2.2.1 _ (List.mem_cons_of_mem _ (List.mem_cons_of_mem _ (List.mem_cons_of_mem _ List.mem_cons_self)))), xq_eqF rfl rfl (K_.2.2.1 _ (List.mem_cons_of_mem _ (List.mem_cons_of_mem _ (List.mem_cons_of_mem _ (List.mem_cons_of_mem _ List.mem_cons_self))))), xq_eqF rfl rfl (K_.2.2.1 _ (List.mem_cons_of_mem _ (List.mem_cons_of_mem _ (List.mem_cons_of_mem _ (List.mem_cons_of_mem _ (List.mem_cons_of_mem _ List.mem_cons_self)))))), xq_ltT rfl rfl (K_.2.2.1 _ (List.mem_cons_of_mem _ (List.mem_cons_of_mem _ (List.mem_cons_of_mem _ (List.mem_cons_of_mem _ (List.mem_cons_of_mem _ (List.mem_cons_of_mem _ List.mem_cons_self))))))), xq_ltF rfl rfl (K_.2.2.1 _ (List.mem_cons_of_mem _ (List.mem_cons_of_mem _ (List.mem_cons_of_mem _ (List.mem_cons_of_mem _ (List.mem_cons_of_mem _ (List.mem_cons_of_mem _ (List.mem_cons_of_mem _ List.mem_cons_self)))))))), bpat_of (K_.2.1 _ List.mem_cons_self), fun a_ j_ n0_ => yfr_bp K_.2.2.2 (List.forall_mem_cons.mpr ⟨fun e_ => n0_ ⟨e_.1.symm, e_.2.symm⟩, fun q_ hq => absurd hq List.not_mem_nil⟩), G_⟩)))))))))))⟩
    rcases List.mem_cons.mp hq with e_ | hq
    · subst e_
      exact ⟨h', yfr_sm K_.2.2.2 hs K_.1 (ywa_r xshE_w (List.mem_cons_of_mem _ (List.mem_cons_of_mem _ (List.mem_cons_of_mem _ (List.mem_cons_of_mem _ (List.mem_cons_of_mem _ (List.mem_cons_of_mem _ (List.mem_cons_of_mem _ List.mem_cons_self)))))))), Or.inr (Or.inr (Or.inr (Or.inr (Or.inr (Or.inr (Or.inr (Or.inr (Or.inr (Or.inr (Or.inr (Or.inl (⟨xq_ltT rfl rfl (K_.2.2.1 _ List.mem_cons_self), xq_eqT rfl rfl (K_.2.2.1 _ (List.mem_cons_of_mem _ List.mem_cons_self)), xq_eqF rfl rfl (K_.2.2.1 _ (List.mem_cons_of_mem _ (List.mem_cons_of_mem _ List.mem_cons_self))), xq_eqF rfl rfl (K_.2.2.1 _ (List.mem_cons_of_mem _ (List.mem_cons_of_mem _ (List.mem_cons_of_mem _ List.mem_cons_self)))), xq_eqF rfl rfl (K_.2.2.1 _ (List.mem_cons_of_mem _ (List.mem_cons_of_mem _ (List.mem_cons_of_mem _ (List.mem_cons_of_mem _ List.mem_cons_self))))), xq_ltT rfl rfl (K_.2.2.1 _ (List.mem_cons_of_mem _ (List.mem_cons_of_mem _ (List.mem_cons_of_mem _ (List.mem_cons_of_mem _ (List.mem_cons_of_mem _ List.mem_cons_self)))))), xq_ltF rfl rfl (K_.2.2.1 _ (List.mem_cons_of_mem _ (List.mem_cons_of_mem _ (List.mem_cons_of_mem _ (List.mem_cons_of_mem _ (List.mem_cons_of_mem _ (List.mem_cons_of_mem _ List.mem_cons_self))))))), bpat_of (K_.2.1 _ List.mem_cons_self), fun a_ j_ n0_ => yfr_bp K_.2.2.2 (List.forall_mem_cons.mpr ⟨fun e_ => n0_ ⟨e_.1.symm, e_.2.symm⟩, fun q_ hq => absurd hq List.not_mem_nil⟩), G_⟩))))))))))))⟩
    have e_ := List.mem_singleton.mp hq
    subst e_
    exact ⟨h', yfr_sm K_.2.2.2 hs K_.1 (ywa_r xshE_w (List.mem_cons_of_mem _ (List.mem_cons_of_mem _ (List.mem_cons_of_mem _ (List.mem_cons_of_mem _ (List.mem_cons_of_mem _ (List.mem_cons_of_mem _ (List.mem_cons_of_mem _ (List.mem_cons_of_mem _ List.mem_cons_self))))))))), Or.inr (Or.inr (Or.inr (Or.inr (Or.inr (Or.inr (Or.inr (Or.inr (Or.inr (Or.inr (Or.inr (Or.inr (⟨xq_eqF rfl rfl (K_.2.2.1 _ List.mem_cons_self), xq_eqF rfl rfl (K_.2.2.1 _ (List.mem_cons_of_mem _ List.mem_cons_self)), xq_eqF rfl rfl (K_.2.2.1 _ (List.mem_cons_of_mem _ (List.mem_cons_of_mem _ List.mem_cons_self))), xq_eqF rfl rfl (K_.2.2.1 _ (List.mem_cons_of_mem _ (List.mem_cons_of_mem _ (List.mem_cons_of_mem _ List.mem_cons_self)))), xq_ltT rfl rfl (K_.2.2.1 _ (List.mem_cons_of_mem _ (List.mem_cons_of_mem _ (List.mem_cons_of_mem _ (List.mem_cons_of_mem _ List.mem_cons_self))))), xq_ltF rfl rfl (K_.2.2.1 _ (List.mem_cons_of_mem _ (List.mem_cons_of_mem _ (List.mem_cons_of_mem _ (List.mem_cons_of_mem _ (List.mem_cons_of_mem _ List.mem_cons_self)))))), bpat_of (K_.2.1 _ List.mem_cons_self), fun a_ j_ n0_ => yfr_bp K_.2.2.2 (List.forall_mem_cons.mpr ⟨fun e_ => n0_ ⟨e_.1.symm, e_.2.symm⟩, fun q_ hq => absurd hq List.not_mem_nil⟩), G_⟩))))))))))))⟩
-- xshO: 313 steps, 0 ends, 1 returns
def xshO_L : List (Nat × Nat × Nat) := [(1000, 7, 3), (1001, 20, 24)]
def xshO_O : yO := [(0, .int 7, .index 313), (313, .arg 1, .index 1000), (1000, .int 0, .index 1001)]
def xshO_A : yA := (yZ xshO_L, [(.arg 1, 4)], [], [], [])
def xshO_C : List xB := [(.eq, .arg 2, .int 0, false)]
def xshO_ss : List yS := []
def xshO_rs : List yR := [(some (.int 1), [(1001, .int 23, .int 0), (1001, .int 22, .int 0), (1001, .int 21, .int 0), (1001, .int 20, .int 0), (1001, .int 19, .int 0), (1001, .int 18, .int 0), (1001, .int 17, .int 0), (1001, .int 16, .int 0), (1001, .int 15, .int 0), (1001, .int 14, .int 0), (1001, .int 13, .int 0), (1001, .int 12, .int 0), (1001, .int 11, .int 0), (1001, .int 10, .int 0), (1001, .int 9, .int 0), (1001, .int 8, .int 0), (1001, .int 7, .int 0), (1001, .int 6, .int 0), (1001, .int 5, .int 0), (1001, .int 4, .int 0), (1001, .int 3, .int 0), (1001, .int 2, .int 0), (1001, .int 1, .int 0), (1001, .int 0, .int 0), (1000, .int 2, .arg 3), (1000, .int 1, .arg 2), (0, .int 7, .index 313), (313, .arg 1, .index 1000), (1000, .int 0, .index 1001)], [(.eq, .arg 2, .int 0, false)], [(1001, .int 23), (1001, .int 22), (1001, .int 21), (1001, .int 20), (1001, .int 19), (1001, .int 18), (1001, .int 17), (1001, .int 16), (1001, .int 15), (1001, .int 14), (1001, .int 13), (1001, .int 12), (1001, .int 11), (1001, .int 10), (1001, .int 9), (1001, .int 8), (1001, .int 7), (1001, .int 6), (1001, .int 5), (1001, .int 4), (1001, .int 3), (1001, .int 2), (1001, .int 1), (1001, .int 0), (1000, .int 2), (1000, .int 1)])]
theorem xshO_w : ywa xshO_A xshO_ss xshO_rs = true := by decide +kernel
theorem xshO_k : yis (yev xshO_A 3000 60 108 [] (65, [(0, .index 0), (1, .arg 1), (2, .arg 2), (3, .arg 3)], [], xshO_O, xshO_C, [])) xshO_ss xshO_rs = true := by decide +kernel
def xshO_r (v1_ v2 v3 : Int32) (k_ : Nat) : Value := bif Nat.beq k_ 1 then .int v1_ else (bif Nat.beq k_ 2 then .int v2 else (bif Nat.beq k_ 3 then .int v3 else (.int 0)))
def xshO_s (a1000 a1001 : Nat) (n_ : Nat) : Nat := bif Nat.beq n_ 1000 then a1000 else (bif Nat.beq n_ 1001 then a1001 else (0))
theorem xshO {h_ : xH} {a1000 a1001 : Nat} {v1_ v2 v3 : Int32} (hs : sHp h_) (k1000 : bcq h_ a1000 7 3) (k1001 : bcq h_ a1001 20 24) (o0_ : bpat h_ 313 (v1_).toInt.toNat = some (.index a1000)) (o1 : bpat h_ a1000 0 = some (.index a1001)) (b0 : 0 ≤ (v1_).toInt ∧ (v1_).toInt < 4) (c0_ : ¬ v2 = (0 : Int32)) : ∃ h', ysm h_ h' ∧ (((bpat h' a1001 23 = some (.int (0 : Int32))) ∧ (bpat h' a1001 22 = some (.int (0 : Int32))) ∧ (bpat h' a1001 21 = some (.int (0 : Int32))) ∧ (bpat h' a1001 20 = some (.int (0 : Int32))) ∧ (bpat h' a1001 19 = some (.int (0 : Int32))) ∧ (bpat h' a1001 18 = some (.int (0 : Int32))) ∧ (bpat h' a1001 17 = some (.int (0 : Int32))) ∧ (bpat h' a1001 16 = some (.int (0 : Int32))) ∧ (bpat h' a1001 15 = some (.int (0 : Int32))) ∧ (bpat h' a1001 14 = some (.int (0 : Int32))) ∧ (bpat h' a1001 13 = some (.int (0 : Int32))) ∧ (bpat h' a1001 12 = some (.int (0 : Int32))) ∧ (bpat h' a1001 11 = some (.int (0 : Int32))) ∧ (bpat h' a1001 10 = some (.int (0 : Int32))) ∧ (bpat h' a1001 9 = some (.int (0 : Int32))) ∧ (bpat h' a1001 8 = some (.int (0 : Int32))) ∧ (bpat h' a1001 7 = some (.int (0 : Int32))) ∧ (bpat h' a1001 6 = some (.int (0 : Int32))) ∧ (bpat h' a1001 5 = some (.int (0 : Int32))) ∧ (bpat h' a1001 4 = some (.int (0 : Int32))) ∧ (bpat h' a1001 3 = some (.int (0 : Int32))) ∧ (bpat h' a1001 2 = some (.int (0 : Int32))) ∧ (bpat h' a1001 1 = some (.int (0 : Int32))) ∧ (bpat h' a1001 0 = some (.int (0 : Int32))) ∧ (bpat h' a1000 2 = some (.int v3)) ∧ (bpat h' a1000 1 = some (.int v2)) ∧ (∀ a_ j_ : Nat, ¬ (a_ = a1001 ∧ j_ = 23) → ¬ (a_ = a1001 ∧ j_ = 22) → ¬ (a_ = a1001 ∧ j_ = 21) → ¬ (a_ = a1001 ∧ j_ = 20) → ¬ (a_ = a1001 ∧ j_ = 19) → ¬ (a_ = a1001 ∧ j_ = 18) → ¬ (a_ = a1001 ∧ j_ = 17) → ¬ (a_ = a1001 ∧ j_ = 16) → ¬ (a_ = a1001 ∧ j_ = 15) → ¬ (a_ = a1001 ∧ j_ = 14) → ¬ (a_ = a1001 ∧ j_ = 13) → ¬ (a_ = a1001 ∧ j_ = 12) → ¬ (a_ = a1001 ∧ j_ = 11) → ¬ (a_ = a1001 ∧ j_ = 10) → ¬ (a_ = a1001 ∧ j_ = 9) → ¬ (a_ = a1001 ∧ j_ = 8) → ¬ (a_ = a1001 ∧ j_ = 7) → ¬ (a_ = a1001 ∧ j_ = 6) → ¬ (a_ = a1001 ∧ j_ = 5) → ¬ (a_ = a1001 ∧ j_ = 4) → ¬ (a_ = a1001 ∧ j_ = 3) → ¬ (a_ = a1001 ∧ j_ = 2) → ¬ (a_ = a1001 ∧ j_ = 1) → ¬ (a_ = a1001 ∧ j_ = 0) → ¬ (a_ = a1000 ∧ j_ = 2) → ¬ (a_ = a1000 ∧ j_ = 1) → bpat h' a_ j_ = bpat h_ a_ j_) ∧ (∀ D_, 60 ≤ D_ → xrun D_ 108 65 [(0, .index 0), (1, .int v1_), (2, .int v2), (3, .int v3)] [] h_ (some (.int (1 : Int32)), h', [])))) := by
  have hA : yas xshO_A (xshO_r v1_ v2 v3) (yg (xshO_s a1000 a1001)) := ⟨List.forall_mem_cons.mpr ⟨b0, fun q_ hq => absurd hq List.not_mem_nil⟩, fun q_ hq => absurd hq List.not_mem_nil, fun q_ hq => absurd hq List.not_mem_nil, fun n_ hn => yg_lo hn, fun q_ hq => absurd hq List.not_mem_nil⟩
  have Hs : ysh xshO_A.1 (yg (xshO_s a1000 a1001)) h_ := ysh_of2 hs (List.forall_mem_cons.mpr ⟨⟨by decide, k1000⟩, List.forall_mem_cons.mpr ⟨⟨by decide, k1001⟩, fun q_ hq => absurd hq List.not_mem_nil⟩⟩)
  have Ho : ymem (xshO_r v1_ v2 v3) (yg (xshO_s a1000 a1001)) xshO_O h_ := List.forall_mem_cons.mpr ⟨bpat_some (fxr_at hs.2 (show fxk fxl 0 7 = some 313 by decide +kernel)), List.forall_mem_cons.mpr ⟨bpat_some o0_, List.forall_mem_cons.mpr ⟨bpat_some o1, fun q_ hq => absurd hq List.not_mem_nil⟩⟩⟩
  have HC : ∀ q_ ∈ xshO_C, xhold (xshO_r v1_ v2 v3) q_ := List.forall_mem_cons.mpr ⟨xh_eqF2 c0_, fun q_ hq => absurd hq List.not_mem_nil⟩
  rcases yrun (yis_ok xshO_k) hA Hs Ho HC with ⟨q_, hq, h', K_, G_⟩ | ⟨q_, hq, h', K_, G_⟩
  · cases hq
  · have e_ := List.mem_singleton.mp hq
    subst e_
    exact ⟨h', yfr_sm K_.2.2.2 hs K_.1 (ywa_r xshO_w List.mem_cons_self), ⟨bpat_of (K_.2.1 _ List.mem_cons_self), bpat_of (K_.2.1 _ (List.mem_cons_of_mem _ List.mem_cons_self)), bpat_of (K_.2.1 _ (List.mem_cons_of_mem _ (List.mem_cons_of_mem _ List.mem_cons_self))), bpat_of (K_.2.1 _ (List.mem_cons_of_mem _ (List.mem_cons_of_mem _ (List.mem_cons_of_mem _ List.mem_cons_self)))), bpat_of (K_.2.1 _ (List.mem_cons_of_mem _ (List.mem_cons_of_mem _ (List.mem_cons_of_mem _ (List.mem_cons_of_mem _ List.mem_cons_self))))), bpat_of (K_.2.1 _ (List.mem_cons_of_mem _ (List.mem_cons_of_mem _ (List.mem_cons_of_mem _ (List.mem_cons_of_mem _ (List.mem_cons_of_mem _ List.mem_cons_self)))))), bpat_of (K_.2.1 _ (List.mem_cons_of_mem _ (List.mem_cons_of_mem _ (List.mem_cons_of_mem _ (List.mem_cons_of_mem _ (List.mem_cons_of_mem _ (List.mem_cons_of_mem _ List.mem_cons_self))))))), bpat_of (K_.2.1 _ (List.mem_cons_of_mem _ (List.mem_cons_of_mem _ (List.mem_cons_of_mem _ (List.mem_cons_of_mem _ (List.mem_cons_of_mem _ (List.mem_cons_of_mem _ (List.mem_cons_of_mem _ List.mem_cons_self)))))))), bpat_of (K_.2.1 _ (List.mem_cons_of_mem _ (List.mem_cons_of_mem _ (List.mem_cons_of_mem _ (List.mem_cons_of_mem _ (List.mem_cons_of_mem _ (List.mem_cons_of_mem _ (List.mem_cons_of_mem _ (List.mem_cons_of_mem _ List.mem_cons_self))))))))), bpat_of (K_.2.1 _ (List.mem_cons_of_mem _ (List.mem_cons_of_mem _ (List.mem_cons_of_mem _ (List.mem_cons_of_mem _ (List.mem_cons_of_mem _ (List.mem_cons_of_mem _ (List.mem_cons_of_mem _ (List.mem_cons_of_mem _ (List.mem_cons_of_mem _ List.mem_cons_self)))))))))), bpat_of (K_.2.1 _ (List.mem_cons_of_mem _ (List.mem_cons_of_mem _ (List.mem_cons_of_mem _ (List.mem_cons_of_mem _ (List.mem_cons_of_mem _ (List.mem_cons_of_mem _ (List.mem_cons_of_mem _ (List.mem_cons_of_mem _ (List.mem_cons_of_mem _ (List.mem_cons_of_mem _ List.mem_cons_self))))))))))), bpat_of (K_.2.1 _ (List.mem_cons_of_mem _ (List.mem_cons_of_mem _ (List.mem_cons_of_mem _ (List.mem_cons_of_mem _ (List.mem_cons_of_mem _ (List.mem_cons_of_mem _ (List.mem_cons_of_mem _ (List.mem_cons_of_mem _ (List.mem_cons_of_mem _ (List.mem_cons_of_mem _ (List.mem_cons_of_mem _ List.mem_cons_self)))))))))))), bpat_of (K_.2.1 _ (List.mem_cons_of_mem _ (List.mem_cons_of_mem _ (List.mem_cons_of_mem _ (List.mem_cons_of_mem _ (List.mem_cons_of_mem _ (List.mem_cons_of_mem _ (List.mem_cons_of_mem _ (List.mem_cons_of_mem _ (List.mem_cons_of_mem _ (List.mem_cons_of_mem _ (List.mem_cons_of_mem _ (List.mem_cons_of_mem _ List.mem_cons_self))))))))))))), bpat_of (K_.2.1 _ (List.mem_cons_of_mem _ (List.mem_cons_of_mem _ (List.mem_cons_of_mem _ (List.mem_cons_of_mem _ (List.mem_cons_of_mem _ (List.mem_cons_of_mem _ (List.mem_cons_of_mem _ (List.mem_cons_of_mem _ (List.mem_cons_of_mem _ (List.mem_cons_of_mem _ (List.mem_cons_of_mem _ (List.mem_cons_of_mem _ (List.mem_cons_of_mem _ List.mem_cons_self)))))))))))))), bpat_of (K_.2.1 _ (List.mem_cons_of_mem _ (List.mem_cons_of_mem _ (List.mem_cons_of_mem _ (List.mem_cons_of_mem _ (List.mem_cons_of_mem _ (List.mem_cons_of_mem _ (List.mem_cons_of_mem _ (List.mem_cons_of_mem _ (List.mem_cons_of_mem _ (List.mem_cons_of_mem _ (List.mem_cons_of_mem _ (List.mem_cons_of_mem _ (List.mem_cons_of_mem _ (List.mem_cons_of_mem _ List.mem_cons_self))))))))))))))), bpat_of (K_.2.1 _ (List.mem_cons_of_mem _ (List.mem_cons_of_mem _ (List.mem_cons_of_mem _ (List.mem_cons_of_mem _ (List.mem_cons_of_mem _ (List.mem_cons_of_mem _ (List.mem_cons_of_mem _ (List.mem_cons_of_mem _ (List.mem_cons_of_mem _ (List.mem_cons_of_mem _ (List.mem_cons_of_mem _ (List.mem_cons_of_mem _ (List.mem_cons_of_mem _ (List.mem_cons_of_mem _ (List.mem_cons_of_mem _ List.mem_cons_self)))))))))))))))), bpat_of (K_.2.1 _ (List.mem_cons_of_mem _ (List.mem_cons_of_mem _ (List.mem_cons_of_mem _ (List.mem_cons_of_mem _ (List.mem_cons_of_mem _ (List.mem_cons_of_mem _ (List.mem_cons_of_mem _ (List.mem_cons_of_mem _ (List.mem_cons_of_mem _ (List.mem_cons_of_mem _ (List.mem_cons_of_mem _ (List.mem_cons_of_mem _ (List.mem_cons_of_mem _ (List.mem_cons_of_mem _ (List.mem_cons_of_mem _ (List.mem_cons_of_mem _ List.mem_cons_self))))))))))))))))), bpat_of (K_.2.1 _ (List.mem_cons_of_mem _ (List.mem_cons_of_mem _ (List.mem_cons_of_mem _ (List.mem_cons_of_mem _ (List.mem_cons_of_mem _ (List.mem_cons_of_mem _ (List.mem_cons_of_mem _ (List.mem_cons_of_mem _ (List.mem_cons_of_mem _ (List.mem_cons_of_mem _ (List.mem_cons_of_mem _ (List.mem_cons_of_mem _ (List.mem_cons_of_mem _ (List.mem_cons_of_mem _ (List.mem_cons_of_mem _ (List.mem_cons_of_mem _ (List.mem_cons_of_mem _ List.mem_cons_self)))))))))))))))))), bpat_of (K_.2.1 _ (List.mem_cons_of_mem _ (List.mem_cons_of_mem _ (List.mem_cons_of_mem _ (List.mem_cons_of_mem _ (List.mem_cons_of_mem _ (List.mem_cons_of_mem _ (List.mem_cons_of_mem _ (List.mem_cons_of_mem _ (List.mem_cons_of_mem _ (List.mem_cons_of_mem _ (List.mem_cons_of_mem _ (List.mem_cons_of_mem _ (List.mem_cons_of_mem _ (List.mem_cons_of_mem _ (List.mem_cons_of_mem _ (List.mem_cons_of_mem _ (List.mem_cons_of_mem _ (List.mem_cons_of_mem _ List.mem_cons_self))))))))))))))))))), bpat_of (K_.2.1 _ (List.mem_cons_of_mem _ (List.mem_cons_of_mem _ (List.mem_cons_of_mem _ (List.mem_cons_of_mem _ (List.mem_cons_of_mem _ (List.mem_cons_of_mem _ (List.mem_cons_of_mem _ (List.mem_cons_of_mem _ (List.mem_cons_of_mem _ (List.mem_cons_of_mem _ (List.mem_cons_of_mem _ (List.mem_cons_of_mem _ (List.mem_cons_of_mem _ (List.mem_cons_of_mem _ (List.mem_cons_of_mem _ (List.mem_cons_of_mem _ (List.mem_cons_of_mem _ (List.mem_cons_of_mem _ (List.mem_cons_of_mem _ List.mem_cons_self)))))))))))))))))))), bpat_of (K_.2.1 _ (List.mem_cons_of_mem _ (List.mem_cons_of_mem _ (List.mem_cons_of_mem _ (List.mem_cons_of_mem _ (List.mem_cons_of_mem _ (List.mem_cons_of_mem _ (List.mem_cons_of_mem _ (List.mem_cons_of_mem _ (List.mem_cons_of_mem _ (List.mem_cons_of_mem _ (List.mem_cons_of_mem _ (List.mem_cons_of_mem _ (List.mem_cons_of_mem _ (List.mem_cons_of_mem _ (List.mem_cons_of_mem _ (List.mem_cons_of_mem _ (List.mem_cons_of_mem _ (List.mem_cons_of_mem _ (List.mem_cons_of_mem _ (List.mem_cons_of_mem _ List.mem_cons_self))))))))))))))))))))), bpat_of (K_.2.1 _ (List.mem_cons_of_mem _ (List.mem_cons_of_mem _ (List.mem_cons_of_mem _ (List.mem_cons_of_mem _ (List.mem_cons_of_mem _ (List.mem_cons_of_mem _ (List.mem_cons_of_mem _ (List.mem_cons_of_mem _ (List.mem_cons_of_mem _ (List.mem_cons_of_mem _ (List.mem_cons_of_mem _ (List.mem_cons_of_mem _ (List.mem_cons_of_mem _ (List.mem_cons_of_mem _ (List.mem_cons_of_mem _ (List.mem_cons_of_mem _ (List.mem_cons_of_mem _ (List.mem_cons_of_mem _ (List.mem_cons_of_mem _ (List.mem_cons_of_mem _ (List.mem_cons_of_mem _ List.mem_cons_self)))))))))))))))))))))), bpat_of (K_.2.1 _ (List.mem_cons_of_mem _ (List.mem_cons_of_mem _ (List.mem_cons_of_mem _ (List.mem_cons_of_mem _ (List.mem_cons_of_mem _ (List.mem_cons_of_mem _ (List.mem_cons_of_mem _ (List.mem_cons_of_mem _ (List.mem_cons_of_mem _ (List.mem_cons_of_mem _ (List.mem_cons_of_mem _ (List.mem_cons_of_mem _ (List.mem_cons_of_mem _ (List.mem_cons_of_mem _ (List.mem_cons_of_mem _ (List.mem_cons_of_mem _ (List.mem_cons_of_mem _ (List.mem_cons_of_mem _ (List.mem_cons_of_mem _ (List.mem_cons_of_mem _ (List.mem_cons_of_mem _ (List.mem_cons_of_mem _ List.mem_cons_self))))))))))))))))))))))), bpat_of (K_.2.1 _ (List.mem_cons_of_mem _ (List.mem_cons_of_mem _ (List.mem_cons_of_mem _ (List.mem_cons_of_mem _ (List.mem_cons_of_mem _ (List.mem_cons_of_mem _ (List.mem_cons_of_mem _ (List.mem_cons_of_mem _ (List.mem_cons_of_mem _ (List.mem_cons_of_mem _ (List.mem_cons_of_mem _ (List.mem_cons_of_mem _ (List.mem_cons_of_mem _ (List.mem_cons_of_mem _ (List.mem_cons_of_mem _ (List.mem_cons_of_mem _ (List.mem_cons_of_mem _ (List.mem_cons_of_mem _ (List.mem_cons_of_mem _ (List.mem_cons_of_mem _ (List.mem_cons_of_mem _ (List.mem_cons_of_mem _ (List.mem_cons_of_mem _ List.mem_cons_self)))))))))))))))))))))))), bpat_of (K_.2.1 _ (List.mem_cons_of_mem _ (List.mem_cons_of_mem _ (List.mem_cons_of_mem _ (List.mem_cons_of_mem _ (List.mem_cons_of_mem _ (List.mem_cons_of_mem _ (List.mem_cons_of_mem _ (List.mem_cons_of_mem _ (List.mem_cons_of_mem _ (List.mem_cons_of_mem _ (List.mem_cons_of_mem _ (List.mem_cons_of_mem _ (List.mem_cons_of_mem _ (List.mem_cons_of_mem _ (List.mem_cons_of_mem _ (List.mem_cons_of_mem _ (List.mem_cons_of_mem _ (List.mem_cons_of_mem _ (List.mem_cons_of_mem _ (List.mem_cons_of_mem _ (List.mem_cons_of_mem _ (List.mem_cons_of_mem _ (List.mem_cons_of_mem _ (List.mem_cons_of_mem _ List.mem_cons_self))))))))))))))))))))))))), bpat_of (K_.2.1 _ (List.mem_cons_of_mem _ (List.mem_cons_of_mem _ (List.mem_cons_of_mem _ (List.mem_cons_of_mem _ (List.mem_cons_of_mem _ (List.mem_cons_of_mem _ (List.mem_cons_of_mem _ (List.mem_cons_of_mem _ (List.mem_cons_of_mem _ (List.mem_cons_of_mem _ (List.mem_cons_of_mem _ (List.mem_cons_of_mem _ (List.mem_cons_of_mem _ (List.mem_cons_of_mem _ (List.mem_cons_of_mem _ (List.mem_cons_of_mem _ (List.mem_cons_of_mem _ (List.mem_cons_of_mem _ (List.mem_cons_of_mem _ (List.mem_cons_of_mem _ (List.mem_cons_of_mem _ (List.mem_cons_of_mem _ (List.mem_cons_of_mem _ (List.mem_cons_of_mem _ (List.mem_cons_of_mem _ List.mem_cons_self)))))))))))))))))))))))))), fun a_ j_ n0_ n1_ n2_ n3_ n4_ n5_ n6_ n7 n8 n9 n10 n11 n12 n13 n14_ n15 n16 n17 n18_ n19 n20 n21_ n22 n23 n24_ n25_ => yfr_bp K_.2.2.2 (List.forall_mem_cons.mpr ⟨fun e_ => n0_ ⟨e_.1.symm, e_.2.symm⟩, List.forall_mem_cons.mpr ⟨fun e_ => n1_ ⟨e_.1.symm, e_.2.symm⟩, List.forall_mem_cons.mpr ⟨fun e_ => n2_ ⟨e_.1.symm, e_.2.symm⟩, List.forall_mem_cons.mpr ⟨fun e_ => n3_ ⟨e_.1.symm, e_.2.symm⟩, List.forall_mem_cons.mpr ⟨fun e_ => n4_ ⟨e_.1.symm, e_.2.symm⟩, List.forall_mem_cons.mpr ⟨fun e_ => n5_ ⟨e_.1.symm, e_.2.symm⟩, List.forall_mem_cons.mpr ⟨fun e_ => n6_ ⟨e_.1.symm, e_.2.symm⟩, List.forall_mem_cons.mpr ⟨fun e_ => n7 ⟨e_.1.symm, e_.2.symm⟩, List.forall_mem_cons.mpr ⟨fun e_ => n8 ⟨e_.1.symm, e_.2.symm⟩, List.forall_mem_cons.mpr ⟨fun e_ => n9 ⟨e_.1.symm, e_.2.symm⟩, List.forall_mem_cons.mpr ⟨fun e_ => n10 ⟨e_.1.symm, e_.2.symm⟩, List.forall_mem_cons.mpr ⟨fun e_ => n11 ⟨e_.1.symm, e_.2.symm⟩, List.forall_mem_cons.mpr ⟨fun e_ => n12 ⟨e_.1.symm, e_.2.symm⟩, List.forall_mem_cons.mpr ⟨fun e_ => n13 ⟨e_.1.symm, e_.2.symm⟩, List.forall_mem_cons.mpr ⟨fun e_ => n14_ ⟨e_.1.symm, e_.2.symm⟩, List.forall_mem_cons.mpr ⟨fun e_ => n15 ⟨e_.1.symm, e_.2.symm⟩, List.forall_mem_cons.mpr ⟨fun e_ => n16 ⟨e_.1.symm, e_.2.symm⟩, List.forall_mem_cons.mpr ⟨fun e_ => n17 ⟨e_.1.symm, e_.2.symm⟩, List.forall_mem_cons.mpr ⟨fun e_ => n18_ ⟨e_.1.symm, e_.2.symm⟩, List.forall_mem_cons.mpr ⟨fun e_ => n19 ⟨e_.1.symm, e_.2.symm⟩, List.forall_mem_cons.mpr ⟨fun e_ => n20 ⟨e_.1.symm, e_.2.symm⟩, List.forall_mem_cons.mpr ⟨fun e_ => n21_ ⟨e_.1.symm, e_.2.symm⟩, List.forall_mem_cons.mpr ⟨fun e_ => n22 ⟨e_.1.symm, e_.2.symm⟩, List.forall_mem_cons.mpr ⟨fun e_ => n23 ⟨e_.1.symm, e_.2.symm⟩, List.forall_mem_cons.mpr ⟨fun e_ => n24_ ⟨e_.1.symm, e_.2.symm⟩, List.forall_mem_cons.mpr ⟨fun e_ => n25_ ⟨e_.1.symm, e_.2.symm⟩, fun q_ hq => absurd hq List.not_mem_nil⟩⟩⟩⟩⟩⟩⟩⟩⟩⟩⟩⟩⟩⟩⟩⟩⟩⟩⟩⟩⟩⟩⟩⟩⟩⟩), G_⟩⟩
-- xshZ: 314 steps, 0 ends, 1 returns
def xshZ_L : List (Nat × Nat × Nat) := [(1000, 7, 3), (1001, 20, 24)]
def xshZ_O : yO := [(0, .int 7, .index 313), (313, .arg 1, .index 1000), (1000, .int 0, .index 1001)]
def xshZ_A : yA := (yZ xshZ_L, [(.arg 1, 4)], [], [], [])
def xshZ_C : List xB := [(.eq, .arg 2, .int 0, true)]
def xshZ_ss : List yS := []
def xshZ_rs : List yR := [(some (.int 1), [(1001, .int 23, .int 0), (1001, .int 22, .int 0), (1001, .int 21, .int 0), (1001, .int 20, .int 0), (1001, .int 19, .int 0), (1001, .int 18, .int 0), (1001, .int 17, .int 0), (1001, .int 16, .int 0), (1001, .int 15, .int 0), (1001, .int 14, .int 0), (1001, .int 13, .int 0), (1001, .int 12, .int 0), (1001, .int 11, .int 0), (1001, .int 10, .int 0), (1001, .int 9, .int 0), (1001, .int 8, .int 0), (1001, .int 7, .int 0), (1001, .int 6, .int 0), (1001, .int 5, .int 0), (1001, .int 4, .int 0), (1001, .int 3, .int 0), (1001, .int 2, .int 0), (1001, .int 1, .int 0), (1001, .int 0, .int 0), (1000, .int 2, .int 0), (1000, .int 1, .arg 2), (0, .int 7, .index 313), (313, .arg 1, .index 1000), (1000, .int 0, .index 1001)], [(.eq, .arg 2, .int 0, true)], [(1001, .int 23), (1001, .int 22), (1001, .int 21), (1001, .int 20), (1001, .int 19), (1001, .int 18), (1001, .int 17), (1001, .int 16), (1001, .int 15), (1001, .int 14), (1001, .int 13), (1001, .int 12), (1001, .int 11), (1001, .int 10), (1001, .int 9), (1001, .int 8), (1001, .int 7), (1001, .int 6), (1001, .int 5), (1001, .int 4), (1001, .int 3), (1001, .int 2), (1001, .int 1), (1001, .int 0), (1000, .int 2), (1000, .int 1)])]
theorem xshZ_w : ywa xshZ_A xshZ_ss xshZ_rs = true := by decide +kernel
theorem xshZ_k : yis (yev xshZ_A 3000 60 108 [] (65, [(0, .index 0), (1, .arg 1), (2, .arg 2), (3, .arg 3)], [], xshZ_O, xshZ_C, [])) xshZ_ss xshZ_rs = true := by decide +kernel
def xshZ_r (v1_ v2 v3 : Int32) (k_ : Nat) : Value := bif Nat.beq k_ 1 then .int v1_ else (bif Nat.beq k_ 2 then .int v2 else (bif Nat.beq k_ 3 then .int v3 else (.int 0)))
def xshZ_s (a1000 a1001 : Nat) (n_ : Nat) : Nat := bif Nat.beq n_ 1000 then a1000 else (bif Nat.beq n_ 1001 then a1001 else (0))
theorem xshZ {h_ : xH} {a1000 a1001 : Nat} {v1_ v2 v3 : Int32} (hs : sHp h_) (k1000 : bcq h_ a1000 7 3) (k1001 : bcq h_ a1001 20 24) (o0_ : bpat h_ 313 (v1_).toInt.toNat = some (.index a1000)) (o1 : bpat h_ a1000 0 = some (.index a1001)) (b0 : 0 ≤ (v1_).toInt ∧ (v1_).toInt < 4) (c0_ : v2 = (0 : Int32)) : ∃ h', ysm h_ h' ∧ (((bpat h' a1001 23 = some (.int (0 : Int32))) ∧ (bpat h' a1001 22 = some (.int (0 : Int32))) ∧ (bpat h' a1001 21 = some (.int (0 : Int32))) ∧ (bpat h' a1001 20 = some (.int (0 : Int32))) ∧ (bpat h' a1001 19 = some (.int (0 : Int32))) ∧ (bpat h' a1001 18 = some (.int (0 : Int32))) ∧ (bpat h' a1001 17 = some (.int (0 : Int32))) ∧ (bpat h' a1001 16 = some (.int (0 : Int32))) ∧ (bpat h' a1001 15 = some (.int (0 : Int32))) ∧ (bpat h' a1001 14 = some (.int (0 : Int32))) ∧ (bpat h' a1001 13 = some (.int (0 : Int32))) ∧ (bpat h' a1001 12 = some (.int (0 : Int32))) ∧ (bpat h' a1001 11 = some (.int (0 : Int32))) ∧ (bpat h' a1001 10 = some (.int (0 : Int32))) ∧ (bpat h' a1001 9 = some (.int (0 : Int32))) ∧ (bpat h' a1001 8 = some (.int (0 : Int32))) ∧ (bpat h' a1001 7 = some (.int (0 : Int32))) ∧ (bpat h' a1001 6 = some (.int (0 : Int32))) ∧ (bpat h' a1001 5 = some (.int (0 : Int32))) ∧ (bpat h' a1001 4 = some (.int (0 : Int32))) ∧ (bpat h' a1001 3 = some (.int (0 : Int32))) ∧ (bpat h' a1001 2 = some (.int (0 : Int32))) ∧ (bpat h' a1001 1 = some (.int (0 : Int32))) ∧ (bpat h' a1001 0 = some (.int (0 : Int32))) ∧ (bpat h' a1000 2 = some (.int (0 : Int32))) ∧ (bpat h' a1000 1 = some (.int v2)) ∧ (∀ a_ j_ : Nat, ¬ (a_ = a1001 ∧ j_ = 23) → ¬ (a_ = a1001 ∧ j_ = 22) → ¬ (a_ = a1001 ∧ j_ = 21) → ¬ (a_ = a1001 ∧ j_ = 20) → ¬ (a_ = a1001 ∧ j_ = 19) → ¬ (a_ = a1001 ∧ j_ = 18) → ¬ (a_ = a1001 ∧ j_ = 17) → ¬ (a_ = a1001 ∧ j_ = 16) → ¬ (a_ = a1001 ∧ j_ = 15) → ¬ (a_ = a1001 ∧ j_ = 14) → ¬ (a_ = a1001 ∧ j_ = 13) → ¬ (a_ = a1001 ∧ j_ = 12) → ¬ (a_ = a1001 ∧ j_ = 11) → ¬ (a_ = a1001 ∧ j_ = 10) → ¬ (a_ = a1001 ∧ j_ = 9) → ¬ (a_ = a1001 ∧ j_ = 8) → ¬ (a_ = a1001 ∧ j_ = 7) → ¬ (a_ = a1001 ∧ j_ = 6) → ¬ (a_ = a1001 ∧ j_ = 5) → ¬ (a_ = a1001 ∧ j_ = 4) → ¬ (a_ = a1001 ∧ j_ = 3) → ¬ (a_ = a1001 ∧ j_ = 2) → ¬ (a_ = a1001 ∧ j_ = 1) → ¬ (a_ = a1001 ∧ j_ = 0) → ¬ (a_ = a1000 ∧ j_ = 2) → ¬ (a_ = a1000 ∧ j_ = 1) → bpat h' a_ j_ = bpat h_ a_ j_) ∧ (∀ D_, 60 ≤ D_ → xrun D_ 108 65 [(0, .index 0), (1, .int v1_), (2, .int v2), (3, .int v3)] [] h_ (some (.int (1 : Int32)), h', [])))) := by
  have hA : yas xshZ_A (xshZ_r v1_ v2 v3) (yg (xshZ_s a1000 a1001)) := ⟨List.forall_mem_cons.mpr ⟨b0, fun q_ hq => absurd hq List.not_mem_nil⟩, fun q_ hq => absurd hq List.not_mem_nil, fun q_ hq => absurd hq List.not_mem_nil, fun n_ hn => yg_lo hn, fun q_ hq => absurd hq List.not_mem_nil⟩
  have Hs : ysh xshZ_A.1 (yg (xshZ_s a1000 a1001)) h_ := ysh_of2 hs (List.forall_mem_cons.mpr ⟨⟨by decide, k1000⟩, List.forall_mem_cons.mpr ⟨⟨by decide, k1001⟩, fun q_ hq => absurd hq List.not_mem_nil⟩⟩)
  have Ho : ymem (xshZ_r v1_ v2 v3) (yg (xshZ_s a1000 a1001)) xshZ_O h_ := List.forall_mem_cons.mpr ⟨bpat_some (fxr_at hs.2 (show fxk fxl 0 7 = some 313 by decide +kernel)), List.forall_mem_cons.mpr ⟨bpat_some o0_, List.forall_mem_cons.mpr ⟨bpat_some o1, fun q_ hq => absurd hq List.not_mem_nil⟩⟩⟩
  have HC : ∀ q_ ∈ xshZ_C, xhold (xshZ_r v1_ v2 v3) q_ := List.forall_mem_cons.mpr ⟨xh_eqT2 c0_, fun q_ hq => absurd hq List.not_mem_nil⟩
  rcases yrun (yis_ok xshZ_k) hA Hs Ho HC with ⟨q_, hq, h', K_, G_⟩ | ⟨q_, hq, h', K_, G_⟩
  · cases hq
  · have e_ := List.mem_singleton.mp hq
    subst e_
    exact ⟨h', yfr_sm K_.2.2.2 hs K_.1 (ywa_r xshZ_w List.mem_cons_self), ⟨bpat_of (K_.2.1 _ List.mem_cons_self), bpat_of (K_.2.1 _ (List.mem_cons_of_mem _ List.mem_cons_self)), bpat_of (K_.2.1 _ (List.mem_cons_of_mem _ (List.mem_cons_of_mem _ List.mem_cons_self))), bpat_of (K_.2.1 _ (List.mem_cons_of_mem _ (List.mem_cons_of_mem _ (List.mem_cons_of_mem _ List.mem_cons_self)))), bpat_of (K_.2.1 _ (List.mem_cons_of_mem _ (List.mem_cons_of_mem _ (List.mem_cons_of_mem _ (List.mem_cons_of_mem _ List.mem_cons_self))))), bpat_of (K_.2.1 _ (List.mem_cons_of_mem _ (List.mem_cons_of_mem _ (List.mem_cons_of_mem _ (List.mem_cons_of_mem _ (List.mem_cons_of_mem _ List.mem_cons_self)))))), bpat_of (K_.2.1 _ (List.mem_cons_of_mem _ (List.mem_cons_of_mem _ (List.mem_cons_of_mem _ (List.mem_cons_of_mem _ (List.mem_cons_of_mem _ (List.mem_cons_of_mem _ List.mem_cons_self))))))), bpat_of (K_.2.1 _ (List.mem_cons_of_mem _ (List.mem_cons_of_mem _ (List.mem_cons_of_mem _ (List.mem_cons_of_mem _ (List.mem_cons_of_mem _ (List.mem_cons_of_mem _ (List.mem_cons_of_mem _ List.mem_cons_self)))))))), bpat_of (K_.2.1 _ (List.mem_cons_of_mem _ (List.mem_cons_of_mem _ (List.mem_cons_of_mem _ (List.mem_cons_of_mem _ (List.mem_cons_of_mem _ (List.mem_cons_of_mem _ (List.mem_cons_of_mem _ (List.mem_cons_of_mem _ List.mem_cons_self))))))))), bpat_of (K_.2.1 _ (List.mem_cons_of_mem _ (List.mem_cons_of_mem _ (List.mem_cons_of_mem _ (List.mem_cons_of_mem _ (List.mem_cons_of_mem _ (List.mem_cons_of_mem _ (List.mem_cons_of_mem _ (List.mem_cons_of_mem _ (List.mem_cons_of_mem _ List.mem_cons_self)))))))))), bpat_of (K_.2.1 _ (List.mem_cons_of_mem _ (List.mem_cons_of_mem _ (List.mem_cons_of_mem _ (List.mem_cons_of_mem _ (List.mem_cons_of_mem _ (List.mem_cons_of_mem _ (List.mem_cons_of_mem _ (List.mem_cons_of_mem _ (List.mem_cons_of_mem _ (List.mem_cons_of_mem _ List.mem_cons_self))))))))))), bpat_of (K_.2.1 _ (List.mem_cons_of_mem _ (List.mem_cons_of_mem _ (List.mem_cons_of_mem _ (List.mem_cons_of_mem _ (List.mem_cons_of_mem _ (List.mem_cons_of_mem _ (List.mem_cons_of_mem _ (List.mem_cons_of_mem _ (List.mem_cons_of_mem _ (List.mem_cons_of_mem _ (List.mem_cons_of_mem _ List.mem_cons_self)))))))))))), bpat_of (K_.2.1 _ (List.mem_cons_of_mem _ (List.mem_cons_of_mem _ (List.mem_cons_of_mem _ (List.mem_cons_of_mem _ (List.mem_cons_of_mem _ (List.mem_cons_of_mem _ (List.mem_cons_of_mem _ (List.mem_cons_of_mem _ (List.mem_cons_of_mem _ (List.mem_cons_of_mem _ (List.mem_cons_of_mem _ (List.mem_cons_of_mem _ List.mem_cons_self))))))))))))), bpat_of (K_.2.1 _ (List.mem_cons_of_mem _ (List.mem_cons_of_mem _ (List.mem_cons_of_mem _ (List.mem_cons_of_mem _ (List.mem_cons_of_mem _ (List.mem_cons_of_mem _ (List.mem_cons_of_mem _ (List.mem_cons_of_mem _ (List.mem_cons_of_mem _ (List.mem_cons_of_mem _ (List.mem_cons_of_mem _ (List.mem_cons_of_mem _ (List.mem_cons_of_mem _ List.mem_cons_self)))))))))))))), bpat_of (K_.2.1 _ (List.mem_cons_of_mem _ (List.mem_cons_of_mem _ (List.mem_cons_of_mem _ (List.mem_cons_of_mem _ (List.mem_cons_of_mem _ (List.mem_cons_of_mem _ (List.mem_cons_of_mem _ (List.mem_cons_of_mem _ (List.mem_cons_of_mem _ (List.mem_cons_of_mem _ (List.mem_cons_of_mem _ (List.mem_cons_of_mem _ (List.mem_cons_of_mem _ (List.mem_cons_of_mem _ List.mem_cons_self))))))))))))))), bpat_of (K_.2.1 _ (List.mem_cons_of_mem _ (List.mem_cons_of_mem _ (List.mem_cons_of_mem _ (List.mem_cons_of_mem _ (List.mem_cons_of_mem _ (List.mem_cons_of_mem _ (List.mem_cons_of_mem _ (List.mem_cons_of_mem _ (List.mem_cons_of_mem _ (List.mem_cons_of_mem _ (List.mem_cons_of_mem _ (List.mem_cons_of_mem _ (List.mem_cons_of_mem _ (List.mem_cons_of_mem _ (List.mem_cons_of_mem _ List.mem_cons_self)))))))))))))))), bpat_of (K_.2.1 _ (List.mem_cons_of_mem _ (List.mem_cons_of_mem _ (List.mem_cons_of_mem _ (List.mem_cons_of_mem _ (List.mem_cons_of_mem _ (List.mem_cons_of_mem _ (List.mem_cons_of_mem _ (List.mem_cons_of_mem _ (List.mem_cons_of_mem _ (List.mem_cons_of_mem _ (List.mem_cons_of_mem _ (List.mem_cons_of_mem _ (List.mem_cons_of_mem _ (List.mem_cons_of_mem _ (List.mem_cons_of_mem _ (List.mem_cons_of_mem _ List.mem_cons_self))))))))))))))))), bpat_of (K_.2.1 _ (List.mem_cons_of_mem _ (List.mem_cons_of_mem _ (List.mem_cons_of_mem _ (List.mem_cons_of_mem _ (List.mem_cons_of_mem _ (List.mem_cons_of_mem _ (List.mem_cons_of_mem _ (List.mem_cons_of_mem _ (List.mem_cons_of_mem _ (List.mem_cons_of_mem _ (List.mem_cons_of_mem _ (List.mem_cons_of_mem _ (List.mem_cons_of_mem _ (List.mem_cons_of_mem _ (List.mem_cons_of_mem _ (List.mem_cons_of_mem _ (List.mem_cons_of_mem _ List.mem_cons_self)))))))))))))))))), bpat_of (K_.2.1 _ (List.mem_cons_of_mem _ (List.mem_cons_of_mem _ (List.mem_cons_of_mem _ (List.mem_cons_of_mem _ (List.mem_cons_of_mem _ (List.mem_cons_of_mem _ (List.mem_cons_of_mem _ (List.mem_cons_of_mem _ (List.mem_cons_of_mem _ (List.mem_cons_of_mem _ (List.mem_cons_of_mem _ (List.mem_cons_of_mem _ (List.mem_cons_of_mem _ (List.mem_cons_of_mem _ (List.mem_cons_of_mem _ (List.mem_cons_of_mem _ (List.mem_cons_of_mem _ (List.mem_cons_of_mem _ List.mem_cons_self))))))))))))))))))), bpat_of (K_.2.1 _ (List.mem_cons_of_mem _ (List.mem_cons_of_mem _ (List.mem_cons_of_mem _ (List.mem_cons_of_mem _ (List.mem_cons_of_mem _ (List.mem_cons_of_mem _ (List.mem_cons_of_mem _ (List.mem_cons_of_mem _ (List.mem_cons_of_mem _ (List.mem_cons_of_mem _ (List.mem_cons_of_mem _ (List.mem_cons_of_mem _ (List.mem_cons_of_mem _ (List.mem_cons_of_mem _ (List.mem_cons_of_mem _ (List.mem_cons_of_mem _ (List.mem_cons_of_mem _ (List.mem_cons_of_mem _ (List.mem_cons_of_mem _ List.mem_cons_self)))))))))))))))))))), bpat_of (K_.2.1 _ (List.mem_cons_of_mem _ (List.mem_cons_of_mem _ (List.mem_cons_of_mem _ (List.mem_cons_of_mem _ (List.mem_cons_of_mem _ (List.mem_cons_of_mem _ (List.mem_cons_of_mem _ (List.mem_cons_of_mem _ (List.mem_cons_of_mem _ (List.mem_cons_of_mem _ (List.mem_cons_of_mem _ (List.mem_cons_of_mem _ (List.mem_cons_of_mem _ (List.mem_cons_of_mem _ (List.mem_cons_of_mem _ (List.mem_cons_of_mem _ (List.mem_cons_of_mem _ (List.mem_cons_of_mem _ (List.mem_cons_of_mem _ (List.mem_cons_of_mem _ List.mem_cons_self))))))))))))))))))))), bpat_of (K_.2.1 _ (List.mem_cons_of_mem _ (List.mem_cons_of_mem _ (List.mem_cons_of_mem _ (List.mem_cons_of_mem _ (List.mem_cons_of_mem _ (List.mem_cons_of_mem _ (List.mem_cons_of_mem _ (List.mem_cons_of_mem _ (List.mem_cons_of_mem _ (List.mem_cons_of_mem _ (List.mem_cons_of_mem _ (List.mem_cons_of_mem _ (List.mem_cons_of_mem _ (List.mem_cons_of_mem _ (List.mem_cons_of_mem _ (List.mem_cons_of_mem _ (List.mem_cons_of_mem _ (List.mem_cons_of_mem _ (List.mem_cons_of_mem _ (List.mem_cons_of_mem _ (List.mem_cons_of_mem _ List.mem_cons_self)))))))))))))))))))))), bpat_of (K_.2.1 _ (List.mem_cons_of_mem _ (List.mem_cons_of_mem _ (List.mem_cons_of_mem _ (List.mem_cons_of_mem _ (List.mem_cons_of_mem _ (List.mem_cons_of_mem _ (List.mem_cons_of_mem _ (List.mem_cons_of_mem _ (List.mem_cons_of_mem _ (List.mem_cons_of_mem _ (List.mem_cons_of_mem _ (List.mem_cons_of_mem _ (List.mem_cons_of_mem _ (List.mem_cons_of_mem _ (List.mem_cons_of_mem _ (List.mem_cons_of_mem _ (List.mem_cons_of_mem _ (List.mem_cons_of_mem _ (List.mem_cons_of_mem _ (List.mem_cons_of_mem _ (List.mem_cons_of_mem _ (List.mem_cons_of_mem _ List.mem_cons_self))))))))))))))))))))))), bpat_of (K_.2.1 _ (List.mem_cons_of_mem _ (List.mem_cons_of_mem _ (List.mem_cons_of_mem _ (List.mem_cons_of_mem _ (List.mem_cons_of_mem _ (List.mem_cons_of_mem _ (List.mem_cons_of_mem _ (List.mem_cons_of_mem _ (List.mem_cons_of_mem _ (List.mem_cons_of_mem _ (List.mem_cons_of_mem _ (List.mem_cons_of_mem _ (List.mem_cons_of_mem _ (List.mem_cons_of_mem _ (List.mem_cons_of_mem _ (List.mem_cons_of_mem _ (List.mem_cons_of_mem _ (List.mem_cons_of_mem _ (List.mem_cons_of_mem _ (List.mem_cons_of_mem _ (List.mem_cons_of_mem _ (List.mem_cons_of_mem _ (List.mem_cons_of_mem _ List.mem_cons_self)))))))))))))))))))))))), bpat_of (K_.2.1 _ (List.mem_cons_of_mem _ (List.mem_cons_of_mem _ (List.mem_cons_of_mem _ (List.mem_cons_of_mem _ (List.mem_cons_of_mem _ (List.mem_cons_of_mem _ (List.mem_cons_of_mem _ (List.mem_cons_of_mem _ (List.mem_cons_of_mem _ (List.mem_cons_of_mem _ (List.mem_cons_of_mem _ (List.mem_cons_of_mem _ (List.mem_cons_of_mem _ (List.mem_cons_of_mem _ (List.mem_cons_of_mem _ (List.mem_cons_of_mem _ (List.mem_cons_of_mem _ (List.mem_cons_of_mem _ (List.mem_cons_of_mem _ (List.mem_cons_of_mem _ (List.mem_cons_of_mem _ (List.mem_cons_of_mem _ (List.mem_cons_of_mem _ (List.mem_cons_of_mem _ List.mem_cons_self))))))))))))))))))))))))), bpat_of (K_.2.1 _ (List.mem_cons_of_mem _ (List.mem_cons_of_mem _ (List.mem_cons_of_mem _ (List.mem_cons_of_mem _ (List.mem_cons_of_mem _ (List.mem_cons_of_mem _ (List.mem_cons_of_mem _ (List.mem_cons_of_mem _ (List.mem_cons_of_mem _ (List.mem_cons_of_mem _ (List.mem_cons_of_mem _ (List.mem_cons_of_mem _ (List.mem_cons_of_mem _ (List.mem_cons_of_mem _ (List.mem_cons_of_mem _ (List.mem_cons_of_mem _ (List.mem_cons_of_mem _ (List.mem_cons_of_mem _ (List.mem_cons_of_mem _ (List.mem_cons_of_mem _ (List.mem_cons_of_mem _ (List.mem_cons_of_mem _ (List.mem_cons_of_mem _ (List.mem_cons_of_mem _ (List.mem_cons_of_mem _ List.mem_cons_self)))))))))))))))))))))))))), fun a_ j_ n0_ n1_ n2_ n3_ n4_ n5_ n6_ n7 n8 n9 n10 n11 n12 n13 n14_ n15 n16 n17 n18_ n19 n20 n21_ n22 n23 n24_ n25_ => yfr_bp K_.2.2.2 (List.forall_mem_cons.mpr ⟨fun e_ => n0_ ⟨e_.1.symm, e_.2.symm⟩, List.forall_mem_cons.mpr ⟨fun e_ => n1_ ⟨e_.1.symm, e_.2.symm⟩, List.forall_mem_cons.mpr ⟨fun e_ => n2_ ⟨e_.1.symm, e_.2.symm⟩, List.forall_mem_cons.mpr ⟨fun e_ => n3_ ⟨e_.1.symm, e_.2.symm⟩, List.forall_mem_cons.mpr ⟨fun e_ => n4_ ⟨e_.1.symm, e_.2.symm⟩, List.forall_mem_cons.mpr ⟨fun e_ => n5_ ⟨e_.1.symm, e_.2.symm⟩, List.forall_mem_cons.mpr ⟨fun e_ => n6_ ⟨e_.1.symm, e_.2.symm⟩, List.forall_mem_cons.mpr ⟨fun e_ => n7 ⟨e_.1.symm, e_.2.symm⟩, List.forall_mem_cons.mpr ⟨fun e_ => n8 ⟨e_.1.symm, e_.2.symm⟩, List.forall_mem_cons.mpr ⟨fun e_ => n9 ⟨e_.1.symm, e_.2.symm⟩, List.forall_mem_cons.mpr ⟨fun e_ => n10 ⟨e_.1.symm, e_.2.symm⟩, List.forall_mem_cons.mpr ⟨fun e_ => n11 ⟨e_.1.symm, e_.2.symm⟩, List.forall_mem_cons.mpr ⟨fun e_ => n12 ⟨e_.1.symm, e_.2.symm⟩, List.forall_mem_cons.mpr ⟨fun e_ => n13 ⟨e_.1.symm, e_.2.symm⟩, List.forall_mem_cons.mpr ⟨fun e_ => n14_ ⟨e_.1.symm, e_.2.symm⟩, List.forall_mem_cons.mpr ⟨fun e_ => n15 ⟨e_.1.symm, e_.2.symm⟩, List.forall_mem_cons.mpr ⟨fun e_ => n16 ⟨e_.1.symm, e_.2.symm⟩, List.forall_mem_cons.mpr ⟨fun e_ => n17 ⟨e_.1.symm, e_.2.symm⟩, List.forall_mem_cons.mpr ⟨fun e_ => n18_ ⟨e_.1.symm, e_.2.symm⟩, List.forall_mem_cons.mpr ⟨fun e_ => n19 ⟨e_.1.symm, e_.2.symm⟩, List.forall_mem_cons.mpr ⟨fun e_ => n20 ⟨e_.1.symm, e_.2.symm⟩, List.forall_mem_cons.mpr ⟨fun e_ => n21_ ⟨e_.1.symm, e_.2.symm⟩, List.forall_mem_cons.mpr ⟨fun e_ => n22 ⟨e_.1.symm, e_.2.symm⟩, List.forall_mem_cons.mpr ⟨fun e_ => n23 ⟨e_.1.symm, e_.2.symm⟩, List.forall_mem_cons.mpr ⟨fun e_ => n24_ ⟨e_.1.symm, e_.2.symm⟩, List.forall_mem_cons.mpr ⟨fun e_ => n25_ ⟨e_.1.symm, e_.2.symm⟩, fun q_ hq => absurd hq List.not_mem_nil⟩⟩⟩⟩⟩⟩⟩⟩⟩⟩⟩⟩⟩⟩⟩⟩⟩⟩⟩⟩⟩⟩⟩⟩⟩⟩), G_⟩⟩
-- mshE: 211 steps, 4 ends, 9 returns
def mshE_L : List (Nat × Nat × Nat) := []
def mshE_O : yO := [(338, .int 3, .index 341), (341, .int 1, .arg 400), (341, .int 3, .arg 401)]
def mshE_A : yA := (yZ mshE_L, [], [], [], [])
def mshE_C : List xB := []
def mshE_ss : List yS := [(65, [(0, .index 338), (1, .arg 1), (2, .arg 2), (3, .arg 3)], [], [(338, .int 3, .index 341), (341, .int 1, .arg 400), (341, .int 3, .arg 401)], [(.eq, .arg 2, .int 0, true), (.le, .arg 1, .int 3, true), (.lt, .arg 1, .int 0, false)], []),
  (65, [(0, .index 338), (1, .arg 1), (2, .arg 2), (3, .arg 3)], [], [(338, .int 3, .index 341), (341, .int 1, .arg 400), (341, .int 3, .arg 401)], [(.le, .arg 3, .int 24, true), (.lt, .arg 3, .int 0, false), (.eq, .arg 2, .int 8, true), (.eq, .arg 2, .int 0, false), (.le, .arg 1, .int 3, true), (.lt, .arg 1, .int 0, false)], []),
  (65, [(0, .index 338), (1, .arg 1), (2, .arg 2), (3, .arg 3)], [], [(338, .int 3, .index 341), (341, .int 1, .arg 400), (341, .int 3, .arg 401)], [(.le, .arg 3, .int 24, true), (.lt, .arg 3, .int 0, false), (.eq, .arg 2, .int 16, true), (.eq, .arg 2, .int 8, false), (.eq, .arg 2, .int 0, false), (.le, .arg 1, .int 3, true), (.lt, .arg 1, .int 0, false)], []),
  (65, [(0, .index 338), (1, .arg 1), (2, .arg 2), (3, .arg 3)], [], [(338, .int 3, .index 341), (341, .int 1, .arg 400), (341, .int 3, .arg 401)], [(.le, .arg 3, .int 24, true), (.lt, .arg 3, .int 0, false), (.eq, .arg 2, .int 32, true), (.eq, .arg 2, .int 16, false), (.eq, .arg 2, .int 8, false), (.eq, .arg 2, .int 0, false), (.le, .arg 1, .int 3, true), (.lt, .arg 1, .int 0, false)], [])]
def mshE_rs : List yR := [(some (.int (Int32.ofInt (-1000001))), [(341, .int 1, .add (.arg 400) (.int 1)), (338, .int 3, .index 341), (341, .int 3, .arg 401)], [(.lt, .arg 1, .int 0, true)], [(341, .int 1)]),
  (some (.int (Int32.ofInt (-1000001))), [(341, .int 1, .add (.arg 400) (.int 1)), (338, .int 3, .index 341), (341, .int 3, .arg 401)], [(.le, .arg 1, .int 3, false), (.lt, .arg 1, .int 0, false)], [(341, .int 1)]),
  (some (.int (Int32.ofInt (-1000001))), [(341, .int 1, .add (.arg 400) (.int 1)), (338, .int 3, .index 341), (341, .int 3, .arg 401)], [(.le, .arg 3, .int 24, false), (.lt, .arg 3, .int 0, false), (.eq, .arg 2, .int 8, true), (.eq, .arg 2, .int 0, false), (.le, .arg 1, .int 3, true), (.lt, .arg 1, .int 0, false)], [(341, .int 1)]),
  (some (.int (Int32.ofInt (-1000003))), [(341, .int 3, .add (.arg 401) (.int 1)), (338, .int 3, .index 341), (341, .int 1, .arg 400)], [(.lt, .arg 3, .int 0, true), (.eq, .arg 2, .int 8, true), (.eq, .arg 2, .int 0, false), (.le, .arg 1, .int 3, true), (.lt, .arg 1, .int 0, false)], [(341, .int 3)]),
  (some (.int (Int32.ofInt (-1000001))), [(341, .int 1, .add (.arg 400) (.int 1)), (338, .int 3, .index 341), (341, .int 3, .arg 401)], [(.le, .arg 3, .int 24, false), (.lt, .arg 3, .int 0, false), (.eq, .arg 2, .int 16, true), (.eq, .arg 2, .int 8, false), (.eq, .arg 2, .int 0, false), (.le, .arg 1, .int 3, true), (.lt, .arg 1, .int 0, false)], [(341, .int 1)]),
  (some (.int (Int32.ofInt (-1000003))), [(341, .int 3, .add (.arg 401) (.int 1)), (338, .int 3, .index 341), (341, .int 1, .arg 400)], [(.lt, .arg 3, .int 0, true), (.eq, .arg 2, .int 16, true), (.eq, .arg 2, .int 8, false), (.eq, .arg 2, .int 0, false), (.le, .arg 1, .int 3, true), (.lt, .arg 1, .int 0, false)], [(341, .int 3)]),
  (some (.int (Int32.ofInt (-1000001))), [(341, .int 1, .add (.arg 400) (.int 1)), (338, .int 3, .index 341), (341, .int 3, .arg 401)], [(.le, .arg 3, .int 24, false), (.lt, .arg 3, .int 0, false), (.eq, .arg 2, .int 32, true), (.eq, .arg 2, .int 16, false), (.eq, .arg 2, .int 8, false), (.eq, .arg 2, .int 0, false), (.le, .arg 1, .int 3, true), (.lt, .arg 1, .int 0, false)], [(341, .int 1)]),
  (some (.int (Int32.ofInt (-1000003))), [(341, .int 3, .add (.arg 401) (.int 1)), (338, .int 3, .index 341), (341, .int 1, .arg 400)], [(.lt, .arg 3, .int 0, true), (.eq, .arg 2, .int 32, true), (.eq, .arg 2, .int 16, false), (.eq, .arg 2, .int 8, false), (.eq, .arg 2, .int 0, false), (.le, .arg 1, .int 3, true), (.lt, .arg 1, .int 0, false)], [(341, .int 3)]),
  (some (.int (Int32.ofInt (-1000001))), [(341, .int 1, .add (.arg 400) (.int 1)), (338, .int 3, .index 341), (341, .int 3, .arg 401)], [(.eq, .arg 2, .int 32, false), (.eq, .arg 2, .int 16, false), (.eq, .arg 2, .int 8, false), (.eq, .arg 2, .int 0, false), (.le, .arg 1, .int 3, true), (.lt, .arg 1, .int 0, false)], [(341, .int 1)])]
theorem mshE_w : ywa mshE_A mshE_ss mshE_rs = true := by decide +kernel
theorem mshE_k : yis (yev mshE_A 3000 60 228 [65] (0, [(0, .index 338), (1, .arg 1), (2, .arg 2), (3, .arg 3)], [], mshE_O, mshE_C, [])) mshE_ss mshE_rs = true := by decide +kernel
def mshE_r (v1_ v2 v3 v400 v401 : Int32) (k_ : Nat) : Value := bif Nat.beq k_ 1 then .int v1_ else (bif Nat.beq k_ 2 then .int v2 else (bif Nat.beq k_ 3 then .int v3 else (bif Nat.beq k_ 400 then .int v400 else (bif Nat.beq k_ 401 then .int v401 else (.int 0)))))
def mshE_s (n_ : Nat) : Nat := 0
theorem mshE {h_ : xH} {v1_ v2 v3 v400 v401 : Int32} (hs : sHp h_) (o0_ : bpat h_ 341 1 = some (.int v400)) (o1 : bpat h_ 341 3 = some (.int v401)) : ∃ h', ysm h_ h' ∧ (((v2 = (0 : Int32)) ∧ (v1_.toInt ≤ (3 : Int32).toInt) ∧ ((0 : Int32).toInt ≤ v1_.toInt) ∧ (∀ a_ j_ : Nat, bpat h' a_ j_ = bpat h_ a_ j_) ∧ (bldD 60 228 0 [(0, .index 338), (1, .int v1_), (2, .int v2), (3, .int v3)] [] h_ 65 [(0, .index 338), (1, .int v1_), (2, .int v2), (3, .int v3)] [] h'))
  ∨ ((v3.toInt ≤ (24 : Int32).toInt) ∧ ((0 : Int32).toInt ≤ v3.toInt) ∧ (v2 = (8 : Int32)) ∧ (¬ v2 = (0 : Int32)) ∧ (v1_.toInt ≤ (3 : Int32).toInt) ∧ ((0 : Int32).toInt ≤ v1_.toInt) ∧ (∀ a_ j_ : Nat, bpat h' a_ j_ = bpat h_ a_ j_) ∧ (bldD 60 228 0 [(0, .index 338), (1, .int v1_), (2, .int v2), (3, .int v3)] [] h_ 65 [(0, .index 338), (1, .int v1_), (2, .int v2), (3, .int v3)] [] h'))
  ∨ ((v3.toInt ≤ (24 : Int32).toInt) ∧ ((0 : Int32).toInt ≤ v3.toInt) ∧ (v2 = (16 : Int32)) ∧ (¬ v2 = (8 : Int32)) ∧ (¬ v2 = (0 : Int32)) ∧ (v1_.toInt ≤ (3 : Int32).toInt) ∧ ((0 : Int32).toInt ≤ v1_.toInt) ∧ (∀ a_ j_ : Nat, bpat h' a_ j_ = bpat h_ a_ j_) ∧ (bldD 60 228 0 [(0, .index 338), (1, .int v1_), (2, .int v2), (3, .int v3)] [] h_ 65 [(0, .index 338), (1, .int v1_), (2, .int v2), (3, .int v3)] [] h'))
  ∨ ((v3.toInt ≤ (24 : Int32).toInt) ∧ ((0 : Int32).toInt ≤ v3.toInt) ∧ (v2 = (32 : Int32)) ∧ (¬ v2 = (16 : Int32)) ∧ (¬ v2 = (8 : Int32)) ∧ (¬ v2 = (0 : Int32)) ∧ (v1_.toInt ≤ (3 : Int32).toInt) ∧ ((0 : Int32).toInt ≤ v1_.toInt) ∧ (∀ a_ j_ : Nat, bpat h' a_ j_ = bpat h_ a_ j_) ∧ (bldD 60 228 0 [(0, .index 338), (1, .int v1_), (2, .int v2), (3, .int v3)] [] h_ 65 [(0, .index 338), (1, .int v1_), (2, .int v2), (3, .int v3)] [] h'))
  ∨ ((v1_.toInt < (0 : Int32).toInt) ∧ (bpat h' 341 1 = some (.int (v400 + (1 : Int32)))) ∧ (∀ a_ j_ : Nat, ¬ (a_ = 341 ∧ j_ = 1) → bpat h' a_ j_ = bpat h_ a_ j_) ∧ (∀ D_, 60 ≤ D_ → xrun D_ 228 0 [(0, .index 338), (1, .int v1_), (2, .int v2), (3, .int v3)] [] h_ (some (.int (Int32.ofInt (-1000001))), h', [])))
  ∨ (((3 : Int32).toInt < v1_.toInt) ∧ ((0 : Int32).toInt ≤ v1_.toInt) ∧ (bpat h' 341 1 = some (.int (v400 + (1 : Int32)))) ∧ (∀ a_ j_ : Nat, ¬ (a_ = 341 ∧ j_ = 1) → bpat h' a_ j_ = bpat h_ a_ j_) ∧ (∀ D_, 60 ≤ D_ → xrun D_ 228 0 [(0, .index 338), (1, .int v1_), (2, .int v2), (3, .int v3)] [] h_ (some (.int (Int32.ofInt (-1000001))), h', [])))
  ∨ (((24 : Int32).toInt < v3.toInt) ∧ ((0 : Int32).toInt ≤ v3.toInt) ∧ (v2 = (8 : Int32)) ∧ (¬ v2 = (0 : Int32)) ∧ (v1_.toInt ≤ (3 : Int32).toInt) ∧ ((0 : Int32).toInt ≤ v1_.toInt) ∧ (bpat h' 341 1 = some (.int (v400 + (1 : Int32)))) ∧ (∀ a_ j_ : Nat, ¬ (a_ = 341 ∧ j_ = 1) → bpat h' a_ j_ = bpat h_ a_ j_) ∧ (∀ D_, 60 ≤ D_ → xrun D_ 228 0 [(0, .index 338), (1, .int v1_), (2, .int v2), (3, .int v3)] [] h_ (some (.int (Int32.ofInt (-1000001))), h', [])))
  ∨ ((v3.toInt < (0 : Int32).toInt) ∧ (v2 = (8 : Int32)) ∧ (¬ v2 = (0 : Int32)) ∧ (v1_.toInt ≤ (3 : Int32).toInt) ∧ ((0 : Int32).toInt ≤ v1_.toInt) ∧ (bpat h' 341 3 = some (.int (v401 + (1 : Int32)))) ∧ (∀ a_ j_ : Nat, ¬ (a_ = 341 ∧ j_ = 3) → bpat h' a_ j_ = bpat h_ a_ j_) ∧ (∀ D_, 60 ≤ D_ → xrun D_ 228 0 [(0, .index 338), (1, .int v1_), (2, .int v2), (3, .int v3)] [] h_ (some (.int (Int32.ofInt (-1000003))), h', [])))
  ∨ (((24 : Int32).toInt < v3.toInt) ∧ ((0 : Int32).toInt ≤ v3.toInt) ∧ (v2 = (16 : Int32)) ∧ (¬ v2 = (8 : Int32)) ∧ (¬ v2 = (0 : Int32)) ∧ (v1_.toInt ≤ (3 : Int32).toInt) ∧ ((0 : Int32).toInt ≤ v1_.toInt) ∧ (bpat h' 341 1 = some (.int (v400 + (1 : Int32)))) ∧ (∀ a_ j_ : Nat, ¬ (a_ = 341 ∧ j_ = 1) → bpat h' a_ j_ = bpat h_ a_ j_) ∧ (∀ D_, 60 ≤ D_ → xrun D_ 228 0 [(0, .index 338), (1, .int v1_), (2, .int v2), (3, .int v3)] [] h_ (some (.int (Int32.ofInt (-1000001))), h', [])))
  ∨ ((v3.toInt < (0 : Int32).toInt) ∧ (v2 = (16 : Int32)) ∧ (¬ v2 = (8 : Int32)) ∧ (¬ v2 = (0 : Int32)) ∧ (v1_.toInt ≤ (3 : Int32).toInt) ∧ ((0 : Int32).toInt ≤ v1_.toInt) ∧ (bpat h' 341 3 = some (.int (v401 + (1 : Int32)))) ∧ (∀ a_ j_ : Nat, ¬ (a_ = 341 ∧ j_ = 3) → bpat h' a_ j_ = bpat h_ a_ j_) ∧ (∀ D_, 60 ≤ D_ → xrun D_ 228 0 [(0, .index 338), (1, .int v1_), (2, .int v2), (3, .int v3)] [] h_ (some (.int (Int32.ofInt (-1000003))), h', [])))
  ∨ (((24 : Int32).toInt < v3.toInt) ∧ ((0 : Int32).toInt ≤ v3.toInt) ∧ (v2 = (32 : Int32)) ∧ (¬ v2 = (16 : Int32)) ∧ (¬ v2 = (8 : Int32)) ∧ (¬ v2 = (0 : Int32)) ∧ (v1_.toInt ≤ (3 : Int32).toInt) ∧ ((0 : Int32).toInt ≤ v1_.toInt) ∧ (bpat h' 341 1 = some (.int (v400 + (1 : Int32)))) ∧ (∀ a_ j_ : Nat, ¬ (a_ = 341 ∧ j_ = 1) → bpat h' a_ j_ = bpat h_ a_ j_) ∧ (∀ D_, 60 ≤ D_ → xrun D_ 228 0 [(0, .index 338), (1, .int v1_), (2, .int v2), (3, .int v3)] [] h_ (some (.int (Int32.ofInt (-1000001))), h', [])))
  ∨ ((v3.toInt < (0 : Int32).toInt) ∧ (v2 = (32 : Int32)) ∧ (¬ v2 = (16 : Int32)) ∧ (¬ v2 = (8 : Int32)) ∧ (¬ v2 = (0 : Int32)) ∧ (v1_.toInt ≤ (3 : Int32).toInt) ∧ ((0 : Int32).toInt ≤ v1_.toInt) ∧ (bpat h' 341 3 = some (.int (v401 + (1 : Int32)))) ∧ (∀ a_ j_ : Nat, ¬ (a_ = 341 ∧ j_ = 3) → bpat h' a_ j_ = bpat h_ a_ j_) ∧ (∀ D_, 60 ≤ D_ → xrun D_ 228 0 [(0, .index 338), (1, .int v1_), (2, .int v2), (3, .int v3)] [] h_ (some (.int (Int32.ofInt (-1000003))), h', [])))
  ∨ ((¬ v2 = (32 : Int32)) ∧ (¬ v2 = (16 : Int32)) ∧ (¬ v2 = (8 : Int32)) ∧ (¬ v2 = (0 : Int32)) ∧ (v1_.toInt ≤ (3 : Int32).toInt) ∧ ((0 : Int32).toInt ≤ v1_.toInt) ∧ (bpat h' 341 1 = some (.int (v400 + (1 : Int32)))) ∧ (∀ a_ j_ : Nat, ¬ (a_ = 341 ∧ j_ = 1) → bpat h' a_ j_ = bpat h_ a_ j_) ∧ (∀ D_, 60 ≤ D_ → xrun D_ 228 0 [(0, .index 338), (1, .int v1_), (2, .int v2), (3, .int v3)] [] h_ (some (.int (Int32.ofInt (-1000001))), h', [])))) := by
  have hA : yas mshE_A (mshE_r v1_ v2 v3 v400 v401) (yg mshE_s) := ⟨fun q_ hq => absurd hq List.not_mem_nil, fun q_ hq => absurd hq List.not_mem_nil, fun q_ hq => absurd hq List.not_mem_nil, fun n_ hn => yg_lo hn, fun q_ hq => absurd hq List.not_mem_nil⟩
  have Hs : ysh mshE_A.1 (yg mshE_s) h_ := ysh_of2 hs (fun q_ hq => absurd hq List.not_mem_nil)
  have Ho : ymem (mshE_r v1_ v2 v3 v400 v401) (yg mshE_s) mshE_O h_ := List.forall_mem_cons.mpr ⟨bpat_some (fxr_at hs.2 (show fxk fxl 338 3 = some 341 by decide +kernel)), List.forall_mem_cons.mpr ⟨bpat_some o0_, List.forall_mem_cons.mpr ⟨bpat_some o1, fun q_ hq => absurd hq List.not_mem_nil⟩⟩⟩
  have HC : ∀ q_ ∈ mshE_C, xhold (mshE_r v1_ v2 v3 v400 v401) q_ := fun q_ hq => absurd hq List.not_mem_nil
  rcases yrun (yis_ok mshE_k) hA Hs Ho HC with ⟨q_, hq, h', K_, G_⟩ | ⟨q_, hq, h', K_, G_⟩
  · rcases List.mem_cons.mp hq with e_ | hq
    · subst e_
      exact ⟨h', yfr_sm K_.2.2.2 hs K_.1 (ywa_s mshE_w List.mem_cons_self), Or.inl (⟨xq_eqT rfl rfl (K_.2.2.1 _ List.mem_cons_self), xq_leT rfl rfl (K_.2.2.1 _ (List.mem_cons_of_mem _ List.mem_cons_self)), xq_ltF rfl rfl (K_.2.2.1 _ (List.mem_cons_of_mem _ (List.mem_cons_of_mem _ List.mem_cons_self))), fun a_ j_ => yfr_bp K_.2.2.2 (fun q_ hq => absurd hq List.not_mem_nil), G_⟩)⟩
    rcases List.mem_cons.mp hq with e_ | hq
    · subst e_
      exact ⟨h', yfr_sm K_.2.2.2 hs K_.1 (ywa_s mshE_w (List.mem_cons_of_mem _ List.mem_cons_self)), Or.inr (Or.inl (⟨xq_leT rfl rfl (K_.2.2.1 _ List.mem_cons_self), xq_ltF rfl rfl (K_.2.2.1 _ (List.mem_cons_of_mem _ List.mem_cons_self)), xq_eqT rfl rfl (K_.2.2.1 _ (List.mem_cons_of_mem _ (List.mem_cons_of_mem _ List.mem_cons_self))), xq_eqF rfl rfl (K_.2.2.1 _ (List.mem_cons_of_mem _ (List.mem_cons_of_mem _ (List.mem_cons_of_mem _ List.mem_cons_self)))), xq_leT rfl rfl (K_.2.2.1 _ (List.mem_cons_of_mem _ (List.mem_cons_of_mem _ (List.mem_cons_of_mem _ (List.mem_cons_of_mem _ List.mem_cons_self))))), xq_ltF rfl rfl (K_.2.2.1 _ (List.mem_cons_of_mem _ (List.mem_cons_of_mem _ (List.mem_cons_of_mem _ (List.mem_cons_of_mem _ (List.mem_cons_of_mem _ List.mem_cons_self)))))), fun a_ j_ => yfr_bp K_.2.2.2 (fun q_ hq => absurd hq List.not_mem_nil), G_⟩))⟩
    rcases List.mem_cons.mp hq with e_ | hq
    · subst e_
      exact ⟨h', yfr_sm K_.2.2.2 hs K_.1 (ywa_s mshE_w (List.mem_cons_of_mem _ (List.mem_cons_of_mem _ List.mem_cons_self))), Or.inr (Or.inr (Or.inl (⟨xq_leT rfl rfl (K_.2.2.1 _ List.mem_cons_self), xq_ltF rfl rfl (K_.2.2.1 _ (List.mem_cons_of_mem _ List.mem_cons_self)), xq_eqT rfl rfl (K_.2.2.1 _ (List.mem_cons_of_mem _ (List.mem_cons_of_mem _ List.mem_cons_self))), xq_eqF rfl rfl (K_.2.2.1 _ (List.mem_cons_of_mem _ (List.mem_cons_of_mem _ (List.mem_cons_of_mem _ List.mem_cons_self)))), xq_eqF rfl rfl (K_.2.2.1 _ (List.mem_cons_of_mem _ (List.mem_cons_of_mem _ (List.mem_cons_of_mem _ (List.mem_cons_of_mem _ List.mem_cons_self))))), xq_leT rfl rfl (K_.2.2.1 _ (List.mem_cons_of_mem _ (List.mem_cons_of_mem _ (List.mem_cons_of_mem _ (List.mem_cons_of_mem _ (List.mem_cons_of_mem _ List.mem_cons_self)))))), xq_ltF rfl rfl (K_.2.2.1 _ (List.mem_cons_of_mem _ (List.mem_cons_of_mem _ (List.mem_cons_of_mem _ (List.mem_cons_of_mem _ (List.mem_cons_of_mem _ (List.mem_cons_of_mem _ List.mem_cons_self))))))), fun a_ j_ => yfr_bp K_.2.2.2 (fun q_ hq => absurd hq List.not_mem_nil), G_⟩)))⟩
    have e_ := List.mem_singleton.mp hq
    subst e_
    exact ⟨h', yfr_sm K_.2.2.2 hs K_.1 (ywa_s mshE_w (List.mem_cons_of_mem _ (List.mem_cons_of_mem _ (List.mem_cons_of_mem _ List.mem_cons_self)))), Or.inr (Or.inr (Or.inr (Or.inl (⟨xq_leT rfl rfl (K_.2.2.1 _ List.mem_cons_self), xq_ltF rfl rfl (K_.2.2.1 _ (List.mem_cons_of_mem _ List.mem_cons_self)), xq_eqT rfl rfl (K_.2.2.1 _ (List.mem_cons_of_mem _ (List.mem_cons_of_mem _ List.mem_cons_self))), xq_eqF rfl rfl (K_.2.2.1 _ (List.mem_cons_of_mem _ (List.mem_cons_of_mem _ (List.mem_cons_of_mem _ List.mem_cons_self)))), xq_eqF rfl rfl (K_.2.2.1 _ (List.mem_cons_of_mem _ (List.mem_cons_of_mem _ (List.mem_cons_of_mem _ (List.mem_cons_of_mem _ List.mem_cons_self))))), xq_eqF rfl rfl (K_.2.2.1 _ (List.mem_cons_of_mem _ (List.mem_cons_of_mem _ (List.mem_cons_of_mem _ (List.mem_cons_of_mem _ (List.mem_cons_of_mem _ List.mem_cons_self)))))), xq_leT rfl rfl (K_.2.2.1 _ (List.mem_cons_of_mem _ (List.mem_cons_of_mem _ (List.mem_cons_of_mem _ (List.mem_cons_of_mem _ (List.mem_cons_of_mem _ (List.mem_cons_of_mem _ List.mem_cons_self))))))), xq_ltF rfl rfl (K_.2.2.1 _ (List.mem_cons_of_mem _ (List.mem_cons_of_mem _ (List.mem_cons_of_mem _ (List.mem_cons_of_mem _ (List.mem_cons_of_mem _ (List.mem_cons_of_mem _ (List.mem_cons_of_mem _ List.mem_cons_self)))))))), fun a_ j_ => yfr_bp K_.2.2.2 (fun q_ hq => absurd hq List.not_mem_nil), G_⟩))))⟩
  · rcases List.mem_cons.mp hq with e_ | hq
    · subst e_
      exact ⟨h', yfr_sm K_.2.2.2 hs K_.1 (ywa_r mshE_w List.mem_cons_self), Or.inr (Or.inr (Or.inr (Or.inr (Or.inl (⟨xq_ltT rfl rfl (K_.2.2.1 _ List.mem_cons_self), bpat_of (K_.2.1 _ List.mem_cons_self), fun a_ j_ n0_ => yfr_bp K_.2.2.2 (List.forall_mem_cons.mpr ⟨fun e_ => n0_ ⟨e_.1.symm, e_.2.symm⟩, fun q_ hq => absurd hq List.not_mem_nil⟩), G_⟩)))))⟩
    rcases List.mem_cons.mp hq with e_ | hq
    · subst e_
      exact ⟨h', yfr_sm K_.2.2.2 hs K_.1 (ywa_r mshE_w (List.mem_cons_of_mem _ List.mem_cons_self)), Or.inr (Or.inr (Or.inr (Or.inr (Or.inr (Or.inl (⟨xq_leF rfl rfl (K_.2.2.1 _ List.mem_cons_self), xq_ltF rfl rfl (K_.2.2.1 _ (List.mem_cons_of_mem _ List.mem_cons_self)), bpat_of (K_.2.1 _ List.mem_cons_self), fun a_ j_ n0_ => yfr_bp K_.2.2.2 (List.forall_mem_cons.mpr ⟨fun e_ => n0_ ⟨e_.1.symm, e_.2.symm⟩, fun q_ hq => absurd hq List.not_mem_nil⟩), G_⟩))))))⟩
    rcases List.mem_cons.mp hq with e_ | hq
    · subst e_
      exact ⟨h', yfr_sm K_.2.2.2 hs K_.1 (ywa_r mshE_w (List.mem_cons_of_mem _ (List.mem_cons_of_mem _ List.mem_cons_self))), Or.inr (Or.inr (Or.inr (Or.inr (Or.inr (Or.inr (Or.inl (⟨xq_leF rfl rfl (K_.2.2.1 _ List.mem_cons_self), xq_ltF rfl rfl (K_.2.2.1 _ (List.mem_cons_of_mem _ List.mem_cons_self)), xq_eqT rfl rfl (K_.2.2.1 _ (List.mem_cons_of_mem _ (List.mem_cons_of_mem _ List.mem_cons_self))), xq_eqF rfl rfl (K_.2.2.1 _ (List.mem_cons_of_mem _ (List.mem_cons_of_mem _ (List.mem_cons_of_mem _ List.mem_cons_self)))), xq_leT rfl rfl (K_.2.2.1 _ (List.mem_cons_of_mem _ (List.mem_cons_of_mem _ (List.mem_cons_of_mem _ (List.mem_cons_of_mem _ List.mem_cons_self))))), xq_ltF rfl rfl (K_.2.2.1 _ (List.mem_cons_of_mem _ (List.mem_cons_of_mem _ (List.mem_cons_of_mem _ (List.mem_cons_of_mem _ (List.mem_cons_of_mem _ List.mem_cons_self)))))), bpat_of (K_.2.1 _ List.mem_cons_self), fun a_ j_ n0_ => yfr_bp K_.2.2.2 (List.forall_mem_cons.mpr ⟨fun e_ => n0_ ⟨e_.1.symm, e_.2.symm⟩, fun q_ hq => absurd hq List.not_mem_nil⟩), G_⟩)))))))⟩
    rcases List.mem_cons.mp hq with e_ | hq
    · subst e_
      exact ⟨h', yfr_sm K_.2.2.2 hs K_.1 (ywa_r mshE_w (List.mem_cons_of_mem _ (List.mem_cons_of_mem _ (List.mem_cons_of_mem _ List.mem_cons_self)))), Or.inr (Or.inr (Or.inr (Or.inr (Or.inr (Or.inr (Or.inr (Or.inl (⟨xq_ltT rfl rfl (K_.2.2.1 _ List.mem_cons_self), xq_eqT rfl rfl (K_.2.2.1 _ (List.mem_cons_of_mem _ List.mem_cons_self)), xq_eqF rfl rfl (K_.2.2.1 _ (List.mem_cons_of_mem _ (List.mem_cons_of_mem _ List.mem_cons_self))), xq_leT rfl rfl (K_.2.2.1 _ (List.mem_cons_of_mem _ (List.mem_cons_of_mem _ (List.mem_cons_of_mem _ List.mem_cons_self)))), xq_ltF rfl rfl (K_.2.2.1 _ (List.mem_cons_of_mem _ (List.mem_cons_of_mem _ (List.mem_cons_of_mem _ (List.mem_cons_of_mem _ List.mem_cons_self))))), bpat_of (K_.2.1 _ List.mem_cons_self), fun a_ j_ n0_ => yfr_bp K_.2.2.2 (List.forall_mem_cons.mpr ⟨fun e_ => n0_ ⟨e_.1.symm, e_.2.symm⟩, fun q_ hq => absurd hq List.not_mem_nil⟩), G_⟩))))))))⟩
    rcases List.mem_cons.mp hq with e_ | hq
    · subst e_
      exact ⟨h', yfr_sm K_.2.2.2 hs K_.1 (ywa_r mshE_w (List.mem_cons_of_mem _ (List.mem_cons_of_mem _ (List.mem_cons_of_mem _ (List.mem_cons_of_mem _ List.mem_cons_self))))), Or.inr (Or.inr (Or.inr (Or.inr (Or.inr (Or.inr (Or.inr (Or.inr (Or.inl (⟨xq_leF rfl rfl (K_.2.2.1 _ List.mem_cons_self), xq_ltF rfl rfl (K_.2.2.1 _ (List.mem_cons_of_mem _ List.mem_cons_self)), xq_eqT rfl rfl (K_.2.2.1 _ (List.mem_cons_of_mem _ (List.mem_cons_of_mem _ List.mem_cons_self))), xq_eqF rfl rfl (K_.2.2.1 _ (List.mem_cons_of_mem _ (List.mem_cons_of_mem _ (List.mem_cons_of_mem _ List.mem_cons_self)))), xq_eqF rfl rfl (K_.2.2.1 _ (List.mem_cons_of_mem _ (List.mem_cons_of_mem _ (List.mem_cons_of_mem _ (List.mem_cons_of_mem _ List.mem_cons_self))))), xq_leT rfl rfl (K_.2.2.1 _ (List.mem_cons_of_mem _ (List.mem_cons_of_mem _ (List.mem_cons_of_mem _ (List.mem_cons_of_mem _ (List.mem_cons_of_mem _ List.mem_cons_self)))))), xq_ltF rfl rfl (K_.2.2.1 _ (List.mem_cons_of_mem _ (List.mem_cons_of_mem _ (List.mem_cons_of_mem _ (List.mem_cons_of_mem _ (List.mem_cons_of_mem _ (List.mem_cons_of_mem _ List.mem_cons_self))))))), bpat_of (K_.2.1 _ List.mem_cons_self), fun a_ j_ n0_ => yfr_bp K_.2.2.2 (List.forall_mem_cons.mpr ⟨fun e_ => n0_ ⟨e_.1.symm, e_.2.symm⟩, fun q_ hq => absurd hq List.not_mem_nil⟩), G_⟩)))))))))⟩
    rcases List.mem_cons.mp hq with e_ | hq
    · subst e_
      exact ⟨h', yfr_sm K_.2.2.2 hs K_.1 (ywa_r mshE_w (List.mem_cons_of_mem _ (List.mem_cons_of_mem _ (List.mem_cons_of_mem _ (List.mem_cons_of_mem _ (List.mem_cons_of_mem _ List.mem_cons_self)))))), Or.inr (Or.inr (Or.inr (Or.inr (Or.inr (Or.inr (Or.inr (Or.inr (Or.inr (Or.inl (⟨xq_ltT rfl rfl (K_.2.2.1 _ List.mem_cons_self), xq_eqT rfl rfl (K_.2.2.1 _ (List.mem_cons_of_mem _ List.mem_cons_self)), xq_eqF rfl rfl (K_.2.2.1 _ (List.mem_cons_of_mem _ (List.mem_cons_of_mem _ List.mem_cons_self))), xq_eqF rfl rfl (K_.2.2.1 _ (List.mem_cons_of_mem _ (List.mem_cons_of_mem _ (List.mem_cons_of_mem _ List.mem_cons_self)))), xq_leT rfl rfl (K_.2.2.1 _ (List.mem_cons_of_mem _ (List.mem_cons_of_mem _ (List.mem_cons_of_mem _ (List.mem_cons_of_mem _ List.mem_cons_self))))), xq_ltF rfl rfl (K_.2.2.1 _ (List.mem_cons_of_mem _ (List.mem_cons_of_mem _ (List.mem_cons_of_mem _ (List.mem_cons_of_mem _ (List.mem_cons_of_mem _ List.mem_cons_self)))))), bpat_of (K_.2.1 _ List.mem_cons_self), fun a_ j_ n0_ => yfr_bp K_.2.2.2 (List.forall_mem_cons.mpr ⟨fun e_ => n0_ ⟨e_.1.symm, e_.2.symm⟩, fun q_ hq => absurd hq List.not_mem_nil⟩), G_⟩))))))))))⟩
    rcases List.mem_cons.mp hq with e_ | hq
    · subst e_
      exact ⟨h', yfr_sm K_.2.2.2 hs K_.1 (ywa_r mshE_w (List.mem_cons_of_mem _ (List.mem_cons_of_mem _ (List.mem_cons_of_mem _ (List.mem_cons_of_mem _ (List.mem_cons_of_mem _ (List.mem_cons_of_mem _ List.mem_cons_self))))))), Or.inr (Or.inr (Or.inr (Or.inr (Or.inr (Or.inr (Or.inr (Or.inr (Or.inr (Or.inr (Or.inl (⟨xq_leF rfl rfl (K_.2.2.1 _ List.mem_cons_self), xq_ltF rfl rfl (K_.2.2.1 _ (List.mem_cons_of_mem _ List.mem_cons_self)), xq_eqT rfl rfl (K_.2.2.1 _ (List.mem_cons_of_mem _ (List.mem_cons_of_mem _ List.mem_cons_self))), xq_eqF rfl rfl (K_.2.2.1 _ (List.mem_cons_of_mem _ (List.mem_cons_of_mem _ (List.mem_cons_of_mem _ List.mem_cons_self)))), xq_eqF rfl rfl (K_.2.2.1 _ (List.mem_cons_of_mem _ (List.mem_cons_of_mem _ (List.mem_cons_of_mem _ (List.mem_cons_of_mem _ List.mem_cons_self))))), xq_eqF rfl rfl (K_.2.2.1 _ (List.mem_cons_of_mem _ (List.mem_cons_of_mem _ (List.mem_cons_of_mem _ (List.mem_cons_of_mem _ (List.mem_cons_of_mem _ List.mem_cons_self)))))), xq_leT rfl rfl (K_.2.2.1 _ (List.mem_cons_of_mem _ (List.mem_cons_of_mem _ (List.mem_cons_of_mem _ (List.mem_cons_of_mem _ (List.mem_cons_of_mem _ (List.mem_cons_of_mem _ List.mem_cons_self))))))), xq_ltF rfl rfl (K_.2.2.1 _ (List.mem_cons_of_mem _ (List.mem_cons_of_mem _ (List.mem_cons_of_mem _ (List.mem_cons_of_mem _ (List.mem_cons_of_mem _ (List.mem_cons_of_mem _ (List.mem_cons_of_mem _ List.mem_cons_self)))))))), bpat_of (K_.2.1 _ List.mem_cons_self), fun a_ j_ n0_ => yfr_bp K_.2.2.2 (List.forall_mem_cons.mpr ⟨fun e_ => n0_ ⟨e_.1.symm, e_.2.symm⟩, fun q_ hq => absurd hq List.not_mem_nil⟩), G_⟩)))))))))))⟩
    rcases List.mem_cons.mp hq with e_ | hq
    · subst e_
      exact ⟨h', yfr_sm K_.2.2.2 hs K_.1 (ywa_r mshE_w (List.mem_cons_of_mem _ (List.mem_cons_of_mem _ (List.mem_cons_of_mem _ (List.mem_cons_of_mem _ (List.mem_cons_of_mem _ (List.mem_cons_of_mem _ (List.mem_cons_of_mem _ List.mem_cons_self)))))))), Or.inr (Or.inr (Or.inr (Or.inr (Or.inr (Or.inr (Or.inr (Or.inr (Or.inr (Or.inr (Or.inr (Or.inl (⟨xq_ltT rfl rfl (K_.2.2.1 _ List.mem_cons_self), xq_eqT rfl rfl (K_.2.2.1 _ (List.mem_cons_of_mem _ List.mem_cons_self)), xq_eqF rfl rfl (K_.2.2.1 _ (List.mem_cons_of_mem _ (List.mem_cons_of_mem _ List.mem_cons_self))), xq_eqF rfl rfl (K_.2.2.1 _ (List.mem_cons_of_mem _ (List.mem_cons_of_mem _ (List.mem_cons_of_mem _ List.mem_cons_self)))), xq_eqF rfl rfl (K_.2.2.1 _ (List.mem_cons_of_mem _ (List.mem_cons_of_mem _ (List.mem_cons_of_mem _ (List.mem_cons_of_mem _ List.mem_cons_self))))), xq_leT rfl rfl (K_.2.2.1 _ (List.mem_cons_of_mem _ (List.mem_cons_of_mem _ (List.mem_cons_of_mem _ (List.mem_cons_of_mem _ (List.mem_cons_of_mem _ List.mem_cons_self)))))), xq_ltF rfl rfl (K_.2.2.1 _ (List.mem_cons_of_mem _ (List.mem_cons_of_mem _ (List.mem_cons_of_mem _ (List.mem_cons_of_mem _ (List.mem_cons_of_mem _ (List.mem_cons_of_mem _ List.mem_cons_self))))))), bpat_of (K_.2.1 _ List.mem_cons_self), fun a_ j_ n0_ => yfr_bp K_.2.2.2 (List.forall_mem_cons.mpr ⟨fun e_ => n0_ ⟨e_.1.symm, e_.2.symm⟩, fun q_ hq => absurd hq List.not_mem_nil⟩), G_⟩))))))))))))⟩
    have e_ := List.mem_singleton.mp hq
    subst e_
    exact ⟨h', yfr_sm K_.2.2.2 hs K_.1 (ywa_r mshE_w (List.mem_cons_of_mem _ (List.mem_cons_of_mem _ (List.mem_cons_of_mem _ (List.mem_cons_of_mem _ (List.mem_cons_of_mem _ (List.mem_cons_of_mem _ (List.mem_cons_of_mem _ (List.mem_cons_of_mem _ List.mem_cons_self))))))))), Or.inr (Or.inr (Or.inr (Or.inr (Or.inr (Or.inr (Or.inr (Or.inr (Or.inr (Or.inr (Or.inr (Or.inr (⟨xq_eqF rfl rfl (K_.2.2.1 _ List.mem_cons_self), xq_eqF rfl rfl (K_.2.2.1 _ (List.mem_cons_of_mem _ List.mem_cons_self)), xq_eqF rfl rfl (K_.2.2.1 _ (List.mem_cons_of_mem _ (List.mem_cons_of_mem _ List.mem_cons_self))), xq_eqF rfl rfl (K_.2.2.1 _ (List.mem_cons_of_mem _ (List.mem_cons_of_mem _ (List.mem_cons_of_mem _ List.mem_cons_self)))), xq_leT rfl rfl (K_.2.2.1 _ (List.mem_cons_of_mem _ (List.mem_cons_of_mem _ (List.mem_cons_of_mem _ (List.mem_cons_of_mem _ List.mem_cons_self))))), xq_ltF rfl rfl (K_.2.2.1 _ (List.mem_cons_of_mem _ (List.mem_cons_of_mem _ (List.mem_cons_of_mem _ (List.mem_cons_of_mem _ (List.mem_cons_of_mem _ List.mem_cons_self)))))), bpat_of (K_.2.1 _ List.mem_cons_self), fun a_ j_ n0_ => yfr_bp K_.2.2.2 (List.forall_mem_cons.mpr ⟨fun e_ => n0_ ⟨e_.1.symm, e_.2.symm⟩, fun q_ hq => absurd hq List.not_mem_nil⟩), G_⟩))))))))))))⟩
-- mshO: 14 steps, 1 ends, 0 returns
def mshO_L : List (Nat × Nat × Nat) := []
def mshO_O : yO := [(338, .int 22, .index 350), (338, .int 23, .index 351)]
def mshO_A : yA := (yZ mshO_L, [(.arg 1, 4)], [], [], [])
def mshO_C : List xB := [(.eq, .arg 2, .int 0, false)]
def mshO_ss : List yS := [(90, [(4, .int 0), (0, .index 338), (1, .arg 1), (2, .arg 2), (3, .arg 3)], [], [(351, .arg 1, .arg 3), (350, .arg 1, .arg 2), (338, .int 22, .index 350), (338, .int 23, .index 351)], [(.eq, .arg 2, .int 0, false)], [(351, .arg 1), (350, .arg 1)])]
def mshO_rs : List yR := []
theorem mshO_w : ywa mshO_A mshO_ss mshO_rs = true := by decide +kernel
theorem mshO_k : yis (yev mshO_A 3000 60 228 [90] (65, [(0, .index 338), (1, .arg 1), (2, .arg 2), (3, .arg 3)], [], mshO_O, mshO_C, [])) mshO_ss mshO_rs = true := by decide +kernel
def mshO_r (v1_ v2 v3 : Int32) (k_ : Nat) : Value := bif Nat.beq k_ 1 then .int v1_ else (bif Nat.beq k_ 2 then .int v2 else (bif Nat.beq k_ 3 then .int v3 else (.int 0)))
def mshO_s (n_ : Nat) : Nat := 0
theorem mshO {h_ : xH} {v1_ v2 v3 : Int32} (hs : sHp h_) (b0 : 0 ≤ (v1_).toInt ∧ (v1_).toInt < 4) (c0_ : ¬ v2 = (0 : Int32)) : ∃ h', ysm h_ h' ∧ (((bpat h' 351 (v1_).toInt.toNat = some (.int v3)) ∧ (bpat h' 350 (v1_).toInt.toNat = some (.int v2)) ∧ (∀ a_ j_ : Nat, ¬ (a_ = 351 ∧ j_ = (v1_).toInt.toNat) → ¬ (a_ = 350 ∧ j_ = (v1_).toInt.toNat) → bpat h' a_ j_ = bpat h_ a_ j_) ∧ (bldD 60 228 65 [(0, .index 338), (1, .int v1_), (2, .int v2), (3, .int v3)] [] h_ 90 [(4, .int (0 : Int32)), (0, .index 338), (1, .int v1_), (2, .int v2), (3, .int v3)] [] h'))) := by
  have hA : yas mshO_A (mshO_r v1_ v2 v3) (yg mshO_s) := ⟨List.forall_mem_cons.mpr ⟨b0, fun q_ hq => absurd hq List.not_mem_nil⟩, fun q_ hq => absurd hq List.not_mem_nil, fun q_ hq => absurd hq List.not_mem_nil, fun n_ hn => yg_lo hn, fun q_ hq => absurd hq List.not_mem_nil⟩
  have Hs : ysh mshO_A.1 (yg mshO_s) h_ := ysh_of2 hs (fun q_ hq => absurd hq List.not_mem_nil)
  have Ho : ymem (mshO_r v1_ v2 v3) (yg mshO_s) mshO_O h_ := List.forall_mem_cons.mpr ⟨bpat_some (fxr_at hs.2 (show fxk fxl 338 22 = some 350 by decide +kernel)), List.forall_mem_cons.mpr ⟨bpat_some (fxr_at hs.2 (show fxk fxl 338 23 = some 351 by decide +kernel)), fun q_ hq => absurd hq List.not_mem_nil⟩⟩
  have HC : ∀ q_ ∈ mshO_C, xhold (mshO_r v1_ v2 v3) q_ := List.forall_mem_cons.mpr ⟨xh_eqF2 c0_, fun q_ hq => absurd hq List.not_mem_nil⟩
  rcases yrun (yis_ok mshO_k) hA Hs Ho HC with ⟨q_, hq, h', K_, G_⟩ | ⟨q_, hq, h', K_, G_⟩
  · have e_ := List.mem_singleton.mp hq
    subst e_
    exact ⟨h', yfr_sm K_.2.2.2 hs K_.1 (ywa_s mshO_w List.mem_cons_self), ⟨bpat_of (K_.2.1 _ List.mem_cons_self), bpat_of (K_.2.1 _ (List.mem_cons_of_mem _ List.mem_cons_self)), fun a_ j_ n0_ n1_ => yfr_bp K_.2.2.2 (List.forall_mem_cons.mpr ⟨fun e_ => n0_ ⟨e_.1.symm, e_.2.symm⟩, List.forall_mem_cons.mpr ⟨fun e_ => n1_ ⟨e_.1.symm, e_.2.symm⟩, fun q_ hq => absurd hq List.not_mem_nil⟩⟩), G_⟩⟩
  · cases hq
-- mshZ: 15 steps, 1 ends, 0 returns
def mshZ_L : List (Nat × Nat × Nat) := []
def mshZ_O : yO := [(338, .int 22, .index 350), (338, .int 23, .index 351)]
def mshZ_A : yA := (yZ mshZ_L, [(.arg 1, 4)], [], [], [])
def mshZ_C : List xB := [(.eq, .arg 2, .int 0, true)]
def mshZ_ss : List yS := [(90, [(4, .int 0), (0, .index 338), (1, .arg 1), (2, .arg 2), (3, .arg 3)], [], [(351, .arg 1, .int 0), (350, .arg 1, .arg 2), (338, .int 22, .index 350), (338, .int 23, .index 351)], [(.eq, .arg 2, .int 0, true)], [(351, .arg 1), (350, .arg 1)])]
def mshZ_rs : List yR := []
theorem mshZ_w : ywa mshZ_A mshZ_ss mshZ_rs = true := by decide +kernel
theorem mshZ_k : yis (yev mshZ_A 3000 60 228 [90] (65, [(0, .index 338), (1, .arg 1), (2, .arg 2), (3, .arg 3)], [], mshZ_O, mshZ_C, [])) mshZ_ss mshZ_rs = true := by decide +kernel
def mshZ_r (v1_ v2 v3 : Int32) (k_ : Nat) : Value := bif Nat.beq k_ 1 then .int v1_ else (bif Nat.beq k_ 2 then .int v2 else (bif Nat.beq k_ 3 then .int v3 else (.int 0)))
def mshZ_s (n_ : Nat) : Nat := 0
theorem mshZ {h_ : xH} {v1_ v2 v3 : Int32} (hs : sHp h_) (b0 : 0 ≤ (v1_).toInt ∧ (v1_).toInt < 4) (c0_ : v2 = (0 : Int32)) : ∃ h', ysm h_ h' ∧ (((bpat h' 351 (v1_).toInt.toNat = some (.int (0 : Int32))) ∧ (bpat h' 350 (v1_).toInt.toNat = some (.int v2)) ∧ (∀ a_ j_ : Nat, ¬ (a_ = 351 ∧ j_ = (v1_).toInt.toNat) → ¬ (a_ = 350 ∧ j_ = (v1_).toInt.toNat) → bpat h' a_ j_ = bpat h_ a_ j_) ∧ (bldD 60 228 65 [(0, .index 338), (1, .int v1_), (2, .int v2), (3, .int v3)] [] h_ 90 [(4, .int (0 : Int32)), (0, .index 338), (1, .int v1_), (2, .int v2), (3, .int v3)] [] h'))) := by
  have hA : yas mshZ_A (mshZ_r v1_ v2 v3) (yg mshZ_s) := ⟨List.forall_mem_cons.mpr ⟨b0, fun q_ hq => absurd hq List.not_mem_nil⟩, fun q_ hq => absurd hq List.not_mem_nil, fun q_ hq => absurd hq List.not_mem_nil, fun n_ hn => yg_lo hn, fun q_ hq => absurd hq List.not_mem_nil⟩
  have Hs : ysh mshZ_A.1 (yg mshZ_s) h_ := ysh_of2 hs (fun q_ hq => absurd hq List.not_mem_nil)
  have Ho : ymem (mshZ_r v1_ v2 v3) (yg mshZ_s) mshZ_O h_ := List.forall_mem_cons.mpr ⟨bpat_some (fxr_at hs.2 (show fxk fxl 338 22 = some 350 by decide +kernel)), List.forall_mem_cons.mpr ⟨bpat_some (fxr_at hs.2 (show fxk fxl 338 23 = some 351 by decide +kernel)), fun q_ hq => absurd hq List.not_mem_nil⟩⟩
  have HC : ∀ q_ ∈ mshZ_C, xhold (mshZ_r v1_ v2 v3) q_ := List.forall_mem_cons.mpr ⟨xh_eqT2 c0_, fun q_ hq => absurd hq List.not_mem_nil⟩
  rcases yrun (yis_ok mshZ_k) hA Hs Ho HC with ⟨q_, hq, h', K_, G_⟩ | ⟨q_, hq, h', K_, G_⟩
  · have e_ := List.mem_singleton.mp hq
    subst e_
    exact ⟨h', yfr_sm K_.2.2.2 hs K_.1 (ywa_s mshZ_w List.mem_cons_self), ⟨bpat_of (K_.2.1 _ List.mem_cons_self), bpat_of (K_.2.1 _ (List.mem_cons_of_mem _ List.mem_cons_self)), fun a_ j_ n0_ n1_ => yfr_bp K_.2.2.2 (List.forall_mem_cons.mpr ⟨fun e_ => n0_ ⟨e_.1.symm, e_.2.symm⟩, List.forall_mem_cons.mpr ⟨fun e_ => n1_ ⟨e_.1.symm, e_.2.symm⟩, fun q_ hq => absurd hq List.not_mem_nil⟩⟩), G_⟩⟩
  · cases hq
-- mshT: 14 steps, 1 ends, 0 returns
def mshT_L : List (Nat × Nat × Nat) := []
def mshT_O : yO := [(338, .int 24, .index 352)]
def mshT_A : yA := (yZ mshT_L, [(.add (.mul (.int 24) (.arg 1)) (.arg 4), 96)], [], [], [])
def mshT_C : List xB := [(.lt, .arg 4, .int 24, true)]
def mshT_ss : List yS := [(90, [(4, .add (.arg 4) (.int 1)), (0, .index 338), (1, .arg 1), (2, .arg 2), (3, .arg 3)], [], [(352, .add (.mul (.int 24) (.arg 1)) (.arg 4), .int 0), (338, .int 24, .index 352)], [(.lt, .arg 4, .int 24, true)], [(352, .add (.mul (.int 24) (.arg 1)) (.arg 4))])]
def mshT_rs : List yR := []
theorem mshT_w : ywa mshT_A mshT_ss mshT_rs = true := by decide +kernel
theorem mshT_k : yis (yev mshT_A 3000 60 228 [90] (90, [(4, .arg 4), (0, .index 338), (1, .arg 1), (2, .arg 2), (3, .arg 3)], [], mshT_O, mshT_C, [])) mshT_ss mshT_rs = true := by decide +kernel
def mshT_r (v1_ v2 v3 v4_ : Int32) (k_ : Nat) : Value := bif Nat.beq k_ 1 then .int v1_ else (bif Nat.beq k_ 2 then .int v2 else (bif Nat.beq k_ 3 then .int v3 else (bif Nat.beq k_ 4 then .int v4_ else (.int 0))))
def mshT_s (n_ : Nat) : Nat := 0
theorem mshT {h_ : xH} {v1_ v2 v3 v4_ : Int32} (hs : sHp h_) (b0 : 0 ≤ ((((24 : Int32) * v1_) + v4_)).toInt ∧ ((((24 : Int32) * v1_) + v4_)).toInt < 96) (c0_ : v4_.toInt < (24 : Int32).toInt) : ∃ h', ysm h_ h' ∧ (((bpat h' 352 ((((24 : Int32) * v1_) + v4_)).toInt.toNat = some (.int (0 : Int32))) ∧ (∀ a_ j_ : Nat, ¬ (a_ = 352 ∧ j_ = ((((24 : Int32) * v1_) + v4_)).toInt.toNat) → bpat h' a_ j_ = bpat h_ a_ j_) ∧ (bldD 60 228 90 [(4, .int v4_), (0, .index 338), (1, .int v1_), (2, .int v2), (3, .int v3)] [] h_ 90 [(4, .int (v4_ + (1 : Int32))), (0, .index 338), (1, .int v1_), (2, .int v2), (3, .int v3)] [] h'))) := by
  have hA : yas mshT_A (mshT_r v1_ v2 v3 v4_) (yg mshT_s) := ⟨List.forall_mem_cons.mpr ⟨b0, fun q_ hq => absurd hq List.not_mem_nil⟩, fun q_ hq => absurd hq List.not_mem_nil, fun q_ hq => absurd hq List.not_mem_nil, fun n_ hn => yg_lo hn, fun q_ hq => absurd hq List.not_mem_nil⟩
  have Hs : ysh mshT_A.1 (yg mshT_s) h_ := ysh_of2 hs (fun q_ hq => absurd hq List.not_mem_nil)
  have Ho : ymem (mshT_r v1_ v2 v3 v4_) (yg mshT_s) mshT_O h_ := List.forall_mem_cons.mpr ⟨bpat_some (fxr_at hs.2 (show fxk fxl 338 24 = some 352 by decide +kernel)), fun q_ hq => absurd hq List.not_mem_nil⟩
  have HC : ∀ q_ ∈ mshT_C, xhold (mshT_r v1_ v2 v3 v4_) q_ := List.forall_mem_cons.mpr ⟨xh_ltT c0_, fun q_ hq => absurd hq List.not_mem_nil⟩
  rcases yrun (yis_ok mshT_k) hA Hs Ho HC with ⟨q_, hq, h', K_, G_⟩ | ⟨q_, hq, h', K_, G_⟩
  · have e_ := List.mem_singleton.mp hq
    subst e_
    exact ⟨h', yfr_sm K_.2.2.2 hs K_.1 (ywa_s mshT_w List.mem_cons_self), ⟨bpat_of (K_.2.1 _ List.mem_cons_self), fun a_ j_ n0_ => yfr_bp K_.2.2.2 (List.forall_mem_cons.mpr ⟨fun e_ => n0_ ⟨e_.1.symm, e_.2.symm⟩, fun q_ hq => absurd hq List.not_mem_nil⟩), G_⟩⟩
  · cases hq
-- mshX: 5 steps, 0 ends, 1 returns
def mshX_L : List (Nat × Nat × Nat) := []
def mshX_O : yO := []
def mshX_A : yA := (yZ mshX_L, [], [], [], [])
def mshX_C : List xB := [(.lt, .arg 4, .int 24, false)]
def mshX_ss : List yS := []
def mshX_rs : List yR := [(some (.int 1), [], [(.lt, .arg 4, .int 24, false)], [])]
theorem mshX_w : ywa mshX_A mshX_ss mshX_rs = true := by decide +kernel
theorem mshX_k : yis (yev mshX_A 3000 60 228 [] (90, [(4, .arg 4), (0, .index 338), (1, .arg 1), (2, .arg 2), (3, .arg 3)], [], mshX_O, mshX_C, [])) mshX_ss mshX_rs = true := by decide +kernel
def mshX_r (v1_ v2 v3 v4_ : Int32) (k_ : Nat) : Value := bif Nat.beq k_ 1 then .int v1_ else (bif Nat.beq k_ 2 then .int v2 else (bif Nat.beq k_ 3 then .int v3 else (bif Nat.beq k_ 4 then .int v4_ else (.int 0))))
def mshX_s (n_ : Nat) : Nat := 0
theorem mshX {h_ : xH} {v1_ v2 v3 v4_ : Int32} (hs : sHp h_) (c0_ : (24 : Int32).toInt ≤ v4_.toInt) : ∃ h', ysm h_ h' ∧ (((∀ a_ j_ : Nat, bpat h' a_ j_ = bpat h_ a_ j_) ∧ (∀ D_, 60 ≤ D_ → xrun D_ 228 90 [(4, .int v4_), (0, .index 338), (1, .int v1_), (2, .int v2), (3, .int v3)] [] h_ (some (.int (1 : Int32)), h', [])))) := by
  have hA : yas mshX_A (mshX_r v1_ v2 v3 v4_) (yg mshX_s) := ⟨fun q_ hq => absurd hq List.not_mem_nil, fun q_ hq => absurd hq List.not_mem_nil, fun q_ hq => absurd hq List.not_mem_nil, fun n_ hn => yg_lo hn, fun q_ hq => absurd hq List.not_mem_nil⟩
  have Hs : ysh mshX_A.1 (yg mshX_s) h_ := ysh_of2 hs (fun q_ hq => absurd hq List.not_mem_nil)
  have Ho : ymem (mshX_r v1_ v2 v3 v4_) (yg mshX_s) mshX_O h_ := fun q_ hq => absurd hq List.not_mem_nil
  have HC : ∀ q_ ∈ mshX_C, xhold (mshX_r v1_ v2 v3 v4_) q_ := List.forall_mem_cons.mpr ⟨xh_ltF c0_, fun q_ hq => absurd hq List.not_mem_nil⟩
  rcases yrun (yis_ok mshX_k) hA Hs Ho HC with ⟨q_, hq, h', K_, G_⟩ | ⟨q_, hq, h', K_, G_⟩
  · cases hq
  · have e_ := List.mem_singleton.mp hq
    subst e_
    exact ⟨h', yfr_sm K_.2.2.2 hs K_.1 (ywa_r mshX_w List.mem_cons_self), ⟨fun a_ j_ => yfr_bp K_.2.2.2 (fun q_ hq => absurd hq List.not_mem_nil), G_⟩⟩
def sheetF (W_ : Nat → List Int32) (V : Nat → Int32) (z_ b_ n_ : Int32) : (Nat → List Int32) × (Nat → Int32) × Int32 := if (0 ≤ z_.toInt ∧ z_.toInt < 4) ∧ (b_.toInt = 0 ∨ (b_.toInt = 8 ∨ (b_.toInt = 16 ∨ b_.toInt = 32))) then (if ¬ b_.toInt = 0 ∧ n_.toInt < 0 then (W_, V, Int32.ofInt (-1000003)) else if ¬ b_.toInt = 0 ∧ 24 < n_.toInt then (W_, V, Int32.ofInt (-1000001)) else (upR W_ (40 + z_.toInt.toNat) (List.replicate 24 0), upI (upI V (210 + 2 * z_.toInt.toNat) b_) (211 + 2 * z_.toInt.toNat) (if b_.toInt = 0 then 0 else n_), 1)) else (W_, V, Int32.ofInt (-1000001))
theorem rep_z {n_ j_ : Nat} {y_ : Int32} (h_ : (List.replicate n_ (0 : Int32))[j_]? = some y_) : j_ < n_ ∧ y_ = 0 := by
  have lj := (List.getElem?_eq_some_iff.mp h_).1
  rw [List.length_replicate] at lj
  rw [List.getElem?_replicate, if_pos lj] at h_
  exact ⟨lj, (Option.some.inj h_).symm⟩
theorem x_sheet {W_ : Nat → List Int32} {V : Nat → Int32} {h_ : xH} {z_ b_ n_ : Int32} (B_ : bInv bZ bIj h_) (K_ : okS W_ V) (H_ : SX W_ V h_) : ∃ h', ysm h_ h' ∧ (SX (sheetF W_ V z_ b_ n_).1 (sheetF W_ V z_ b_ n_).2.1 h' ∧ ∀ D_, 60 ≤ D_ → xrun D_ 108 0 [(0, .index 0), (1, .int z_), (2, .int b_), (3, .int n_)] [] h_ (some (.int (sheetF W_ V z_ b_ n_).2.2), h', [])) := by
  obtain ⟨y_, oy⟩ := xerr (k_ := 1) B_ (by omega)
  obtain ⟨y3, oy3⟩ := xerr (k_ := 3) B_ (by omega)
  have zz := z0_
  have z4 := i4_
  have z8 := i8_
  have z16 := i16_
  have z32 := i32_
  have z24 := i24_
  have z3 := i3_
  unfold sheetF
  obtain ⟨h0, m0_, e_⟩ := xshE (v1_ := z_) (v2 := b_) (v3 := n_) H_.1 oy oy3
  have FIN : (∀ c_ j_, bpat h0 c_ j_ = bpat h_ c_ j_) → bldD 60 108 0 [(0, .index 0), (1, .int z_), (2, .int b_), (3, .int n_)] [] h_ 65 [(0, .index 0), (1, .int z_), (2, .int b_), (3, .int n_)] [] h0 → (0 ≤ z_.toInt ∧ z_.toInt < 4) → (b_.toInt = 0 ∨ (b_.toInt = 8 ∨ (b_.toInt = 16 ∨ b_.toInt = 32))) → ¬ (¬ b_.toInt = 0 ∧ n_.toInt < 0) → ¬ (¬ b_.toInt = 0 ∧ 24 < n_.toInt) → ∃ h', ysm h_ h' ∧ (SX (sheetF W_ V z_ b_ n_).1 (sheetF W_ V z_ b_ n_).2.1 h' ∧ ∀ D_, 60 ≤ D_ → xrun D_ 108 0 [(0, .index 0), (1, .int z_), (2, .int b_), (3, .int n_)] [] h_ (some (.int (sheetF W_ V z_ b_ n_).2.2), h', [])) := by
    intro f_ r_ c1_ c2_ c3_ c4_
    have H0 := SX_fr H_ m0_ (fun c_ j_ _ => f_ c_ j_)
    unfold sheetF
    rw [if_pos ⟨c1_, c2_⟩, if_neg c3_, if_neg c4_]
    obtain ⟨k_, hk, rfl, ek⟩ := isS_n c1_
    obtain ⟨⟨s1_, s2_⟩, s3_, s4_⟩ := sh_s H0.1 hk
    rw [ek]
    by_cases g_ : b_.toInt = 0
    · rw [if_pos g_]
      obtain ⟨h1, m1_, e23_, e22_, e21_, e20, e19_, e18_, e17_, e16_, e15_, e14_, e13_, e12_, e11_, e10_, e9_, e8, e7_, e6_, e5_, e4_, e3_, e2_, e1_, e0_, es, eb, f1_, r1_⟩ := xshZ (v1_ := Int32.ofNat k_) (v2 := b_) (v3 := n_) H0.1 s3_ s4_ (by rw [ek]; exact s1_) s2_ ⟨by omega, by omega⟩ (Int32.toInt_inj.mp (by omega))
      refine ⟨h1, ysm_tr m0_ m1_, SX_sh hk H0 m1_ eb es (fun j_ y_ hy => ?_) (fun c2_ j_ _ n1_ n2_ => f1_ c2_ j_ (fun q_ => n2_ q_.1) (fun q_ => n2_ q_.1) (fun q_ => n2_ q_.1) (fun q_ => n2_ q_.1) (fun q_ => n2_ q_.1) (fun q_ => n2_ q_.1) (fun q_ => n2_ q_.1) (fun q_ => n2_ q_.1) (fun q_ => n2_ q_.1) (fun q_ => n2_ q_.1) (fun q_ => n2_ q_.1) (fun q_ => n2_ q_.1) (fun q_ => n2_ q_.1) (fun q_ => n2_ q_.1) (fun q_ => n2_ q_.1) (fun q_ => n2_ q_.1) (fun q_ => n2_ q_.1) (fun q_ => n2_ q_.1) (fun q_ => n2_ q_.1) (fun q_ => n2_ q_.1) (fun q_ => n2_ q_.1) (fun q_ => n2_ q_.1) (fun q_ => n2_ q_.1) (fun q_ => n2_ q_.1) (fun q_ => n1_ q_.1) (fun q_ => n1_ q_.1)), fun D_ hD => r_ D_ hD _ (r1_ D_ hD)⟩
      obtain ⟨hj, rfl⟩ := rep_z hy
      match j_, hj with
      | 0, _ => exact e0_
      | 1, _ => exact e1_
      | 2, _ => exact e2_
      | 3, _ => exact e3_
      | 4, _ => exact e4_
      | 5, _ => exact e5_
      | 6, _ => exact e6_
      | 7, _ => exact e7_
      | 8, _ => exact e8
      | 9, _ => exact e9_
      | 10, _ => exact e10_
      | 11, _ => exact e11_
      | 12, _ => exact e12_
      | 13, _ => exact e13_
      | 14, _ => exact e14_
      | 15, _ => exact e15_
      | 16, _ => exact e16_
      | 17, _ => exact e17_
      | 18, _ => exact e18_
      | 19, _ => exact e19_
      | 20, _ => exact e20
      | 21, _ => exact e21_
      | 22, _ => exact e22_
      | 23, _ => exact e23_
      | j_ + 24, hj => exact absurd hj (by omega)
    · rw [if_neg g_]
      obtain ⟨h1, m1_, e23_, e22_, e21_, e20, e19_, e18_, e17_, e16_, e15_, e14_, e13_, e12_, e11_, e10_, e9_, e8, e7_, e6_, e5_, e4_, e3_, e2_, e1_, e0_, es, eb, f1_, r1_⟩ := xshO (v1_ := Int32.ofNat k_) (v2 := b_) (v3 := n_) H0.1 s3_ s4_ (by rw [ek]; exact s1_) s2_ ⟨by omega, by omega⟩ (fun q_ => by have q2_ := congrArg Int32.toInt q_; omega)
      refine ⟨h1, ysm_tr m0_ m1_, SX_sh hk H0 m1_ eb es (fun j_ y_ hy => ?_) (fun c2_ j_ _ n1_ n2_ => f1_ c2_ j_ (fun q_ => n2_ q_.1) (fun q_ => n2_ q_.1) (fun q_ => n2_ q_.1) (fun q_ => n2_ q_.1) (fun q_ => n2_ q_.1) (fun q_ => n2_ q_.1) (fun q_ => n2_ q_.1) (fun q_ => n2_ q_.1) (fun q_ => n2_ q_.1) (fun q_ => n2_ q_.1) (fun q_ => n2_ q_.1) (fun q_ => n2_ q_.1) (fun q_ => n2_ q_.1) (fun q_ => n2_ q_.1) (fun q_ => n2_ q_.1) (fun q_ => n2_ q_.1) (fun q_ => n2_ q_.1) (fun q_ => n2_ q_.1) (fun q_ => n2_ q_.1) (fun q_ => n2_ q_.1) (fun q_ => n2_ q_.1) (fun q_ => n2_ q_.1) (fun q_ => n2_ q_.1) (fun q_ => n2_ q_.1) (fun q_ => n1_ q_.1) (fun q_ => n1_ q_.1)), fun D_ hD => r_ D_ hD _ (r1_ D_ hD)⟩
      obtain ⟨hj, rfl⟩ := rep_z hy
      match j_, hj with
      | 0, _ => exact e0_
      | 1, _ => exact e1_
      | 2, _ => exact e2_
      | 3, _ => exact e3_
      | 4, _ => exact e4_
      | 5, _ => exact e5_
      | 6, _ => exact e6_
      | 7, _ => exact e7_
      | 8, _ => exact e8
      | 9, _ => exact e9_
      | 10, _ => exact e10_
      | 11, _ => exact e11_
      | 12, _ => exact e12_
      | 13, _ => exact e13_
      | 14, _ => exact e14_
      | 15, _ => exact e15_
      | 16, _ => exact e16_
      | 17, _ => exact e17_
      | 18, _ => exact e18_
      | 19, _ => exact e19_
      | 20, _ => exact e20
      | 21, _ => exact e21_
      | 22, _ => exact e22_
      | 23, _ => exact e23_
      | j_ + 24, hj => exact absurd hj (by omega)
  unfold sheetF at FIN
  rcases e_ with ⟨g1, g2, g3_, f_, r_⟩ | ⟨g1, g2, g3_, g4, g5_, g6, f_, r_⟩ | ⟨g1, g2, g3_, g4, g5_, g6, g7, f_, r_⟩ | ⟨g1, g2, g3_, g4, g5_, g6, g7, g8, f_, r_⟩ | ⟨g1, w0_, f_, r_⟩ | ⟨g1, g2, w0_, f_, r_⟩ | ⟨g1, g2, g3_, g4, g5_, g6, w0_, f_, r_⟩ | ⟨g1, g2, g3_, g4, g5_, w0_, f_, r_⟩ | ⟨g1, g2, g3_, g4, g5_, g6, g7, w0_, f_, r_⟩ | ⟨g1, g2, g3_, g4, g5_, g6, w0_, f_, r_⟩ | ⟨g1, g2, g3_, g4, g5_, g6, g7, g8, w0_, f_, r_⟩ | ⟨g1, g2, g3_, g4, g5_, g6, g7, w0_, f_, r_⟩ | ⟨g1, g2, g3_, g4, g5_, g6, w0_, f_, r_⟩
  · have q1_ := congrArg Int32.toInt g1
    exact FIN f_ r_ (by omega) (by omega) (by omega) (by omega)
  · have q3_ := congrArg Int32.toInt g3_
    have q4_ := i32e g4
    exact FIN f_ r_ (by omega) (by omega) (by omega) (by omega)
  · have q3_ := congrArg Int32.toInt g3_
    have q4_ := i32e g4
    have q5_ := i32e g5_
    exact FIN f_ r_ (by omega) (by omega) (by omega) (by omega)
  · have q3_ := congrArg Int32.toInt g3_
    have q4_ := i32e g4
    have q5_ := i32e g5_
    have q6_ := i32e g6
    exact FIN f_ r_ (by omega) (by omega) (by omega) (by omega)
  · by_cases g_ : (0 ≤ z_.toInt ∧ z_.toInt < 4) ∧ (b_.toInt = 0 ∨ (b_.toInt = 8 ∨ (b_.toInt = 16 ∨ b_.toInt = 32)))
    · rw [if_pos g_, if_neg (by omega), if_pos (by omega)]
      exact ⟨h0, m0_, SX_e H_ m0_ f_, r_⟩
    · rw [if_neg g_]
      exact ⟨h0, m0_, SX_e H_ m0_ f_, r_⟩
  · by_cases g_ : (0 ≤ z_.toInt ∧ z_.toInt < 4) ∧ (b_.toInt = 0 ∨ (b_.toInt = 8 ∨ (b_.toInt = 16 ∨ b_.toInt = 32)))
    · rw [if_pos g_, if_neg (by omega), if_pos (by omega)]
      exact ⟨h0, m0_, SX_e H_ m0_ f_, r_⟩
    · rw [if_neg g_]
      exact ⟨h0, m0_, SX_e H_ m0_ f_, r_⟩
  · have q3_ := congrArg Int32.toInt g3_
    have q4_ := i32e g4
    by_cases g_ : (0 ≤ z_.toInt ∧ z_.toInt < 4) ∧ (b_.toInt = 0 ∨ (b_.toInt = 8 ∨ (b_.toInt = 16 ∨ b_.toInt = 32)))
    · rw [if_pos g_, if_neg (by omega), if_pos (by omega)]
      exact ⟨h0, m0_, SX_e H_ m0_ f_, r_⟩
    · rw [if_neg g_]
      exact ⟨h0, m0_, SX_e H_ m0_ f_, r_⟩
  · have q2_ := congrArg Int32.toInt g2
    have q3_ := i32e g3_
    rw [if_pos (by omega), if_pos (by omega)]
    exact ⟨h0, m0_, SX_e H_ m0_ f_, r_⟩
  · have q3_ := congrArg Int32.toInt g3_
    have q4_ := i32e g4
    have q5_ := i32e g5_
    by_cases g_ : (0 ≤ z_.toInt ∧ z_.toInt < 4) ∧ (b_.toInt = 0 ∨ (b_.toInt = 8 ∨ (b_.toInt = 16 ∨ b_.toInt = 32)))
    · rw [if_pos g_, if_neg (by omega), if_pos (by omega)]
      exact ⟨h0, m0_, SX_e H_ m0_ f_, r_⟩
    · rw [if_neg g_]
      exact ⟨h0, m0_, SX_e H_ m0_ f_, r_⟩
  · have q2_ := congrArg Int32.toInt g2
    have q3_ := i32e g3_
    have q4_ := i32e g4
    rw [if_pos (by omega), if_pos (by omega)]
    exact ⟨h0, m0_, SX_e H_ m0_ f_, r_⟩
  · have q3_ := congrArg Int32.toInt g3_
    have q4_ := i32e g4
    have q5_ := i32e g5_
    have q6_ := i32e g6
    by_cases g_ : (0 ≤ z_.toInt ∧ z_.toInt < 4) ∧ (b_.toInt = 0 ∨ (b_.toInt = 8 ∨ (b_.toInt = 16 ∨ b_.toInt = 32)))
    · rw [if_pos g_, if_neg (by omega), if_pos (by omega)]
      exact ⟨h0, m0_, SX_e H_ m0_ f_, r_⟩
    · rw [if_neg g_]
      exact ⟨h0, m0_, SX_e H_ m0_ f_, r_⟩
  · have q2_ := congrArg Int32.toInt g2
    have q3_ := i32e g3_
    have q4_ := i32e g4
    have q5_ := i32e g5_
    rw [if_pos (by omega), if_pos (by omega)]
    exact ⟨h0, m0_, SX_e H_ m0_ f_, r_⟩
  · have q1_ := i32e g1
    have q2_ := i32e g2
    have q3_ := i32e g3_
    have q4_ := i32e g4
    by_cases g_ : (0 ≤ z_.toInt ∧ z_.toInt < 4) ∧ (b_.toInt = 0 ∨ (b_.toInt = 8 ∨ (b_.toInt = 16 ∨ b_.toInt = 32)))
    · rw [if_pos g_, if_neg (by omega), if_pos (by omega)]
      exact ⟨h0, m0_, SX_e H_ m0_ f_, r_⟩
    · rw [if_neg g_]
      exact ⟨h0, m0_, SX_e H_ m0_ f_, r_⟩
theorem i24j {k_ i_ : Nat} (hk : k_ < 4) (hi_ : i_ < 24) : ((24 : Int32) * Int32.ofNat k_ + Int32.ofNat i_).toInt.toNat = 24 * k_ + i_ ∧ (0 ≤ ((24 : Int32) * Int32.ofNat k_ + Int32.ofNat i_).toInt ∧ ((24 : Int32) * Int32.ofNat k_ + Int32.ofNat i_).toInt < 96) := by
  have e_ : (24 : Int32) * Int32.ofNat k_ = Int32.ofNat (24 * k_) := (Int32.ofNat_mul 24 k_).symm
  rw [e_, i32p, i32n (by omega)]
  omega
theorem mh_lp {k_ : Nat} {b_ n_ : Int32} (hk : k_ < 4) : ∀ (r_ i_ : Nat) (h_ : xH), i_ + r_ = 24 → sHp h_ → (∀ j_, j_ < i_ → bpat h_ 352 (24 * k_ + j_) = some (.int 0)) → ∃ h', (∀ j_, j_ < 24 → bpat h' 352 (24 * k_ + j_) = some (.int 0)) ∧ ysm h_ h' ∧ (∀ c_ j_, ¬ (c_ = 352 ∧ (24 * k_ ≤ j_ ∧ j_ < 24 * k_ + 24)) → bpat h' c_ j_ = bpat h_ c_ j_) ∧ ∀ D_, 60 ≤ D_ → xrun D_ 228 90 [(4, .int (Int32.ofNat i_)), (0, .index 338), (1, .int (Int32.ofNat k_)), (2, .int b_), (3, .int n_)] [] h_ (some (.int 1), h', []) := by
  have z24 := i24_
  intro r_
  induction r_ with
  | zero =>
    intro i_ h_ hi_ hs P_
    obtain ⟨h1, m1_, f1_, r1_⟩ := mshX (v1_ := Int32.ofNat k_) (v2 := b_) (v3 := n_) (v4_ := Int32.ofNat i_) hs (by rw [i32n (by omega)]; omega)
    exact ⟨h1, fun j_ hj => (f1_ _ _).trans (P_ j_ (by omega)), m1_, fun c_ j_ _ => f1_ c_ j_, r1_⟩
  | succ r_ ih_ =>
    intro i_ h_ hi_ hs P_
    obtain ⟨ix, bx⟩ := i24j (k_ := k_) (i_ := i_) hk (by omega)
    obtain ⟨h1, m1_, e1_, f1_, ld⟩ := mshT (v1_ := Int32.ofNat k_) (v2 := b_) (v3 := n_) (v4_ := Int32.ofNat i_) hs bx (by rw [i32n (by omega)]; omega)
    rw [ix] at e1_ f1_
    rw [i32s] at ld
    obtain ⟨h2, P2_, m2_, f2_, r2⟩ := ih_ (i_ + 1) h1 (by omega) m1_.1 (fun j_ hj => by
      by_cases g_ : j_ = i_
      · subst g_
        exact e1_
      · exact (f1_ _ _ (fun q_ => g_ (by have q_ := q_.2; omega))).trans (P_ j_ (by omega)))
    exact ⟨h2, P2_, ysm_tr m1_ m2_, fun c_ j_ n1_ => (f2_ c_ j_ n1_).trans (f1_ c_ j_ (fun q_ => n1_ ⟨q_.1, by have q_ := q_.2; omega⟩)), fun D_ hD => ld D_ hD _ (r2 D_ hD)⟩
theorem m_sheet {W_ : Nat → List Int32} {V : Nat → Int32} {h_ : xH} {z_ b_ n_ : Int32} (B_ : bInv bZ bIj h_) (K_ : okS W_ V) (H_ : SM W_ V h_) : ∃ h', ysm h_ h' ∧ (SM (sheetF W_ V z_ b_ n_).1 (sheetF W_ V z_ b_ n_).2.1 h' ∧ ∀ D_, 60 ≤ D_ → xrun D_ 228 0 [(0, .index 338), (1, .int z_), (2, .int b_), (3, .int n_)] [] h_ (some (.int (sheetF W_ V z_ b_ n_).2.2), h', [])) := by
  obtain ⟨y_, oy⟩ := merr (k_ := 1) B_ (by omega)
  obtain ⟨y3, oy3⟩ := merr (k_ := 3) B_ (by omega)
  have zz := z0_
  have z4 := i4_
  have z8 := i8_
  have z16 := i16_
  have z32 := i32_
  have z24 := i24_
  have z3 := i3_
  unfold sheetF
  obtain ⟨h0, m0_, e_⟩ := mshE (v1_ := z_) (v2 := b_) (v3 := n_) H_.1 oy oy3
  have FIN : (∀ c_ j_, bpat h0 c_ j_ = bpat h_ c_ j_) → bldD 60 228 0 [(0, .index 338), (1, .int z_), (2, .int b_), (3, .int n_)] [] h_ 65 [(0, .index 338), (1, .int z_), (2, .int b_), (3, .int n_)] [] h0 → (0 ≤ z_.toInt ∧ z_.toInt < 4) → (b_.toInt = 0 ∨ (b_.toInt = 8 ∨ (b_.toInt = 16 ∨ b_.toInt = 32))) → ¬ (¬ b_.toInt = 0 ∧ n_.toInt < 0) → ¬ (¬ b_.toInt = 0 ∧ 24 < n_.toInt) → ∃ h', ysm h_ h' ∧ (SM (sheetF W_ V z_ b_ n_).1 (sheetF W_ V z_ b_ n_).2.1 h' ∧ ∀ D_, 60 ≤ D_ → xrun D_ 228 0 [(0, .index 338), (1, .int z_), (2, .int b_), (3, .int n_)] [] h_ (some (.int (sheetF W_ V z_ b_ n_).2.2), h', [])) := by
    intro f_ r_ c1_ c2_ c3_ c4_
    have H0 := SM_fr H_ m0_ (fun c_ j_ _ => f_ c_ j_)
    unfold sheetF
    rw [if_pos ⟨c1_, c2_⟩, if_neg c3_, if_neg c4_]
    obtain ⟨k_, hk, rfl, ek⟩ := isS_n c1_
    rw [ek]
    by_cases g_ : b_.toInt = 0
    · rw [if_pos g_]
      obtain ⟨h1, m1_, es, eb, f1_, r1_⟩ := mshZ (v1_ := Int32.ofNat k_) (v2 := b_) (v3 := n_) H0.1 ⟨by omega, by omega⟩ (Int32.toInt_inj.mp (by omega))
      rw [ek] at es eb f1_
      obtain ⟨h2, P2_, m2_, f2_, r2⟩ := mh_lp (b_ := b_) (n_ := n_) hk 24 0 h1 (by omega) m1_.1 (fun j_ hj => by omega)
      refine ⟨h2, ysm_tr m0_ (ysm_tr m1_ m2_), SM_sh hk (oks_l K_) H0 (ysm_tr m1_ m2_) ((f2_ _ _ (by omega)).trans eb) ((f2_ _ _ (by omega)).trans es) (fun j_ y_ hy => ?_) (fun c2_ j_ _ n1_ n2_ n3_ => (f2_ c2_ j_ n3_).trans (f1_ c2_ j_ n2_ n1_)), fun D_ hD => r_ D_ hD _ (r1_ D_ hD _ (r2 D_ hD))⟩
      obtain ⟨hj, rfl⟩ := rep_z hy
      exact P2_ j_ hj
    · rw [if_neg g_]
      obtain ⟨h1, m1_, es, eb, f1_, r1_⟩ := mshO (v1_ := Int32.ofNat k_) (v2 := b_) (v3 := n_) H0.1 ⟨by omega, by omega⟩ (fun q_ => by have q2_ := congrArg Int32.toInt q_; omega)
      rw [ek] at es eb f1_
      obtain ⟨h2, P2_, m2_, f2_, r2⟩ := mh_lp (b_ := b_) (n_ := n_) hk 24 0 h1 (by omega) m1_.1 (fun j_ hj => by omega)
      refine ⟨h2, ysm_tr m0_ (ysm_tr m1_ m2_), SM_sh hk (oks_l K_) H0 (ysm_tr m1_ m2_) ((f2_ _ _ (by omega)).trans eb) ((f2_ _ _ (by omega)).trans es) (fun j_ y_ hy => ?_) (fun c2_ j_ _ n1_ n2_ n3_ => (f2_ c2_ j_ n3_).trans (f1_ c2_ j_ n2_ n1_)), fun D_ hD => r_ D_ hD _ (r1_ D_ hD _ (r2 D_ hD))⟩
      obtain ⟨hj, rfl⟩ := rep_z hy
      exact P2_ j_ hj
  unfold sheetF at FIN
  rcases e_ with ⟨g1, g2, g3_, f_, r_⟩ | ⟨g1, g2, g3_, g4, g5_, g6, f_, r_⟩ | ⟨g1, g2, g3_, g4, g5_, g6, g7, f_, r_⟩ | ⟨g1, g2, g3_, g4, g5_, g6, g7, g8, f_, r_⟩ | ⟨g1, w0_, f_, r_⟩ | ⟨g1, g2, w0_, f_, r_⟩ | ⟨g1, g2, g3_, g4, g5_, g6, w0_, f_, r_⟩ | ⟨g1, g2, g3_, g4, g5_, w0_, f_, r_⟩ | ⟨g1, g2, g3_, g4, g5_, g6, g7, w0_, f_, r_⟩ | ⟨g1, g2, g3_, g4, g5_, g6, w0_, f_, r_⟩ | ⟨g1, g2, g3_, g4, g5_, g6, g7, g8, w0_, f_, r_⟩ | ⟨g1, g2, g3_, g4, g5_, g6, g7, w0_, f_, r_⟩ | ⟨g1, g2, g3_, g4, g5_, g6, w0_, f_, r_⟩
  · have q1_ := congrArg Int32.toInt g1
    exact FIN f_ r_ (by omega) (by omega) (by omega) (by omega)
  · have q3_ := congrArg Int32.toInt g3_
    have q4_ := i32e g4
    exact FIN f_ r_ (by omega) (by omega) (by omega) (by omega)
  · have q3_ := congrArg Int32.toInt g3_
    have q4_ := i32e g4
    have q5_ := i32e g5_
    exact FIN f_ r_ (by omega) (by omega) (by omega) (by omega)
  · have q3_ := congrArg Int32.toInt g3_
    have q4_ := i32e g4
    have q5_ := i32e g5_
    have q6_ := i32e g6
    exact FIN f_ r_ (by omega) (by omega) (by omega) (by omega)
  · by_cases g_ : (0 ≤ z_.toInt ∧ z_.toInt < 4) ∧ (b_.toInt = 0 ∨ (b_.toInt = 8 ∨ (b_.toInt = 16 ∨ b_.toInt = 32)))
    · rw [if_pos g_, if_neg (by omega), if_pos (by omega)]
      exact ⟨h0, m0_, SM_e H_ m0_ f_, r_⟩
    · rw [if_neg g_]
      exact ⟨h0, m0_, SM_e H_ m0_ f_, r_⟩
  · by_cases g_ : (0 ≤ z_.toInt ∧ z_.toInt < 4) ∧ (b_.toInt = 0 ∨ (b_.toInt = 8 ∨ (b_.toInt = 16 ∨ b_.toInt = 32)))
    · rw [if_pos g_, if_neg (by omega), if_pos (by omega)]
      exact ⟨h0, m0_, SM_e H_ m0_ f_, r_⟩
    · rw [if_neg g_]
      exact ⟨h0, m0_, SM_e H_ m0_ f_, r_⟩
  · have q3_ := congrArg Int32.toInt g3_
    have q4_ := i32e g4
    by_cases g_ : (0 ≤ z_.toInt ∧ z_.toInt < 4) ∧ (b_.toInt = 0 ∨ (b_.toInt = 8 ∨ (b_.toInt = 16 ∨ b_.toInt = 32)))
    · rw [if_pos g_, if_neg (by omega), if_pos (by omega)]
      exact ⟨h0, m0_, SM_e H_ m0_ f_, r_⟩
    · rw [if_neg g_]
      exact ⟨h0, m0_, SM_e H_ m0_ f_, r_⟩
  · have q2_ := congrArg Int32.toInt g2
    have q3_ := i32e g3_
    rw [if_pos (by omega), if_pos (by omega)]
    exact ⟨h0, m0_, SM_e H_ m0_ f_, r_⟩
  · have q3_ := congrArg Int32.toInt g3_
    have q4_ := i32e g4
    have q5_ := i32e g5_
    by_cases g_ : (0 ≤ z_.toInt ∧ z_.toInt < 4) ∧ (b_.toInt = 0 ∨ (b_.toInt = 8 ∨ (b_.toInt = 16 ∨ b_.toInt = 32)))
    · rw [if_pos g_, if_neg (by omega), if_pos (by omega)]
      exact ⟨h0, m0_, SM_e H_ m0_ f_, r_⟩
    · rw [if_neg g_]
      exact ⟨h0, m0_, SM_e H_ m0_ f_, r_⟩
  · have q2_ := congrArg Int32.toInt g2
    have q3_ := i32e g3_
    have q4_ := i32e g4
    rw [if_pos (by omega), if_pos (by omega)]
    exact ⟨h0, m0_, SM_e H_ m0_ f_, r_⟩
  · have q3_ := congrArg Int32.toInt g3_
    have q4_ := i32e g4
    have q5_ := i32e g5_
    have q6_ := i32e g6
    by_cases g_ : (0 ≤ z_.toInt ∧ z_.toInt < 4) ∧ (b_.toInt = 0 ∨ (b_.toInt = 8 ∨ (b_.toInt = 16 ∨ b_.toInt = 32)))
    · rw [if_pos g_, if_neg (by omega), if_pos (by omega)]
      exact ⟨h0, m0_, SM_e H_ m0_ f_, r_⟩
    · rw [if_neg g_]
      exact ⟨h0, m0_, SM_e H_ m0_ f_, r_⟩
  · have q2_ := congrArg Int32.toInt g2
    have q3_ := i32e g3_
    have q4_ := i32e g4
    have q5_ := i32e g5_
    rw [if_pos (by omega), if_pos (by omega)]
    exact ⟨h0, m0_, SM_e H_ m0_ f_, r_⟩
  · have q1_ := i32e g1
    have q2_ := i32e g2
    have q3_ := i32e g3_
    have q4_ := i32e g4
    by_cases g_ : (0 ≤ z_.toInt ∧ z_.toInt < 4) ∧ (b_.toInt = 0 ∨ (b_.toInt = 8 ∨ (b_.toInt = 16 ∨ b_.toInt = 32)))
    · rw [if_pos g_, if_neg (by omega), if_pos (by omega)]
      exact ⟨h0, m0_, SM_e H_ m0_ f_, r_⟩
    · rw [if_neg g_]
      exact ⟨h0, m0_, SM_e H_ m0_ f_, r_⟩
