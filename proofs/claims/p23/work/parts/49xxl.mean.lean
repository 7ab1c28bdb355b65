-- ===== MEANINGS
def adu (L_ : List (List Int32)) (y_ : List Int32) : List (List Int32) := if y_ ∈ L_ then L_ else L_ ++ [y_]
theorem adu_m {L_ : List (List Int32)} {y_ x_ : List Int32} : x_ ∈ adu L_ y_ ↔ (x_ ∈ L_ ∨ x_ = y_) := by
  unfold adu
  split
  · rename_i g_
    exact ⟨Or.inl, fun q_ => q_.elim id (fun e_ => by rw [e_]; exact g_)⟩
  · rw [List.mem_append, List.mem_singleton]
/-- no twins -/
def ndp (L_ : List (List Int32)) : Prop := L_.Pairwise (fun a_ b_ => ¬ a_ = b_)
theorem adu_d {L_ : List (List Int32)} {y_ : List Int32} (D_ : ndp L_) : ndp (adu L_ y_) := by
  unfold adu
  split
  · exact D_
  · rename_i g_
    exact List.pairwise_append.mpr ⟨D_, List.pairwise_cons.mpr ⟨fun a_ h_ => absurd h_ List.not_mem_nil, List.Pairwise.nil⟩, fun a_ ha_ b_ hb_ q_ => g_ (by rw [← List.mem_singleton.mp hb_, ← q_]; exact ha_)⟩
theorem ndp_le : ∀ (l m_ : List (List Int32)), ndp l → (∀ x_ ∈ l, x_ ∈ m_) → l.length ≤ m_.length := by
  intro l
  induction l with
  | nil => intro m_ _ _; exact Nat.zero_le _
  | cons a_ t_ ih_ =>
    intro m_ D_ S_
    obtain ⟨h1, h2⟩ := List.pairwise_cons.mp D_
    have ha_ := S_ a_ List.mem_cons_self
    have k_ := ih_ (m_.erase a_) h2 (fun x_ hx => (List.mem_erase_of_ne (fun q_ => h1 x_ hx q_.symm)).mpr (S_ x_ (List.mem_cons_of_mem _ hx)))
    rw [List.length_erase_of_mem ha_] at k_
    have p_ := List.length_pos_of_mem ha_
    rw [List.length_cons]
    omega
/-- room for one more -/
theorem ndp_lt {L_ m_ : List (List Int32)} {y_ : List Int32} (D_ : ndp L_) (S_ : ∀ x_ ∈ L_, x_ ∈ m_) (hy : y_ ∈ m_) (n_ : ¬ y_ ∈ L_) : L_.length < m_.length := by
  have e_ : adu L_ y_ = L_ ++ [y_] := if_neg n_
  have k_ := ndp_le (adu L_ y_) m_ (adu_d D_) (fun x_ hx => (adu_m.mp hx).elim (S_ x_) (fun q_ => by rw [q_]; exact hy))
  rw [e_, List.length_append] at k_
  exact k_
def ado (L_ : List (List Int32)) (o : Option (List Int32)) : List (List Int32) := match o with
  | none => L_
  | some y_ => adu L_ y_
theorem ado_m {L_ : List (List Int32)} {o : Option (List Int32)} {x_ : List Int32} : x_ ∈ ado L_ o ↔ (x_ ∈ L_ ∨ o = some x_) := by
  cases o with
  | none => exact ⟨Or.inl, fun q_ => q_.elim id (fun e_ => by cases e_)⟩
  | some y_ => exact adu_m.trans ⟨fun q_ => q_.imp id (fun e_ => by rw [e_]), fun q_ => q_.imp id (fun e_ => (Option.some.inj e_).symm)⟩
theorem ado_d {L_ : List (List Int32)} {o : Option (List Int32)} (D_ : ndp L_) : ndp (ado L_ o) := by
  cases o with
  | none => exact D_
  | some y_ => exact adu_d D_
theorem ado_p {L_ : List (List Int32)} {o : Option (List Int32)} : ∃ T, ado L_ o = L_ ++ T := by
  cases o with
  | none => exact ⟨[], (List.append_nil L_).symm⟩
  | some y_ =>
    show ∃ T, adu L_ y_ = L_ ++ T
    unfold adu
    split
    · exact ⟨[], (List.append_nil L_).symm⟩
    · exact ⟨[y_], rfl⟩
/-- P r, P (r + 1) .. added, n of them -/
def adF (P_ : Nat → Option (List Int32)) (n_ r_ : Nat) (L_ : List (List Int32)) : List (List Int32) := match n_ with
  | 0 => L_
  | n_ + 1 => adF P_ n_ (r_ + 1) (ado L_ (P_ r_))
theorem adF_m {P_ : Nat → Option (List Int32)} {x_ : List Int32} : ∀ (n_ r_ : Nat) (L_ : List (List Int32)), x_ ∈ adF P_ n_ r_ L_ ↔ (x_ ∈ L_ ∨ ∃ j_, r_ ≤ j_ ∧ (j_ < r_ + n_ ∧ P_ j_ = some x_)) := by
  intro n_
  induction n_ with
  | zero => intro r_ L_; exact ⟨Or.inl, fun q_ => q_.elim id (fun ⟨j_, a_, b_, _⟩ => by omega)⟩
  | succ n_ ih_ =>
    intro r_ L_
    show x_ ∈ adF P_ n_ (r_ + 1) (ado L_ (P_ r_)) ↔ _
    rw [ih_, ado_m]
    constructor
    · rintro ((h_ | h_) | ⟨j_, a_, b_, c_⟩)
      · exact Or.inl h_
      · exact Or.inr ⟨r_, Nat.le_refl _, by omega, h_⟩
      · exact Or.inr ⟨j_, by omega, by omega, c_⟩
    · rintro (h_ | ⟨j_, a_, b_, c_⟩)
      · exact Or.inl (Or.inl h_)
      · by_cases e_ : j_ = r_
        · rw [e_] at c_
          exact Or.inl (Or.inr c_)
        · exact Or.inr ⟨j_, by omega, by omega, c_⟩
theorem adF_d {P_ : Nat → Option (List Int32)} : ∀ (n_ r_ : Nat) (L_ : List (List Int32)), ndp L_ → ndp (adF P_ n_ r_ L_) := by
  intro n_
  induction n_ with
  | zero => intro r_ L_ D_; exact D_
  | succ n_ ih_ => intro r_ L_ D_; exact ih_ _ _ (ado_d D_)
theorem adF_p {P_ : Nat → Option (List Int32)} : ∀ (n_ r_ : Nat) (L_ : List (List Int32)), ∃ T, adF P_ n_ r_ L_ = L_ ++ T := by
  intro n_
  induction n_ with
  | zero => intro r_ L_; exact ⟨[], (List.append_nil L_).symm⟩
  | succ n_ ih_ =>
    intro r_ L_
    obtain ⟨T1, e1_⟩ := ado_p (L_ := L_) (o := P_ r_)
    obtain ⟨T2, e2_⟩ := ih_ (r_ + 1) (ado L_ (P_ r_))
    exact ⟨T1 ++ T2, by show adF P_ n_ (r_ + 1) (ado L_ (P_ r_)) = _; rw [e2_, e1_, List.append_assoc]⟩
theorem gD_ap {L_ T : List (List Int32)} {j_ : Nat} (h_ : j_ < L_.length) : (L_ ++ T).getD j_ [] = L_.getD j_ [] := by
  rw [List.getD_eq_getElem?_getD, List.getD_eq_getElem?_getD, List.getElem?_append_left h_]
theorem gD_in {L_ : List (List Int32)} {j_ : Nat} (h_ : j_ < L_.length) : L_.getD j_ [] ∈ L_ := by
  rw [List.getD_eq_getElem?_getD, List.getElem?_eq_getElem h_]
  exact List.getElem_mem h_
theorem gD_at {L_ : List (List Int32)} {j_ : Nat} (h_ : j_ < L_.length) : L_[j_]? = some (L_.getD j_ []) := by
  rw [List.getD_eq_getElem?_getD, List.getElem?_eq_getElem h_]
  rfl
/-- rows i, i + 1 .. undone, m of them -/
def gsF (P_ : List Int32 → Nat → Option (List Int32)) (N_ m_ i_ : Nat) (L_ : List (List Int32)) : List (List Int32) := match m_ with
  | 0 => L_
  | m_ + 1 => gsF P_ N_ m_ (i_ + 1) (adF (P_ (L_.getD i_ [])) N_ 0 L_)
theorem gsF_m {P_ : List Int32 → Nat → Option (List Int32)} {N_ : Nat} {x_ : List Int32} : ∀ (m_ i_ : Nat) (L_ : List (List Int32)), i_ + m_ ≤ L_.length → (x_ ∈ gsF P_ N_ m_ i_ L_ ↔ (x_ ∈ L_ ∨ ∃ j_, i_ ≤ j_ ∧ (j_ < i_ + m_ ∧ ∃ r_, r_ < N_ ∧ P_ (L_.getD j_ []) r_ = some x_))) := by
  intro m_
  induction m_ with
  | zero => intro i_ L_ _; exact ⟨Or.inl, fun q_ => q_.elim id (fun ⟨j_, a_, b_, _⟩ => by omega)⟩
  | succ m_ ih_ =>
    intro i_ L_ hi_
    obtain ⟨T, eT⟩ := adF_p (P_ := P_ (L_.getD i_ [])) N_ 0 L_
    have eg : ∀ j_, j_ < L_.length → (adF (P_ (L_.getD i_ [])) N_ 0 L_).getD j_ [] = L_.getD j_ [] := fun j_ hj => by rw [eT]; exact gD_ap hj
    have el : L_.length ≤ (adF (P_ (L_.getD i_ [])) N_ 0 L_).length := by rw [eT, List.length_append]; omega
    show x_ ∈ gsF P_ N_ m_ (i_ + 1) (adF (P_ (L_.getD i_ [])) N_ 0 L_) ↔ _
    rw [ih_ (i_ + 1) _ (by omega), adF_m]
    constructor
    · rintro ((h_ | ⟨r_, a_, b_, c_⟩) | ⟨j_, a_, b_, r_, c_, d_⟩)
      · exact Or.inl h_
      · exact Or.inr ⟨i_, Nat.le_refl _, by omega, r_, by omega, c_⟩
      · rw [eg j_ (by omega)] at d_
        exact Or.inr ⟨j_, by omega, by omega, r_, c_, d_⟩
    · rintro (h_ | ⟨j_, a_, b_, r_, c_, d_⟩)
      · exact Or.inl (Or.inl h_)
      · by_cases e_ : j_ = i_
        · rw [e_] at d_
          exact Or.inl (Or.inr ⟨r_, Nat.zero_le _, by omega, d_⟩)
        · exact Or.inr ⟨j_, by omega, by omega, r_, c_, by rw [eg j_ (by omega)]; exact d_⟩
theorem gsF_d {P_ : List Int32 → Nat → Option (List Int32)} {N_ : Nat} : ∀ (m_ i_ : Nat) (L_ : List (List Int32)), ndp L_ → ndp (gsF P_ N_ m_ i_ L_) := by
  intro m_
  induction m_ with
  | zero => intro i_ L_ D_; exact D_
  | succ m_ ih_ => intro i_ L_ D_; exact ih_ _ _ (adF_d _ _ _ D_)
theorem gsF_a {P_ : List Int32 → Nat → Option (List Int32)} {N_ : Nat} {x_ : List Int32} {L_ : List (List Int32)} : x_ ∈ gsF P_ N_ L_.length 0 L_ ↔ (x_ ∈ L_ ∨ ∃ y_, y_ ∈ L_ ∧ ∃ r_, r_ < N_ ∧ P_ y_ r_ = some x_) := by
  rw [gsF_m L_.length 0 L_ (by omega)]
  constructor
  · rintro (h_ | ⟨j_, a_, b_, r_, c_, d_⟩)
    · exact Or.inl h_
    · exact Or.inr ⟨_, gD_in (by omega), r_, c_, d_⟩
  · rintro (h_ | ⟨y_, hy, r_, c_, d_⟩)
    · exact Or.inl h_
    · obtain ⟨j_, hj⟩ := List.getElem?_of_mem hy
      have lj := (List.getElem?_eq_some_iff.mp hj).1
      have ey : L_.getD j_ [] = y_ := by rw [List.getD_eq_getElem?_getD, hj]; rfl
      exact Or.inr ⟨j_, Nat.zero_le _, by omega, r_, c_, by rw [ey]; exact d_⟩
def gkF (P_ : List Int32 → Nat → Option (List Int32)) (N_ k_ : Nat) (L_ : List (List Int32)) : List (List Int32) := match k_ with
  | 0 => L_
  | k_ + 1 => gkF P_ N_ k_ (gsF P_ N_ L_.length 0 L_)
theorem gkF_d {P_ : List Int32 → Nat → Option (List Int32)} {N_ : Nat} : ∀ (k_ : Nat) (L_ : List (List Int32)), ndp L_ → ndp (gkF P_ N_ k_ L_) := by
  intro k_
  induction k_ with
  | zero => intro L_ D_; exact D_
  | succ k_ ih_ => intro L_ D_; exact ih_ _ (gsF_d _ _ _ D_)
/-- what may come behind s steps -/
def mzF (P_ : List Int32 → Nat → Option (List Int32)) (row_ : List Int32) (s_ : Nat) : List (List Int32) := match s_ with
  | 0 => [row_]
  | 1 => row_ :: (List.range 8).filterMap (P_ row_)
  | _ => row_ :: ((List.range 8).filterMap (P_ row_) ++ (List.range 64).filterMap (fun p_ => (P_ row_ (p_ / 8)).bind (fun y_ => P_ y_ (p_ % 8))))
theorem mzF_l {P_ : List Int32 → Nat → Option (List Int32)} {row_ : List Int32} : (mzF P_ row_ 2).length ≤ 73 := by
  have a_ := List.length_filterMap_le (P_ row_) (List.range 8)
  have b_ := List.length_filterMap_le (fun p_ => (P_ row_ (p_ / 8)).bind (fun y_ => P_ y_ (p_ % 8))) (List.range 64)
  rw [List.length_range] at a_ b_
  show (row_ :: ((List.range 8).filterMap (P_ row_) ++ (List.range 64).filterMap (fun p_ => (P_ row_ (p_ / 8)).bind (fun y_ => P_ y_ (p_ % 8))))).length ≤ 73
  rw [List.length_cons, List.length_append]
  omega
theorem mzF_1 {P_ : List Int32 → Nat → Option (List Int32)} {row_ x_ : List Int32} : x_ ∈ mzF P_ row_ 1 ↔ (x_ = row_ ∨ ∃ r_, r_ < 8 ∧ P_ row_ r_ = some x_) := by
  show x_ ∈ row_ :: (List.range 8).filterMap (P_ row_) ↔ _
  rw [List.mem_cons, List.mem_filterMap]
  exact ⟨fun q_ => q_.imp id (fun ⟨r_, a_, b_⟩ => ⟨r_, List.mem_range.mp a_, b_⟩), fun q_ => q_.imp id (fun ⟨r_, a_, b_⟩ => ⟨r_, List.mem_range.mpr a_, b_⟩)⟩
theorem mzF_2 {P_ : List Int32 → Nat → Option (List Int32)} {row_ x_ : List Int32} : x_ ∈ mzF P_ row_ 1 → x_ ∈ mzF P_ row_ 2 := by
  intro h_
  show x_ ∈ row_ :: ((List.range 8).filterMap (P_ row_) ++ (List.range 64).filterMap (fun p_ => (P_ row_ (p_ / 8)).bind (fun y_ => P_ y_ (p_ % 8))))
  rcases List.mem_cons.mp h_ with h_ | h_
  · rw [h_]; exact List.mem_cons_self
  · exact List.mem_cons_of_mem _ (List.mem_append_left _ h_)
theorem mzF_s {P_ : List Int32 → Nat → Option (List Int32)} {row_ x_ y_ : List Int32} {s_ r_ : Nat} (hs : s_ < 2) (hx : x_ ∈ mzF P_ row_ s_) (hr : r_ < 8) (e_ : P_ x_ r_ = some y_) : y_ ∈ mzF P_ row_ (s_ + 1) := by
  rcases (show s_ = 0 ∨ s_ = 1 by omega) with rfl | rfl
  · have ex_ : x_ = row_ := List.mem_singleton.mp hx
    rw [ex_] at e_
    exact mzF_1.mpr (Or.inr ⟨r_, hr, e_⟩)
  · rcases mzF_1.mp hx with h_ | ⟨q_, hq, eq_⟩
    · rw [h_] at e_
      exact mzF_2 (mzF_1.mpr (Or.inr ⟨r_, hr, e_⟩))
    · show y_ ∈ row_ :: ((List.range 8).filterMap (P_ row_) ++ (List.range 64).filterMap (fun p_ => (P_ row_ (p_ / 8)).bind (fun y_ => P_ y_ (p_ % 8))))
      refine List.mem_cons_of_mem _ (List.mem_append_right _ (List.mem_filterMap.mpr ⟨8 * q_ + r_, List.mem_range.mpr (by omega), ?_⟩))
      show (P_ row_ ((8 * q_ + r_) / 8)).bind (fun y_ => P_ y_ ((8 * q_ + r_) % 8)) = some y_
      rw [show (8 * q_ + r_) / 8 = q_ by omega, show (8 * q_ + r_) % 8 = r_ by omega, eq_]
      exact e_
theorem mzF_u {P_ : List Int32 → Nat → Option (List Int32)} {row_ x_ : List Int32} {s_ : Nat} (hs : s_ < 2) (hx : x_ ∈ mzF P_ row_ s_) : x_ ∈ mzF P_ row_ (s_ + 1) := by
  rcases (show s_ = 0 ∨ s_ = 1 by omega) with rfl | rfl
  · exact mzF_1.mpr (Or.inl (List.mem_singleton.mp hx))
  · exact mzF_2 hx
theorem mzF_w {P_ : List Int32 → Nat → Option (List Int32)} {row_ x_ : List Int32} {s_ : Nat} (hs : s_ ≤ 2) (hx : x_ ∈ mzF P_ row_ s_) : x_ ∈ mzF P_ row_ 2 := by
  rcases (show s_ = 0 ∨ (s_ = 1 ∨ s_ = 2) by omega) with rfl | rfl | rfl
  · exact mzF_2 (mzF_u (by omega) hx)
  · exact mzF_2 hx
  · exact hx
section
variable {W_ : Nat → List Int32} {V : Nat → Int32}
def okn (V : Nat → Int32) (r_ : Nat) : Prop := ¬ (kdV V r_ = 5 ∨ kdV V r_ = 6)
/-- a row undone at a ROCK -/
noncomputable def uO (W_ : Nat → List Int32) (V : Nat → Int32) (x_ : List Int32) (r_ : Nat) : Option (List Int32) := pif (okn V r_) (some (stp W_ V r_ x_)) none
/-- a row undone over a WAY -/
noncomputable def waO (W_ : Nat → List Int32) (V : Nat → Int32) (x_ : List Int32) (n_ : Nat) : Option (List Int32) := pif (isW (nR V) (Int32.ofNat n_) ∧ cuL V (wyl (Int32.ofNat n_))) (ndW W_ V (wyl (Int32.ofNat n_)) x_) none
theorem wk1 {n_ : Nat} (h1 : 1 ≤ n_) (h2 : n_ ≤ 9) : wyl (Int32.ofNat n_) = [Int32.ofNat (n_ - 1)] ∧ wln n_ = 1 := by
  have k_ : (List.range 10).all (fun n_ => n_ == 0 || (decide (wyl (Int32.ofNat n_) = [Int32.ofNat (n_ - 1)]) && decide (wln n_ = 1))) = true := by decide +kernel
  have k1_ := List.all_eq_true.mp k_ n_ (List.mem_range.mpr (by omega))
  rw [show (n_ == 0) = false from beq_eq_false_iff_ne.mpr (by omega), Bool.false_or, Bool.and_eq_true] at k1_
  exact ⟨of_decide_eq_true k1_.1, of_decide_eq_true k1_.2⟩
theorem wk2 {n_ : Nat} (h1 : 10 ≤ n_) (h2 : n_ ≤ 99) (h3 : ¬ n_ % 10 = 0) : wyl (Int32.ofNat n_) = [Int32.ofNat (n_ / 10 - 1), Int32.ofNat (n_ % 10 - 1)] := by
  have k_ : (List.range 100).all (fun n_ => Nat.ble n_ 9 || (n_ % 10 == 0 || decide (wyl (Int32.ofNat n_) = [Int32.ofNat (n_ / 10 - 1), Int32.ofNat (n_ % 10 - 1)]))) = true := by decide +kernel
  have k1_ := List.all_eq_true.mp k_ n_ (List.mem_range.mpr (by omega))
  rw [show Nat.ble n_ 9 = false from ble_no (by omega), Bool.false_or, show (n_ % 10 == 0) = false from beq_eq_false_iff_ne.mpr h3, Bool.false_or] at k1_
  exact of_decide_eq_true k1_
theorem wk3 {n_ : Nat} (h1 : 10 ≤ n_) (h2 : n_ ≤ 99) : wln n_ = 2 := by
  have k_ : (List.range 100).all (fun n_ => Nat.ble n_ 9 || decide (wln n_ = 2)) = true := by decide +kernel
  have k1_ := List.all_eq_true.mp k_ n_ (List.mem_range.mpr (by omega))
  rw [show Nat.ble n_ 9 = false from ble_no (by omega), Bool.false_or] at k1_
  exact of_decide_eq_true k1_
theorem iw1 {N_ n_ : Nat} (hN_ : N_ ≤ 8) (h1 : 1 ≤ n_) (h2 : n_ ≤ 9) : isW N_ (Int32.ofNat n_) ↔ n_ ≤ N_ := by
  have e_ : (Int32.ofNat n_).toInt = ((n_ : Nat) : Int) := i32n (by omega)
  unfold isW
  rw [show (Int32.ofNat n_).toInt.toNat = n_ by rw [e_]; rfl, (wk1 h1 h2).2, e_]
  constructor
  · rintro ⟨-, a_⟩
    have q_ := a_ 0 (by omega)
    rw [Nat.pow_zero, Nat.div_one, Nat.mod_eq_of_lt (by omega)] at q_
    exact q_.2
  · intro a_
    refine ⟨⟨by omega, by omega⟩, fun j_ hj => ?_⟩
    have ej : j_ = 0 := by omega
    subst ej
    rw [Nat.pow_zero, Nat.div_one, Nat.mod_eq_of_lt (by omega)]
    exact ⟨by omega, a_⟩
theorem iw2 {N_ n_ : Nat} (h1 : 10 ≤ n_) (h2 : n_ ≤ 99) : isW N_ (Int32.ofNat n_) ↔ ((¬ n_ % 10 = 0 ∧ n_ % 10 ≤ N_) ∧ n_ / 10 ≤ N_) := by
  have e_ : (Int32.ofNat n_).toInt = ((n_ : Nat) : Int) := i32n (by omega)
  unfold isW
  rw [show (Int32.ofNat n_).toInt.toNat = n_ by rw [e_]; rfl, wk3 h1 h2, e_]
  constructor
  · rintro ⟨-, a_⟩
    have q0 := a_ 0 (by omega)
    have q1_ := a_ 1 (by omega)
    rw [Nat.pow_zero, Nat.div_one] at q0
    rw [Nat.pow_one] at q1_
    exact ⟨q0, by have z_ := q1_.2; omega⟩
  · rintro ⟨a_, b_⟩
    refine ⟨⟨by omega, by omega⟩, fun j_ hj => ?_⟩
    rcases (show j_ = 0 ∨ j_ = 1 by omega) with rfl | rfl
    · rw [Nat.pow_zero, Nat.div_one]
      exact a_
    · rw [Nat.pow_one]
      exact ⟨by omega, by omega⟩
theorem okk_n {r_ : Nat} (hr : r_ < 1000) : okk V (Int32.ofNat r_) ↔ okn V r_ := by
  unfold okk okn
  rw [i32t (by omega)]
theorem waO_0 {x_ : List Int32} : waO W_ V x_ 0 = some x_ := by
  have e_ : wyl (Int32.ofNat 0) = [] := by decide +kernel
  have w0_ : wln 0 = 0 := by decide +kernel
  have g_ : isW (nR V) (Int32.ofNat 0) ∧ cuL V (wyl (Int32.ofNat 0)) := by
    refine ⟨⟨⟨by decide, by decide⟩, ?_⟩, ?_⟩
    · rw [show (Int32.ofNat 0).toInt.toNat = 0 from rfl, w0_]
      exact fun j_ hj => absurd hj (by omega)
    · rw [e_]
      exact fun x_ hx => absurd hx List.not_mem_nil
  unfold waO
  rw [pif_t g_, e_]
  rfl
theorem waO_1 (hN_ : nR V ≤ 8) {x_ : List Int32} {n_ : Nat} (h1 : 1 ≤ n_) (h2 : n_ ≤ 9) : (n_ ≤ nR V → waO W_ V x_ n_ = uO W_ V x_ (n_ - 1)) ∧ (¬ n_ ≤ nR V → waO W_ V x_ n_ = none) := by
  unfold waO
  constructor
  · intro g_
    rw [(wk1 h1 h2).1]
    by_cases c_ : okn V (n_ - 1)
    · have cc : cuL V [Int32.ofNat (n_ - 1)] := fun y_ hy => by
        rw [List.mem_singleton.mp hy]
        exact (okk_n (by omega)).mpr c_
      rw [pif_t ⟨(iw1 hN_ h1 h2).mpr g_, cc⟩]
      unfold uO
      rw [pif_t c_]
      show pif (okk V (Int32.ofNat (n_ - 1))) (some (sdo (kdV V (Int32.ofNat (n_ - 1)).toInt.toNat) (mV_ V (Int32.ofNat (n_ - 1)).toInt.toNat) (W_ 23) x_)) none = _
      rw [pif_t ((okk_n (by omega)).mpr c_), i32t (by omega)]
      rfl
    · rw [pif_f (fun q_ => c_ ((okk_n (by omega)).mp (q_.2 _ List.mem_cons_self)))]
      unfold uO
      rw [pif_f c_]
  · intro g_
    exact pif_f (fun q_ => g_ ((iw1 hN_ h1 h2).mp q_.1))
theorem waO_2 {x_ : List Int32} {n_ : Nat} (h1 : 10 ≤ n_) (h2 : n_ ≤ 99) : (((¬ n_ % 10 = 0 ∧ n_ % 10 ≤ nR V) ∧ n_ / 10 ≤ nR V) → waO W_ V x_ n_ = (uO W_ V x_ (n_ % 10 - 1)).bind (fun y_ => uO W_ V y_ (n_ / 10 - 1))) ∧ (¬ ((¬ n_ % 10 = 0 ∧ n_ % 10 ≤ nR V) ∧ n_ / 10 ≤ nR V) → waO W_ V x_ n_ = none) := by
  unfold waO
  constructor
  · intro g_
    rw [wk2 h1 h2 g_.1.1]
    by_cases c1_ : okn V (n_ % 10 - 1)
    · by_cases c2_ : okn V (n_ / 10 - 1)
      · have cc : cuL V [Int32.ofNat (n_ / 10 - 1), Int32.ofNat (n_ % 10 - 1)] := fun y_ hy => by
          rcases List.mem_cons.mp hy with q_ | q_
          · rw [q_]; exact (okk_n (by omega)).mpr c2_
          · rw [List.mem_singleton.mp q_]; exact (okk_n (by omega)).mpr c1_
        rw [pif_t ⟨(iw2 h1 h2).mpr g_, cc⟩]
        unfold uO
        rw [pif_t c1_]
        show pif (okk V (Int32.ofNat (n_ % 10 - 1))) (pif (okk V (Int32.ofNat (n_ / 10 - 1))) (some (sdo (kdV V (Int32.ofNat (n_ / 10 - 1)).toInt.toNat) (mV_ V (Int32.ofNat (n_ / 10 - 1)).toInt.toNat) (W_ 23) (sdo (kdV V (Int32.ofNat (n_ % 10 - 1)).toInt.toNat) (mV_ V (Int32.ofNat (n_ % 10 - 1)).toInt.toNat) (W_ 23) x_))) none) none = pif (okn V (n_ / 10 - 1)) (some (stp W_ V (n_ / 10 - 1) (stp W_ V (n_ % 10 - 1) x_))) none
        rw [pif_t ((okk_n (by omega)).mpr c1_), pif_t ((okk_n (by omega)).mpr c2_), pif_t c2_, i32t (by omega), i32t (by omega)]
        rfl
      · rw [pif_f (fun q_ => c2_ ((okk_n (by omega)).mp (q_.2 _ List.mem_cons_self)))]
        unfold uO
        rw [pif_t c1_]
        show none = pif (okn V (n_ / 10 - 1)) (some (stp W_ V (n_ / 10 - 1) (stp W_ V (n_ % 10 - 1) x_))) none
        rw [pif_f c2_]
    · rw [pif_f (fun q_ => c1_ ((okk_n (by omega)).mp (q_.2 _ (List.mem_cons_of_mem _ List.mem_cons_self))))]
      unfold uO
      rw [pif_f c1_]
      rfl
  · intro g_
    exact pif_f (fun q_ => g_ ((iw2 h1 h2).mp q_.1))
/-- the class's rows -/
noncomputable def meaX (W_ : Nat → List Int32) (V : Nat → Int32) (x_ : List Int32) (k_ : Nat) : List (List Int32) := gkF (uO W_ V) (nR V) k_ [x_]
def mstM (k_ : Nat) : Nat := if k_ = 0 then 0 else if k_ = 1 then 9 else 99
/-- the reference's rows -/
noncomputable def meaM (W_ : Nat → List Int32) (V : Nat → Int32) (x_ : List Int32) (k_ : Nat) : List (List Int32) := adF (waO W_ V x_) (mstM k_ + 1) 0 []
theorem meaM_m {x_ y_ : List Int32} {k_ : Nat} : y_ ∈ meaM W_ V x_ k_ ↔ ∃ n_, n_ ≤ mstM k_ ∧ waO W_ V x_ n_ = some y_ := by
  unfold meaM
  rw [adF_m]
  constructor
  · rintro (h_ | ⟨j_, a_, b_, c_⟩)
    · exact absurd h_ List.not_mem_nil
    · exact ⟨j_, by omega, c_⟩
  · rintro ⟨n_, a_, b_⟩
    exact Or.inr ⟨n_, Nat.zero_le _, by omega, b_⟩
theorem mea_1 (hN_ : nR V ≤ 8) {x_ y_ : List Int32} : (∃ n_, n_ ≤ 9 ∧ waO W_ V x_ n_ = some y_) ↔ (y_ = x_ ∨ ∃ r_, r_ < nR V ∧ uO W_ V x_ r_ = some y_) := by
  constructor
  · rintro ⟨n_, a_, b_⟩
    by_cases z_ : n_ = 0
    · rw [z_, waO_0] at b_
      exact Or.inl (Option.some.inj b_).symm
    · by_cases g_ : n_ ≤ nR V
      · rw [(waO_1 hN_ (by omega) a_).1 g_] at b_
        exact Or.inr ⟨n_ - 1, by omega, b_⟩
      · rw [(waO_1 hN_ (by omega) a_).2 g_] at b_
        cases b_
  · rintro (h_ | ⟨r_, a_, b_⟩)
    · exact ⟨0, by omega, by rw [h_]; exact waO_0⟩
    · exact ⟨r_ + 1, by omega, by rw [(waO_1 hN_ (by omega) (by omega)).1 (by omega)]; exact b_⟩
theorem mea_2 (hN_ : nR V ≤ 8) {x_ y_ : List Int32} : (∃ n_, n_ ≤ 99 ∧ waO W_ V x_ n_ = some y_) ↔ ((y_ = x_ ∨ ∃ r_, r_ < nR V ∧ uO W_ V x_ r_ = some y_) ∨ ∃ r_, r_ < nR V ∧ ∃ u_, uO W_ V x_ r_ = some u_ ∧ ∃ q_, q_ < nR V ∧ uO W_ V u_ q_ = some y_) := by
  constructor
  · rintro ⟨n_, a_, b_⟩
    by_cases z_ : n_ ≤ 9
    · exact Or.inl ((mea_1 hN_).mp ⟨n_, z_, b_⟩)
    · by_cases g_ : (¬ n_ % 10 = 0 ∧ n_ % 10 ≤ nR V) ∧ n_ / 10 ≤ nR V
      · rw [(waO_2 (by omega) a_).1 g_] at b_
        cases e_ : uO W_ V x_ (n_ % 10 - 1) with
        | none => rw [e_] at b_; cases b_
        | some u_ =>
          rw [e_] at b_
          exact Or.inr ⟨n_ % 10 - 1, by omega, u_, e_, n_ / 10 - 1, by omega, b_⟩
      · rw [(waO_2 (by omega) a_).2 g_] at b_
        cases b_
  · rintro (h_ | ⟨r_, a_, u_, b_, q_, c_, d_⟩)
    · obtain ⟨n_, e_, f_⟩ := (mea_1 hN_).mpr h_
      exact ⟨n_, by omega, f_⟩
    · refine ⟨10 * (q_ + 1) + (r_ + 1), by omega, ?_⟩
      rw [(waO_2 (by omega) (by omega)).1 ⟨⟨by omega, by omega⟩, by omega⟩, show (10 * (q_ + 1) + (r_ + 1)) % 10 - 1 = r_ by omega, show (10 * (q_ + 1) + (r_ + 1)) / 10 - 1 = q_ by omega, b_]
      exact d_
theorem mea_m (hN_ : nR V ≤ 8) {x_ y_ : List Int32} {k_ : Nat} (hk : k_ ≤ 2) : y_ ∈ meaX W_ V x_ k_ ↔ y_ ∈ meaM W_ V x_ k_ := by
  rw [meaM_m]
  unfold meaX
  have s1_ : ∀ z_, z_ ∈ gsF (uO W_ V) (nR V) [x_].length 0 [x_] ↔ (z_ = x_ ∨ ∃ r_, r_ < nR V ∧ uO W_ V x_ r_ = some z_) := by
    intro z_
    rw [gsF_a, List.mem_singleton]
    exact ⟨fun q_ => q_.imp id (fun ⟨y_, a_, r_, b_, c_⟩ => ⟨r_, b_, by rw [List.mem_singleton.mp a_] at c_; exact c_⟩), fun q_ => q_.imp id (fun ⟨r_, b_, c_⟩ => ⟨x_, List.mem_singleton.mpr rfl, r_, b_, c_⟩)⟩
  rcases (show k_ = 0 ∨ (k_ = 1 ∨ k_ = 2) by omega) with rfl | rfl | rfl
  · show y_ ∈ [x_] ↔ ∃ n_, n_ ≤ 0 ∧ _
    rw [List.mem_singleton]
    constructor
    · intro h_
      exact ⟨0, Nat.le_refl _, by rw [h_]; exact waO_0⟩
    · rintro ⟨n_, a_, b_⟩
      have z_ : n_ = 0 := by omega
      rw [z_, waO_0] at b_
      exact (Option.some.inj b_).symm
  · show y_ ∈ gsF (uO W_ V) (nR V) [x_].length 0 [x_] ↔ ∃ n_, n_ ≤ 9 ∧ _
    rw [s1_, mea_1 hN_]
  · show y_ ∈ gsF (uO W_ V) (nR V) (gsF (uO W_ V) (nR V) [x_].length 0 [x_]).length 0 (gsF (uO W_ V) (nR V) [x_].length 0 [x_]) ↔ ∃ n_, n_ ≤ 99 ∧ _
    rw [gsF_a, s1_, mea_2 hN_]
    constructor
    · rintro (h_ | ⟨u_, a_, q_, b_, c_⟩)
      · exact Or.inl h_
      · rcases (s1_ u_).mp a_ with e_ | ⟨r_, d_, e_⟩
        · rw [e_] at c_
          exact Or.inl (Or.inr ⟨q_, b_, c_⟩)
        · exact Or.inr ⟨r_, d_, u_, e_, q_, b_, c_⟩
    · rintro (h_ | ⟨r_, a_, u_, b_, q_, c_, d_⟩)
      · exact Or.inl h_
      · exact Or.inr ⟨u_, (s1_ u_).mpr (Or.inr ⟨r_, a_, b_⟩), q_, c_, d_⟩
theorem meaX_d {x_ : List Int32} {k_ : Nat} : ndp (meaX W_ V x_ k_) := gkF_d k_ _ (List.pairwise_cons.mpr ⟨fun a_ h_ => absurd h_ List.not_mem_nil, List.Pairwise.nil⟩)
theorem meaM_d {x_ : List Int32} {k_ : Nat} : ndp (meaM W_ V x_ k_) := adF_d _ _ _ List.Pairwise.nil
/-- as many rows at both sides -/
theorem mea_l (hN_ : nR V ≤ 8) {x_ : List Int32} {k_ : Nat} (hk : k_ ≤ 2) : (meaX W_ V x_ k_).length = (meaM W_ V x_ k_).length :=
  Nat.le_antisymm (ndp_le _ _ meaX_d (fun y_ hy => (mea_m hN_ hk).mp hy)) (ndp_le _ _ meaM_d (fun y_ hy => (mea_m hN_ hk).mpr hy))
end
