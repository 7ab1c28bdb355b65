-- ===== readWay, the class
/-- a digit more -/
def rwd (N_ d_ : Nat) (l : List Int32) : Option (List Int32) := if d_ = 0 then (if l = [] then some [] else none) else (if N_ < d_ then none else some (l ++ [Int32.ofNat d_ - 1]))
def rwf (N_ n_ k_ : Nat) (l : List Int32) : Option (List Int32) := match k_ with
  | 0 => some l
  | k_ + 1 => match rwd N_ (n_ / 10 ^ k_ % 10) l with
    | none => none
    | some l' => rwf N_ n_ k_ l'
def utf (k_ : Nat) : Nat := match k_ with
  | 0 => 0
  | k_ + 1 => 10 ^ k_
theorem utf_d (k_ : Nat) : utf (k_ + 1) / 10 = utf k_ := by
  cases k_ with
  | zero => rfl
  | succ k_ =>
    show 10 ^ (k_ + 1) / 10 = 10 ^ k_
    rw [Nat.pow_succ, Nat.mul_div_cancel _ (by omega)]
def rw4 (a_ b_ N_ : Nat) (h_ : xH) (l : List Int32) : Prop := sHp h_ ∧ (rwx h_ a_ b_ 4 l ∧ bpat h_ 1 10 = some (.int (Int32.ofNat N_)))
theorem rwx_add {h_ h' : xH} {a_ b_ m_ : Nat} {l : List Int32} {x_ : Int32} (R_ : rwx h_ a_ b_ m_ l) (hl : l.length < m_) (hm_ : ysm h_ h') (e1_ : bpat h' a_ 1 = some (.int (Int32.ofNat (l.length + 1)))) (e2_ : bpat h' b_ l.length = some (.int x_)) (f_ : ∀ c_ j_, ¬ (c_ = a_ ∧ j_ = 1) → ¬ (c_ = b_ ∧ j_ = l.length) → bpat h' c_ j_ = bpat h_ c_ j_) : rwx h' a_ b_ m_ (l ++ [x_]) := by
  obtain ⟨⟨R1, R2⟩, ⟨R3, R4⟩, R5, R6⟩ := R_
  have nb : ¬ a_ = b_ := bcq_ne R1 R2 (by decide)
  have ll : (l ++ [x_]).length = l.length + 1 := by rw [List.length_append]; rfl
  refine ⟨⟨hm_.2 _ _ _ R1, hm_.2 _ _ _ R2⟩, ⟨?_, by rw [ll]; exact e1_⟩, by rw [ll]; omega, fun j_ y_ hy => ?_⟩
  · rw [f_ a_ 0 (fun q_ => by cases q_.2) (fun q_ => nb q_.1)]
    exact R3
  · by_cases g_ : j_ < l.length
    · rw [List.getElem?_append_left g_] at hy
      rw [f_ b_ j_ (fun q_ => nb q_.1.symm) (fun q_ => by omega)]
      exact R6 j_ y_ hy
    · have hj := (List.getElem?_eq_some_iff.mp hy).1
      rw [ll] at hj
      have ej : j_ = l.length := by omega
      subst ej
      rw [List.getElem?_append_right (Nat.le_refl _), Nat.sub_self] at hy
      cases hy
      exact e2_
theorem rw_lp {a_ b_ N_ n_ : Nat} (hn : n_ ≤ 9999) (hN_ : N_ ≤ 8) : ∀ (k_ : Nat) (l : List Int32) (h_ : xH) (lo_ : xL), k_ ≤ 4 → l.length + k_ ≤ 4 → rw4 a_ b_ N_ h_ l → tRW_hd a_ (Int32.ofNat n_) (Int32.ofNat (utf k_)) lo_ → ∃ h', frr a_ b_ h_ h' ∧ ((∃ l', rwf N_ n_ k_ l = some l' ∧ rw4 a_ b_ N_ h' l' ∧ ∀ D_, 60 ≤ D_ → xrun D_ 65 21 lo_ [] h_ (some (.int 1), h', [])) ∨ (rwf N_ n_ k_ l = none ∧ ∀ D_, 60 ≤ D_ → xrun D_ 65 21 lo_ [] h_ (some (.int 0), h', []))) := by
  intro k_
  induction k_ with
  | zero =>
    intro l h_ lo_ hk hl R_ H_
    obtain ⟨h1, m1_, f1_, r1_⟩ := xRW R_.1 R_.2.1.1.1 (by show (Int32.ofNat 0).toInt ≤ (0 : Int32).toInt; decide) H_
    exact ⟨h1, frr_all m1_ f1_, Or.inl ⟨l, rfl, ⟨m1_.1, rwx_keep R_.2.1 m1_ (fun c_ j_ _ => f1_ c_ j_), (f1_ _ _).trans R_.2.2⟩, r1_⟩⟩
  | succ k_ ih_ =>
    intro l h_ lo_ hk hl R_ H_
    obtain ⟨Rs_, ⟨⟨R1, R2⟩, ⟨R3, R4⟩, R5, R6⟩, R7⟩ := R_
    have z0 : (0 : Int32).toInt = 0 := rfl
    have hp : 1 ≤ 10 ^ k_ := Nat.one_le_pow _ _ (by omega)
    have hp4 : 10 ^ k_ ≤ 1000 := Nat.le_trans (Nat.pow_le_pow_right (by omega) (show k_ ≤ 3 by omega)) (by decide)
    have n1_ : ¬ 1 = a_ := bcq_ne (bcq_of (n_ := 1) (z_ := (10, 15)) Rs_ rfl) R1 (by decide)
    have n2_ : ¬ 1 = b_ := bcq_ne (bcq_of (n_ := 1) (z_ := (10, 15)) Rs_ rfl) R2 (by decide)
    have ed : Int32.ofNat n_ / Int32.ofNat (utf (k_ + 1)) = Int32.ofNat (n_ / 10 ^ k_) := i32d (by omega) (by show 0 < 10 ^ k_; omega) (by show 10 ^ k_ < 2147483648; omega)
    have hq : n_ / 10 ^ k_ ≤ n_ := Nat.div_le_self _ _
    have hd10 : n_ / 10 ^ k_ % 10 < 10 := Nat.mod_lt _ (by omega)
    have eg : Int32.ofNat (n_ / 10 ^ k_) - Int32.ofNat (n_ / 10 ^ k_) / (10 : Int32) * (10 : Int32) = Int32.ofNat (n_ / 10 ^ k_ % 10) := i32r (k_ := 10) (by omega) (by omega) (by omega)
    have eu : Int32.ofNat (utf (k_ + 1)) / (10 : Int32) = Int32.ofNat (utf k_) := (i32d (k_ := 10) (by show 10 ^ k_ < 2147483648; omega) (by omega) (by omega)).trans (by rw [utf_d])
    obtain ⟨h1, m1_, e_⟩ := tRW Rs_ R1 R2 R7 R4 R3 ⟨by rw [i32n (by omega)]; omega, by rw [i32n (by omega)]; omega⟩ (by show (0 : Int32).toInt < (Int32.ofNat (10 ^ k_)).toInt; rw [i32n (by omega)]; omega) (by rw [i32n (by omega)]; show (l.length : Int) < 4; omega) H_
    rw [ed, eg, eu] at e_
    have ez : Int32.ofNat (n_ / 10 ^ k_ % 10) = 0 ↔ n_ / 10 ^ k_ % 10 = 0 := by
      constructor
      · intro q_
        have q_ := congrArg Int32.toInt q_
        rw [i32n (by omega), z0] at q_
        omega
      · intro q_
        rw [q_]
        rfl
    have el : Int32.ofNat l.length = 0 ↔ l = [] := by
      constructor
      · intro q_
        have q_ := congrArg Int32.toInt q_
        rw [i32n (by omega), z0] at q_
        exact List.eq_nil_of_length_eq_zero (by omega)
      · intro q_
        rw [q_]
        rfl
    have eN_ : (Int32.ofNat N_).toInt = N_ := i32n (by omega)
    have eD : (Int32.ofNat (n_ / 10 ^ k_ % 10)).toInt = (n_ / 10 ^ k_ % 10 : Nat) := i32n (by omega)
    have tn_ : (Int32.ofNat l.length).toInt.toNat = l.length := by rw [i32n (by omega)]; omega
    rcases e_ with ⟨g0, g1, g2, g3_, g4, lo', H', ld⟩ | ⟨g0, g1, g2, lo', H', ld⟩ | ⟨g0, g1, g2, r_⟩ | ⟨g0, g1, g2, r_⟩
    · rw [tn_] at g3_ g4
      rw [i32s] at g2
      have nz : ¬ n_ / 10 ^ k_ % 10 = 0 := fun q_ => g1 (ez.mpr q_)
      have ee : rwd N_ (n_ / 10 ^ k_ % 10) l = some (l ++ [Int32.ofNat (n_ / 10 ^ k_ % 10) - 1]) := by
        unfold rwd
        rw [if_neg nz, if_neg (by omega)]
      have fr_ : frr a_ b_ h_ h1 := ⟨m1_, fun c_ j_ q1_ q2_ => g4 c_ j_ (fun q_ => q1_ q_.1) (fun q_ => q2_ q_.1)⟩
      obtain ⟨h2, F2, e_⟩ := ih_ (l ++ [Int32.ofNat (n_ / 10 ^ k_ % 10) - 1]) h1 lo' (by omega) (by rw [List.length_append]; show l.length + 1 + k_ ≤ 4; omega) ⟨m1_.1, rwx_add ⟨⟨R1, R2⟩, ⟨R3, R4⟩, R5, R6⟩ (by omega) m1_ g2 g3_ g4, (fr_.2 1 10 n1_ n2_).trans R7⟩ H'
      refine ⟨h2, frr_tr fr_ F2, ?_⟩
      unfold rwf
      rw [ee]
      rcases e_ with ⟨l', e1_, e2_, e3_⟩ | ⟨e1_, e3_⟩
      · exact Or.inl ⟨l', e1_, e2_, fun D_ hD => ld D_ hD _ (e3_ D_ hD)⟩
      · exact Or.inr ⟨e1_, fun D_ hD => ld D_ hD _ (e3_ D_ hD)⟩
    · have ee : rwd N_ (n_ / 10 ^ k_ % 10) l = some [] := by
        unfold rwd
        rw [if_pos (ez.mp g1), if_pos (el.mp g0)]
      have l0 := el.mp g0
      subst l0
      have fr_ : frr a_ b_ h_ h1 := frr_all m1_ g2
      obtain ⟨h2, F2, e_⟩ := ih_ [] h1 lo' (by omega) (by show 0 + k_ ≤ 4; omega) ⟨m1_.1, rwx_keep ⟨⟨R1, R2⟩, ⟨R3, R4⟩, R5, R6⟩ m1_ (fun c_ j_ _ => g2 c_ j_), (g2 1 10).trans R7⟩ H'
      refine ⟨h2, frr_tr fr_ F2, ?_⟩
      unfold rwf
      rw [ee]
      rcases e_ with ⟨l', e1_, e2_, e3_⟩ | ⟨e1_, e3_⟩
      · exact Or.inl ⟨l', e1_, e2_, fun D_ hD => ld D_ hD _ (e3_ D_ hD)⟩
      · exact Or.inr ⟨e1_, fun D_ hD => ld D_ hD _ (e3_ D_ hD)⟩
    · have nz : ¬ n_ / 10 ^ k_ % 10 = 0 := fun q_ => g1 (ez.mpr q_)
      have ee : rwd N_ (n_ / 10 ^ k_ % 10) l = none := by
        unfold rwd
        rw [if_neg nz, if_pos (by omega)]
      refine ⟨h1, frr_all m1_ g2, Or.inr ⟨?_, r_⟩⟩
      unfold rwf
      rw [ee]
    · have ee : rwd N_ (n_ / 10 ^ k_ % 10) l = none := by
        unfold rwd
        rw [if_pos (ez.mp g1), if_neg (fun q_ => g0 (el.mpr q_))]
      refine ⟨h1, frr_all m1_ g2, Or.inr ⟨?_, r_⟩⟩
      unfold rwf
      rw [ee]
