-- ===== a way's digits
def okd (N_ d_ : Nat) : Prop := ¬ d_ = 0 ∧ d_ ≤ N_
def aok (N_ n_ s_ : Nat) : Prop := ∀ j_, j_ < s_ → okd N_ (n_ / 10 ^ j_ % 10)
def dgl (n_ s_ : Nat) : List Int32 := match s_ with
  | 0 => []
  | s_ + 1 => (Int32.ofNat (n_ / 10 ^ s_ % 10) - 1) :: dgl n_ s_
theorem aok_s {N_ n_ s_ : Nat} : aok N_ n_ (s_ + 1) ↔ (okd N_ (n_ / 10 ^ s_ % 10) ∧ aok N_ n_ s_) := by
  constructor
  · intro H_
    exact ⟨H_ s_ (by omega), fun j_ hj => H_ j_ (by omega)⟩
  · intro H_ j_ hj
    by_cases g_ : j_ = s_
    · rw [g_]
      exact H_.1
    · exact H_.2 j_ (by omega)
theorem rwf_A {N_ n_ : Nat} : ∀ (k_ : Nat) (l : List Int32), ¬ l = [] → ((aok N_ n_ k_ → rwf N_ n_ k_ l = some (l ++ dgl n_ k_)) ∧ (¬ aok N_ n_ k_ → rwf N_ n_ k_ l = none)) := by
  intro k_
  induction k_ with
  | zero =>
    intro l hl
    refine ⟨fun _ => ?_, fun q_ => absurd (fun j_ hj => absurd hj (Nat.not_lt_zero j_)) q_⟩
    show some l = some (l ++ [])
    rw [List.append_nil]
  | succ k_ ih_ =>
    intro l hl
    have e_ : rwf N_ n_ (k_ + 1) l = match rwd N_ (n_ / 10 ^ k_ % 10) l with
      | none => none
      | some l' => rwf N_ n_ k_ l' := rfl
    by_cases z_ : n_ / 10 ^ k_ % 10 = 0
    · have er : rwd N_ (n_ / 10 ^ k_ % 10) l = none := by
        unfold rwd
        rw [if_pos z_, if_neg hl]
      rw [er] at e_
      exact ⟨fun q_ => absurd z_ (aok_s.mp q_).1.1, fun _ => e_⟩
    · by_cases g_ : N_ < n_ / 10 ^ k_ % 10
      · have er : rwd N_ (n_ / 10 ^ k_ % 10) l = none := by
          unfold rwd
          rw [if_neg z_, if_pos g_]
        rw [er] at e_
        exact ⟨fun q_ => absurd (aok_s.mp q_).1.2 (by omega), fun _ => e_⟩
      · have er : rwd N_ (n_ / 10 ^ k_ % 10) l = some (l ++ [Int32.ofNat (n_ / 10 ^ k_ % 10) - 1]) := by
          unfold rwd
          rw [if_neg z_, if_neg g_]
        rw [er] at e_
        obtain ⟨i1_, i2_⟩ := ih_ (l ++ [Int32.ofNat (n_ / 10 ^ k_ % 10) - 1]) (fun q_ => by cases (List.append_eq_nil_iff.mp q_).2)
        refine ⟨fun q_ => ?_, fun q_ => ?_⟩
        · rw [e_]
          show rwf N_ n_ k_ (l ++ [Int32.ofNat (n_ / 10 ^ k_ % 10) - 1]) = _
          rw [i1_ (aok_s.mp q_).2, List.append_assoc]
          rfl
        · rw [e_]
          exact i2_ (fun u_ => q_ (aok_s.mpr ⟨⟨z_, by omega⟩, u_⟩))
theorem wlf_ok : ∀ {f_ m_ : Nat}, m_ < 10 ^ f_ → (m_ = 0 → wlf f_ m_ = 0) ∧ (¬ m_ = 0 → ∃ s_, wlf f_ m_ = s_ + 1 ∧ (10 ^ s_ ≤ m_ ∧ m_ < 10 ^ (s_ + 1))) := by
  intro f_
  induction f_ with
  | zero =>
    intro m_ hm_
    have e_ : m_ = 0 := by simpa using hm_
    exact ⟨fun _ => rfl, fun q_ => absurd e_ q_⟩
  | succ f_ ih_ =>
    intro m_ hm_
    refine ⟨fun q_ => by rw [q_]; rfl, fun q_ => ?_⟩
    have e_ : wlf (f_ + 1) m_ = wlf f_ (m_ / 10) + 1 := by
      show (if m_ = 0 then 0 else wlf f_ (m_ / 10) + 1) = _
      rw [if_neg q_]
    have h1 : m_ / 10 < 10 ^ f_ := by rw [Nat.pow_succ] at hm_; omega
    obtain ⟨i1_, i2_⟩ := ih_ h1
    by_cases z_ : m_ / 10 = 0
    · refine ⟨0, by rw [e_, i1_ z_], by show 1 ≤ m_; omega, by show m_ < 10 ^ 1; omega⟩
    · obtain ⟨s_, e1_, e2_, e3_⟩ := i2_ z_
      refine ⟨s_ + 1, by rw [e_, e1_], ?_, ?_⟩
      · rw [Nat.pow_succ]
        omega
      · rw [Nat.pow_succ] at e3_ ⊢
        rw [Nat.pow_succ]
        omega
theorem rwf_B {N_ n_ s_ : Nat} (h1 : n_ < 10 ^ s_) : ∀ k_, s_ ≤ k_ → rwf N_ n_ k_ [] = rwf N_ n_ s_ [] := by
  intro k_
  induction k_ with
  | zero => intro hk; rw [show s_ = 0 by omega]
  | succ k_ ih_ =>
    intro hk
    by_cases g_ : s_ = k_ + 1
    · rw [g_]
    · have lt_ : n_ < 10 ^ k_ := Nat.lt_of_lt_of_le h1 (Nat.pow_le_pow_right (by omega) (by omega))
      have z_ : n_ / 10 ^ k_ % 10 = 0 := by rw [Nat.div_eq_of_lt lt_]
      have er : rwd N_ (n_ / 10 ^ k_ % 10) [] = some [] := by
        unfold rwd
        rw [if_pos z_, if_pos rfl]
      have e_ : rwf N_ n_ (k_ + 1) [] = match rwd N_ (n_ / 10 ^ k_ % 10) [] with
        | none => none
        | some l' => rwf N_ n_ k_ l' := rfl
      rw [er] at e_
      exact e_.trans (ih_ (by omega))
/-- readWay by digits -/
theorem rwf_dg {N_ n_ : Nat} (hn : n_ ≤ 9999) : (aok N_ n_ (wln n_) → rwf N_ n_ 4 [] = some (dgl n_ (wln n_))) ∧ (¬ aok N_ n_ (wln n_) → rwf N_ n_ 4 [] = none) := by
  obtain ⟨w1_, w2_⟩ := wlf_ok (f_ := 5) (m_ := n_) (by show n_ < 100000; omega)
  by_cases z_ : n_ = 0
  · have e_ : wln n_ = 0 := w1_ z_
    rw [e_]
    have e2_ := rwf_B (N_ := N_) (n_ := n_) (s_ := 0) (by show n_ < 1; omega) 4 (by omega)
    exact ⟨fun _ => e2_, fun q_ => absurd (fun j_ hj => absurd hj (Nat.not_lt_zero j_)) q_⟩
  · obtain ⟨s_, e1_, e2_, e3_⟩ := w2_ z_
    have e1' : wln n_ = s_ + 1 := e1_
    have hs : s_ + 1 ≤ 4 := by
      by_cases g_ : s_ + 1 ≤ 4
      · exact g_
      · have k_ : 10 ^ 4 ≤ 10 ^ s_ := Nat.pow_le_pow_right (by omega) (by omega)
        have k2_ : (10000 : Nat) ≤ 10 ^ s_ := k_
        omega
    rw [e1', rwf_B e3_ 4 hs]
    have e_ : rwf N_ n_ (s_ + 1) [] = match rwd N_ (n_ / 10 ^ s_ % 10) [] with
      | none => none
      | some l' => rwf N_ n_ s_ l' := rfl
    have hd_ : n_ / 10 ^ s_ < 10 := Nat.div_lt_of_lt_mul (by rw [Nat.pow_succ] at e3_; exact e3_)
    have hd1 : 1 ≤ n_ / 10 ^ s_ := (Nat.le_div_iff_mul_le (Nat.one_le_pow _ _ (by omega))).mpr (by omega)
    have nz : ¬ n_ / 10 ^ s_ % 10 = 0 := by omega
    by_cases g_ : N_ < n_ / 10 ^ s_ % 10
    · have er : rwd N_ (n_ / 10 ^ s_ % 10) [] = none := by
        unfold rwd
        rw [if_neg nz, if_pos g_]
      rw [er] at e_
      exact ⟨fun q_ => absurd (aok_s.mp q_).1.2 (by omega), fun _ => e_⟩
    · have er : rwd N_ (n_ / 10 ^ s_ % 10) [] = some ([] ++ [Int32.ofNat (n_ / 10 ^ s_ % 10) - 1]) := by
        unfold rwd
        rw [if_neg nz, if_neg g_]
      rw [er] at e_
      obtain ⟨i1_, i2_⟩ := rwf_A (N_ := N_) (n_ := n_) s_ ([] ++ [Int32.ofNat (n_ / 10 ^ s_ % 10) - 1]) (fun q_ => by cases (List.append_eq_nil_iff.mp q_).2)
      exact ⟨fun q_ => e_.trans (i1_ (aok_s.mp q_).2), fun q_ => e_.trans (i2_ (fun u_ => q_ (aok_s.mpr ⟨⟨nz, by omega⟩, u_⟩)))⟩
theorem dgl_len {n_ : Nat} : ∀ {s_ : Nat}, (dgl n_ s_).length = s_ := by
  intro s_
  induction s_ with
  | zero => rfl
  | succ s_ ih_ => show (dgl n_ s_).length + 1 = s_ + 1; rw [ih_]
theorem dgl_at {n_ : Nat} : ∀ {s_ i_ : Nat}, i_ < s_ → (dgl n_ s_)[i_]? = some (Int32.ofNat (n_ / 10 ^ (s_ - 1 - i_) % 10) - 1) := by
  intro s_
  induction s_ with
  | zero => intro i_ hi_; omega
  | succ s_ ih_ =>
    intro i_ hi_
    cases i_ with
    | zero => rfl
    | succ i_ =>
      show (dgl n_ s_)[i_]? = _
      rw [ih_ (by omega), show s_ + 1 - 1 - (i_ + 1) = s_ - 1 - i_ by omega]
theorem rdv_eq : ∀ {t_ m_ : Nat}, rdv t_ m_ = m_ / 10 ^ t_ := by
  intro t_
  induction t_ with
  | zero => intro m_; show m_ = m_ / 1; omega
  | succ t_ ih_ =>
    intro m_
    show rdv t_ (m_ / 10) = _
    rw [ih_, Nat.div_div_eq_div_mul, Nat.pow_succ, Nat.mul_comm]
theorem dgl_dgt {n_ i_ : Nat} (hi_ : i_ < wln n_) : (dgl n_ (wln n_))[i_]? = some (Int32.ofNat (dgt n_ i_) - 1) := by
  rw [dgl_at hi_]
  unfold dgt
  rw [rdv_eq]
