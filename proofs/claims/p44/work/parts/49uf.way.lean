-- ===== isWay, the reference
def frn (h_ h' : xH) : Prop := ysm h_ h' ∧ ∀ c_ j_, bpat h' c_ j_ = bpat h_ c_ j_
theorem frn_tr {x_ y_ z_ : xH} (h1 : frn x_ y_) (h2 : frn y_ z_) : frn x_ z_ := ⟨ysm_tr h1.1 h2.1, fun c_ j_ => (h2.2 c_ j_).trans (h1.2 c_ j_)⟩
theorem aok_l {N_ m_ s_ : Nat} : aok N_ m_ (s_ + 1) ↔ (okd N_ (m_ % 10) ∧ aok N_ (m_ / 10) s_) := by
  have e_ : ∀ j_, m_ / 10 / 10 ^ j_ = m_ / 10 ^ (j_ + 1) := fun j_ => by rw [Nat.div_div_eq_div_mul, Nat.pow_succ, Nat.mul_comm]
  constructor
  · intro H_
    refine ⟨?_, fun j_ hj => ?_⟩
    · have k_ := H_ 0 (by omega)
      rw [Nat.pow_zero, Nat.div_one] at k_
      exact k_
    · rw [e_]
      exact H_ (j_ + 1) (by omega)
  · intro H_ j_ hj
    cases j_ with
    | zero =>
      rw [Nat.pow_zero, Nat.div_one]
      exact H_.1
    | succ j_ =>
      rw [← e_]
      exact H_.2 j_ (by omega)
theorem iw_lp {N_ : Nat} (hN_ : N_ ≤ 8) {u_ : Int32} : ∀ (f_ m_ : Nat) (h_ : xH), m_ < 10 ^ f_ → m_ ≤ 9999 → sHp h_ → bpat h_ 339 1 = some (.int (Int32.ofNat N_)) → ∃ h', frn h_ h' ∧ ((aok N_ m_ (wlf f_ m_) ∧ ∀ D_, 60 ≤ D_ → xrun D_ 152 11 [(3, .int (Int32.ofNat m_)), (2, .int 1), (0, .index 338), (1, .int u_)] [] h_ (some (.int 1), h', [])) ∨ (¬ aok N_ m_ (wlf f_ m_) ∧ ∀ D_, 60 ≤ D_ → xrun D_ 152 11 [(3, .int (Int32.ofNat m_)), (2, .int 1), (0, .index 338), (1, .int u_)] [] h_ (some (.int 0), h', []))) := by
  intro f_
  induction f_ with
  | zero =>
    intro m_ h_ hm_ hm2 hs ho
    have e_ : m_ = 0 := by simpa using hm_
    subst e_
    obtain ⟨h1, m1_, f1_, r1_⟩ := xiw (v1_ := u_) (v3 := Int32.ofNat 0) hs (by decide)
    exact ⟨h1, ⟨m1_, f1_⟩, Or.inl ⟨fun j_ hj => absurd hj (Nat.not_lt_zero j_), r1_⟩⟩
  | succ f_ ih_ =>
    intro m_ h_ hm_ hm2 hs ho
    by_cases z_ : m_ = 0
    · subst z_
      obtain ⟨h1, m1_, f1_, r1_⟩ := xiw (v1_ := u_) (v3 := Int32.ofNat 0) hs (by decide)
      exact ⟨h1, ⟨m1_, f1_⟩, Or.inl ⟨fun j_ hj => absurd hj (Nat.not_lt_zero j_), r1_⟩⟩
    · have z0 : (0 : Int32).toInt = 0 := rfl
      have ew : wlf (f_ + 1) m_ = wlf f_ (m_ / 10) + 1 := by
        show (if m_ = 0 then 0 else wlf f_ (m_ / 10) + 1) = _
        rw [if_neg z_]
      rw [ew]
      have hd10 : m_ % 10 < 10 := Nat.mod_lt _ (by omega)
      have ed : Int32.ofNat m_ / (10 : Int32) = Int32.ofNat (m_ / 10) := i32d (k_ := 10) (by omega) (by omega) (by omega)
      have eg : Int32.ofNat m_ - Int32.ofNat m_ / (10 : Int32) * (10 : Int32) = Int32.ofNat (m_ % 10) := i32r (k_ := 10) (by omega) (by omega) (by omega)
      obtain ⟨h1, m1_, e_⟩ := tiw (v1_ := u_) (v3 := Int32.ofNat m_) hs ho (by rw [i32n (by omega)]; omega)
      rw [eg, ed] at e_
      have et : ∀ n_ : Nat, n_ ≤ 10 → (Int32.ofNat n_ - 1).toInt = (n_ : Int) - 1 := by
        intro n_ hn
        have k_ : (List.range 11).all (fun n_ => decide ((Int32.ofNat n_ - 1).toInt = (n_ : Int) - 1)) = true := by decide +kernel
        exact of_decide_eq_true (List.all_eq_true.mp k_ n_ (List.mem_range.mpr (by omega)))
      rw [et (m_ % 10) (by omega), et N_ (by omega)] at e_
      have dn : ∀ h1 : xH, sHp h1 → ∃ h2, frn h1 h2 ∧ ∀ D_, 60 ≤ D_ → xrun D_ 152 11 [(3, .int (Int32.ofNat (m_ / 10))), (2, .int 0), (0, .index 338), (1, .int u_)] [] h1 (some (.int 0), h2, []) := by
        intro h1 hs1
        obtain ⟨h2, m2_, e_⟩ := yiw (v1_ := u_) (v3 := Int32.ofNat (m_ / 10)) hs1
        rcases e_ with ⟨_, f2_, r2⟩ | ⟨_, f2_, r2⟩
        · exact ⟨h2, ⟨m2_, f2_⟩, r2⟩
        · exact ⟨h2, ⟨m2_, f2_⟩, r2⟩
      rcases e_ with ⟨g0, f1_, ld⟩ | ⟨g0, g1, f1_, ld⟩ | ⟨g0, g1, f1_, ld⟩
      · obtain ⟨h2, F2, r2⟩ := dn h1 m1_.1
        exact ⟨h2, frn_tr ⟨m1_, f1_⟩ F2, Or.inr ⟨fun q_ => by have k_ := (aok_l.mp q_).1.1; omega, fun D_ hD => ld D_ hD _ (r2 D_ hD)⟩⟩
      · obtain ⟨h2, F2, r2⟩ := dn h1 m1_.1
        exact ⟨h2, frn_tr ⟨m1_, f1_⟩ F2, Or.inr ⟨fun q_ => by have k_ := (aok_l.mp q_).1.2; omega, fun D_ hD => ld D_ hD _ (r2 D_ hD)⟩⟩
      · obtain ⟨h2, F2, e_⟩ := ih_ (m_ / 10) h1 (by rw [Nat.pow_succ] at hm_; omega) (by omega) m1_.1 ((f1_ _ _).trans ho)
        refine ⟨h2, frn_tr ⟨m1_, f1_⟩ F2, ?_⟩
        have ok_ : okd N_ (m_ % 10) := ⟨by omega, by omega⟩
        rcases e_ with ⟨e1_, r2⟩ | ⟨e1_, r2⟩
        · exact Or.inl ⟨aok_l.mpr ⟨ok_, e1_⟩, fun D_ hD => ld D_ hD _ (r2 D_ hD)⟩
        · exact Or.inr ⟨fun q_ => e1_ (aok_l.mp q_).2, fun D_ hD => ld D_ hD _ (r2 D_ hD)⟩
/-- a WAY, of ROCKS that there are -/
def isW (N_ : Nat) (w_ : Int32) : Prop := (0 ≤ w_.toInt ∧ w_.toInt ≤ 9999) ∧ aok N_ w_.toInt.toNat (wln w_.toInt.toNat)
theorem isM {N_ : Nat} {w_ : Int32} {h_ : xH} (hN_ : N_ ≤ 8) (hs : sHp h_) (ho : bpat h_ 339 1 = some (.int (Int32.ofNat N_))) : ∃ h', frn h_ h' ∧ ((isW N_ w_ ∧ ∀ D_, 60 ≤ D_ → xrun D_ 152 0 [(0, .index 338), (1, .int w_)] [] h_ (some (.int 1), h', [])) ∨ (¬ isW N_ w_ ∧ ∀ D_, 60 ≤ D_ → xrun D_ 152 0 [(0, .index 338), (1, .int w_)] [] h_ (some (.int 0), h', []))) := by
  have z0 : (0 : Int32).toInt = 0 := rfl
  have z9 : (9999 : Int32).toInt = 9999 := rfl
  obtain ⟨h1, m1_, e_⟩ := eiw (v1_ := w_) hs
  have dn : ∃ h2, frn h1 h2 ∧ ∀ D_, 60 ≤ D_ → xrun D_ 152 11 [(3, .int w_), (2, .int 0), (0, .index 338), (1, .int w_)] [] h1 (some (.int 0), h2, []) := by
    obtain ⟨h2, m2_, e_⟩ := yiw (v1_ := w_) (v3 := w_) m1_.1
    rcases e_ with ⟨_, f2_, r2⟩ | ⟨_, f2_, r2⟩
    · exact ⟨h2, ⟨m2_, f2_⟩, r2⟩
    · exact ⟨h2, ⟨m2_, f2_⟩, r2⟩
  rcases e_ with ⟨g0, f1_, ld⟩ | ⟨g0, g1, f1_, ld⟩ | ⟨g0, g1, f1_, ld⟩
  · obtain ⟨h2, F2, r2⟩ := dn
    exact ⟨h2, frn_tr ⟨m1_, f1_⟩ F2, Or.inr ⟨fun q_ => by have k_ := q_.1.1; omega, fun D_ hD => ld D_ hD _ (r2 D_ hD)⟩⟩
  · obtain ⟨h2, F2, r2⟩ := dn
    exact ⟨h2, frn_tr ⟨m1_, f1_⟩ F2, Or.inr ⟨fun q_ => by have k_ := q_.1.2; omega, fun D_ hD => ld D_ hD _ (r2 D_ hD)⟩⟩
  · have ew : w_ = Int32.ofNat w_.toInt.toNat := by
      refine Int32.toInt_inj.mp ?_
      rw [i32n (by omega)]
      omega
    obtain ⟨h2, F2, e_⟩ := iw_lp (u_ := w_) hN_ 5 w_.toInt.toNat h1 (by show w_.toInt.toNat < 100000; omega) (by omega) m1_.1 ((f1_ _ _).trans ho)
    rw [← ew] at e_
    refine ⟨h2, frn_tr ⟨m1_, f1_⟩ F2, ?_⟩
    rcases e_ with ⟨e1_, r2⟩ | ⟨e1_, r2⟩
    · exact Or.inl ⟨⟨⟨by omega, by omega⟩, e1_⟩, fun D_ hD => ld D_ hD _ (r2 D_ hD)⟩
    · exact Or.inr ⟨fun q_ => e1_ q_.2, fun D_ hD => ld D_ hD _ (r2 D_ hD)⟩
/-- readWay, the class -/
theorem rdW {a_ b_ N_ : Nat} {w_ : Int32} {h_ : xH} (hN_ : N_ ≤ 8) (hs : sHp h_) (ka : bcq h_ a_ 6 2) (kb : bcq h_ b_ 20 4) (oa : bpat h_ a_ 0 = some (.index b_)) (ho : bpat h_ 1 10 = some (.int (Int32.ofNat N_))) : ∃ h', frr a_ b_ h_ h' ∧ ((isW N_ w_ ∧ (rw4 a_ b_ N_ h' (dgl w_.toInt.toNat (wln w_.toInt.toNat)) ∧ ∀ D_, 60 ≤ D_ → xrun D_ 65 0 [(0, .index 1), (1, .int w_), (2, .index a_)] [] h_ (some (.int 1), h', []))) ∨ (¬ isW N_ w_ ∧ ∀ D_, 60 ≤ D_ → xrun D_ 65 0 [(0, .index 1), (1, .int w_), (2, .index a_)] [] h_ (some (.int 0), h', []))) := by
  have z0 : (0 : Int32).toInt = 0 := rfl
  have z9 : (9999 : Int32).toInt = 9999 := rfl
  have nb : ¬ a_ = b_ := bcq_ne ka kb (by decide)
  obtain ⟨h1, m1_, e_⟩ := erw (v1_ := w_) hs ka kb
  rcases e_ with ⟨g0, g1, e1_, f1_, ld⟩ | ⟨g0, e1_, f1_, r_⟩ | ⟨g0, g1, e1_, f1_, r_⟩
  · have ew : w_ = Int32.ofNat w_.toInt.toNat := by
      refine Int32.toInt_inj.mp ?_
      rw [i32n (by omega)]
      omega
    have n1_ : ¬ 1 = a_ := bcq_ne (bcq_of (n_ := 1) (z_ := (10, 15)) hs rfl) ka (by decide)
    have R_ : rw4 a_ b_ N_ h1 [] := ⟨m1_.1, ⟨⟨m1_.2 _ _ _ ka, m1_.2 _ _ _ kb⟩, ⟨(f1_ a_ 0 (fun q_ => by cases q_.2)).trans oa, e1_⟩, by show 0 ≤ 4; omega, fun j_ x_ hx => by cases hx⟩, (f1_ 1 10 (fun q_ => n1_ q_.1)).trans ho⟩
    have H_ : tRW_hd a_ (Int32.ofNat w_.toInt.toNat) (Int32.ofNat (utf 4)) [(3, .int (1000 : Int32)), (0, .index 1), (1, .int w_), (2, .index a_)] := Or.inl (by rw [← ew]; rfl)
    obtain ⟨h2, F2, e_⟩ := rw_lp (n_ := w_.toInt.toNat) (by omega) hN_ 4 [] h1 _ (by omega) (by show 0 + 4 ≤ 4; omega) R_ H_
    have fr_ : frr a_ b_ h_ h1 := ⟨m1_, fun c_ j_ q_ _ => f1_ c_ j_ (fun u_ => q_ u_.1)⟩
    refine ⟨h2, frr_tr fr_ F2, ?_⟩
    obtain ⟨i1_, i2_⟩ := rwf_dg (N_ := N_) (n_ := w_.toInt.toNat) (by omega)
    by_cases g_ : aok N_ w_.toInt.toNat (wln w_.toInt.toNat)
    · rcases e_ with ⟨l', x1_, x2_, x3⟩ | ⟨x1_, x3⟩
      · rw [i1_ g_] at x1_
        cases x1_
        exact Or.inl ⟨⟨⟨by omega, by omega⟩, g_⟩, x2_, fun D_ hD => ld D_ hD _ (x3 D_ hD)⟩
      · rw [i1_ g_] at x1_
        cases x1_
    · rcases e_ with ⟨l', x1_, x2_, x3⟩ | ⟨x1_, x3⟩
      · rw [i2_ g_] at x1_
        cases x1_
      · exact Or.inr ⟨fun q_ => g_ q_.2, fun D_ hD => ld D_ hD _ (x3 D_ hD)⟩
  · exact ⟨h1, ⟨m1_, fun c_ j_ q_ _ => f1_ c_ j_ (fun u_ => q_ u_.1)⟩, Or.inr ⟨fun q_ => by have k_ := q_.1.1; omega, r_⟩⟩
  · exact ⟨h1, ⟨m1_, fun c_ j_ q_ _ => f1_ c_ j_ (fun u_ => q_ u_.1)⟩, Or.inr ⟨fun q_ => by have k_ := q_.1.2; omega, r_⟩⟩
