theorem wo_k2 : [0, 73].all (fun o => (List.range 12).all (fun c_ => decide (fxk fxl (34 + o + 2 * c_) 0 = some (35 + o + 2 * c_))) && ((List.range 2).all (fun u_ => decide (fxk fxl (67 + o + 4 * u_) 0 = some (68 + o + 4 * u_))) && (List.range 8).all (fun i_ => decide (fxk fxl (17 + o + 2 * i_) 0 = some (18 + o + 2 * i_))))) = true := by decide +kernel
section
variable {h_ : xH} {o_ : Nat}
theorem wo_rr (hs : sHp h_) (ho : wo_ o_) {c_ : Nat} (hc_ : c_ < 12) : bpat h_ (34 + o_ + 2 * c_) 0 = some (.index (35 + o_ + 2 * c_)) := by
  have k_ := wo_k2
  simp only [List.all_cons, List.all_nil, Bool.and_eq_true] at k_
  have q_ : (List.range 12).all (fun c_ => decide (fxk fxl (34 + o_ + 2 * c_) 0 = some (35 + o_ + 2 * c_))) = true := by
    rcases ho with rfl | rfl
    · exact k_.1.1
    · exact k_.2.1.1
  exact fxr_at hs.2 (of_decide_eq_true (List.all_eq_true.mp q_ c_ (List.mem_range.mpr hc_)))
theorem wo_tt (hs : sHp h_) (ho : wo_ o_) {u_ : Nat} (hu : u_ < 2) : bpat h_ (67 + o_ + 4 * u_) 0 = some (.index (68 + o_ + 4 * u_)) := by
  have k_ := wo_k2
  simp only [List.all_cons, List.all_nil, Bool.and_eq_true] at k_
  have q_ : (List.range 2).all (fun u_ => decide (fxk fxl (67 + o_ + 4 * u_) 0 = some (68 + o_ + 4 * u_))) = true := by
    rcases ho with rfl | rfl
    · exact k_.1.2.1
    · exact k_.2.1.2.1
  exact fxr_at hs.2 (of_decide_eq_true (List.all_eq_true.mp q_ u_ (List.mem_range.mpr hu)))
theorem wo_jj (hs : sHp h_) (ho : wo_ o_) {i_ : Nat} (hi_ : i_ < 8) : bpat h_ (17 + o_ + 2 * i_) 0 = some (.index (18 + o_ + 2 * i_)) := by
  have k_ := wo_k2
  simp only [List.all_cons, List.all_nil, Bool.and_eq_true] at k_
  have q_ : (List.range 8).all (fun i_ => decide (fxk fxl (17 + o_ + 2 * i_) 0 = some (18 + o_ + 2 * i_))) = true := by
    rcases ho with rfl | rfl
    · exact k_.1.2.2
    · exact k_.2.1.2.2
  exact fxr_at hs.2 (of_decide_eq_true (List.all_eq_true.mp q_ i_ (List.mem_range.mpr hi_)))
end
theorem wvX_s : wvX.all (fun p_ => decide (p_ = ((1, 9), 0)) || (decide (p_ = ((1, 10), 1)) || (decide (p_ = ((1, 12), 3)) || (decide (p_ = ((1, 13), 4)) || (List.range 8).any (fun k_ => (List.range 3).any (fun j_ => decide (p_ = ((58 + k_, j_), 10 + 3 * k_ + j_)))))))) = true := by decide +kernel
theorem wrX_s : wrX.all (fun p_ => decide (p_ = (5, 6, 60, 20)) || (decide (p_ = (7, 8, 24, 21)) || (decide (p_ = (67, 68, 60, 23)) || (decide (p_ = (71, 72, 60, 24)) || (List.range 12).any (fun c_ => decide (p_ = (34 + 2 * c_, 35 + 2 * c_, 12, c_))))))) = true := by decide +kernel
-- ===== i: rows, ROCKS, TEXTS
theorem w1_i {W_ : Nat → List Int32} : ∀ (r_ i_ : Nat) (h_ : xH), i_ + r_ = 12 → sHp h_ → (∀ c_, c_ < 12 → rwx h_ (34 + 0 + 2 * c_) (35 + 0 + 2 * c_) 12 (W_ c_)) → (∀ c_, c_ < i_ → rwx h_ (34 + 73 + 2 * c_) (35 + 73 + 2 * c_) 12 (W_ c_)) → ∃ h', (∀ c_, c_ < 12 → rwx h' (34 + 73 + 2 * c_) (35 + 73 + 2 * c_) 12 (W_ c_)) ∧ ysm h_ h' ∧ (∀ c_ j_, ¬ (34 + 73 ≤ c_ ∧ c_ ≤ 57 + 73) → bpat h' c_ j_ = bpat h_ c_ j_) ∧ bldD 61 63 2 [(2, .int (Int32.ofNat i_)), (0, .index 74), (1, .index 1)] [] h_ 34 [(2, .int (Int32.ofNat 0)), (0, .index 74), (1, .index 1)] [] h' := by
  have z12 := i12_
  intro r_
  induction r_ with
  | zero =>
    intro i_ h_ hi_ hs P_ Q_
    obtain ⟨h1, m1_, f1_, ld⟩ := wciC (v2 := Int32.ofNat i_) hs (by rw [i32n (by omega)]; omega)
    exact ⟨h1, fun c_ hc_ => rwx_keep (Q_ c_ (by omega)) m1_ (fun c_ j_ _ => f1_ c_ j_), m1_, fun c_ j_ _ => f1_ c_ j_, fun D_ hD => ld D_ (by omega)⟩
  | succ r_ ih_ =>
    intro i_ h_ hi_ hs P_ Q_
    obtain ⟨s1_, s2_, s3_⟩ := wo_c (c_ := i_) hs (Or.inl rfl : wo_ 0) (by omega)
    obtain ⟨t1_, t2_, t3_⟩ := wo_c (c_ := i_) hs (Or.inr rfl : wo_ 73) (by omega)
    obtain ⟨h1, m1_, f1_, ld1⟩ := wciA (v2 := Int32.ofNat i_) hs t2_ s2_ (by rw [i32t (by omega)]; exact t1_) (by rw [i32t (by omega)]; exact s1_) ⟨by rw [i32n (by omega)]; omega, by rw [i32n (by omega)]; omega⟩ (by rw [i32n (by omega)]; omega)
    have R_ := P_ i_ (by omega)
    obtain ⟨h2, S2, R2, m2_, f2_, r2⟩ := copyFrom12 m1_.1 (m1_.2 _ _ _ t2_) (m1_.2 _ _ _ t3_) ((f1_ _ _).trans (wo_rr (c_ := i_) hs (Or.inr rfl : wo_ 73) (by omega))) R_.2.2.1 (rwx_keep R_ m1_ (fun c_ j_ _ => f1_ c_ j_))
    have ld2 := ycv (mi := 63) (pc := 23) (lo_ := [(2, .int (Int32.ofNat i_)), (0, .index 74), (1, .index 1)]) (st_ := [.index (34 + 0 + 2 * i_), .index (34 + 73 + 2 * i_)]) (as_ := [.index (34 + 0 + 2 * i_)]) (s' := []) rfl rfl (m1_.2 _ _ _ t2_) rfl (xcc_l (List.forall_mem_cons.mpr ⟨rfl, List.forall_mem_cons.mpr ⟨xidx_i (bcq_lt (bcq_of (n_ := 74) (z_ := (10, 15)) m1_.1 rfl)), List.forall_mem_cons.mpr ⟨xidx_i (bcq_lt (bcq_of (n_ := 1) (z_ := (10, 15)) m1_.1 rfl)), fun q_ hq => absurd hq List.not_mem_nil⟩⟩⟩) (fun t_ ht => absurd ht List.not_mem_nil) (Nat.le_of_ble_eq_true rfl)) r2
    obtain ⟨h3, m3_, f3_, ld3⟩ := wciB (v2 := Int32.ofNat i_) S2
    rw [i32s] at ld3
    have M_ := ysm_tr m1_ (ysm_tr m2_ m3_)
    have F_ : ∀ c_ j_, ¬ c_ = 34 + 73 + 2 * i_ → ¬ c_ = 35 + 73 + 2 * i_ → bpat h3 c_ j_ = bpat h_ c_ j_ := fun c_ j_ n1_ n2_ => (f3_ c_ j_).trans ((f2_ c_ j_ n1_ n2_).trans (f1_ c_ j_))
    obtain ⟨h4, Q4, m4_, f4_, ld4⟩ := ih_ (i_ + 1) h3 (by omega) m3_.1 (fun c_ hc_ => rwx_keep (P_ c_ hc_) M_ (fun c2_ j_ hc2 => F_ c2_ j_ (by omega) (by omega))) (fun c_ hc_ => by
      by_cases g_ : c_ = i_
      · subst g_
        exact rwx_keep R2 m3_ (fun c2_ j_ _ => f3_ c2_ j_)
      · exact rwx_keep (Q_ c_ (by omega)) M_ (fun c2_ j_ hc2 => F_ c2_ j_ (by omega) (by omega)))
    exact ⟨h4, Q4, ysm_tr M_ m4_, fun c_ j_ n1_ => (f4_ c_ j_ n1_).trans (F_ c_ j_ (by omega) (by omega)), fun D_ hD o H_ => ld1 D_ (by omega) _ (ld2 D_ (by omega) _ (ld3 D_ (by omega) _ (ld4 D_ hD o H_)))⟩
theorem w2_i {R_ : Nat → Nat → Int32} : ∀ (r_ i_ : Nat) (h_ : xH), i_ + r_ = 8 → sHp h_ → (∀ k_, k_ < 8 → ∀ j_, j_ < 3 → bpat h_ (58 + 0 + k_) j_ = some (.int (R_ k_ j_))) → (∀ k_, k_ < i_ → ∀ j_, j_ < 3 → bpat h_ (58 + 73 + k_) j_ = some (.int (R_ k_ j_))) → ∃ h', (∀ k_, k_ < 8 → ∀ j_, j_ < 3 → bpat h' (58 + 73 + k_) j_ = some (.int (R_ k_ j_))) ∧ ysm h_ h' ∧ (∀ c_ j_, ¬ (58 + 73 ≤ c_ ∧ c_ ≤ 65 + 73) → bpat h' c_ j_ = bpat h_ c_ j_) ∧ bldD 61 63 34 [(2, .int (Int32.ofNat i_)), (0, .index 74), (1, .index 1)] [] h_ 66 [(2, .int (Int32.ofNat 0)), (0, .index 74), (1, .index 1)] [] h' := by
  have z8 := i8_
  intro r_
  induction r_ with
  | zero =>
    intro i_ h_ hi_ hs P_ Q_
    obtain ⟨h1, m1_, f1_, ld⟩ := wriC (v2 := Int32.ofNat i_) hs (by rw [i32n (by omega)]; omega)
    exact ⟨h1, fun k_ hk j_ hj => (f1_ _ _).trans (Q_ k_ (by omega) j_ hj), m1_, fun c_ j_ _ => f1_ c_ j_, fun D_ hD => ld D_ (by omega)⟩
  | succ r_ ih_ =>
    intro i_ h_ hi_ hs P_ Q_
    obtain ⟨s1_, s2_⟩ := wo_r (k_ := i_) hs (Or.inl rfl : wo_ 0) (by omega)
    obtain ⟨t1_, t2_⟩ := wo_r (k_ := i_) hs (Or.inr rfl : wo_ 73) (by omega)
    obtain ⟨h1, m1_, e2_, e1_, e0_, f1_, ld1⟩ := wriA (v2 := Int32.ofNat i_) hs t2_ s2_ (by rw [i32t (by omega)]; exact t1_) (by rw [i32t (by omega)]; exact s1_) (P_ i_ (by omega) 0 (by omega)) (P_ i_ (by omega) 1 (by omega)) (P_ i_ (by omega) 2 (by omega)) ⟨by rw [i32n (by omega)]; omega, by rw [i32n (by omega)]; omega⟩ (by omega) (by rw [i32n (by omega)]; omega)
    rw [i32s] at ld1
    have F_ : ∀ c_ j_, ¬ c_ = 58 + 73 + i_ → bpat h1 c_ j_ = bpat h_ c_ j_ := fun c_ j_ n1_ => f1_ c_ j_ (fun q_ => n1_ q_.1) (fun q_ => n1_ q_.1) (fun q_ => n1_ q_.1)
    obtain ⟨h4, Q4, m4_, f4_, ld4⟩ := ih_ (i_ + 1) h1 (by omega) m1_.1 (fun k_ hk j_ hj => (F_ _ _ (by omega)).trans (P_ k_ hk j_ hj)) (fun k_ hk j_ hj => by
      by_cases g_ : k_ = i_
      · subst g_
        have j3_ : j_ = 0 ∨ (j_ = 1 ∨ j_ = 2) := by omega
        rcases j3_ with rfl | rfl | rfl
        · exact e0_
        · exact e1_
        · exact e2_
      · exact (F_ _ _ (by omega)).trans (Q_ k_ (by omega) j_ hj))
    exact ⟨h4, Q4, ysm_tr m1_ m4_, fun c_ j_ n1_ => (f4_ c_ j_ n1_).trans (F_ c_ j_ (by omega)), fun D_ hD o H_ => ld1 D_ (by omega) _ (ld4 D_ hD o H_)⟩
theorem w3_i {X_ : Nat → List Int32} : ∀ (r_ i_ : Nat) (h_ : xH), i_ + r_ = 2 → sHp h_ → (∀ u_, u_ < 2 → rwx h_ (67 + 0 + 4 * u_) (68 + 0 + 4 * u_) 60 (X_ u_)) → (∀ u_, u_ < i_ → rwx h_ (67 + 73 + 4 * u_) (68 + 73 + 4 * u_) 60 (X_ u_)) → ∃ h' y_, (∀ u_, u_ < 2 → rwx h' (67 + 73 + 4 * u_) (68 + 73 + 4 * u_) 60 (X_ u_)) ∧ ysm h_ h' ∧ (∀ c_ j_, ¬ (66 + 73 ≤ c_ ∧ c_ ≤ 73 + 73) → bpat h' c_ j_ = bpat h_ c_ j_) ∧ bldD 61 63 66 [(2, .int (Int32.ofNat i_)), (0, .index 74), (1, .index 1)] [] h_ 110 [(2, .int y_), (0, .index 74), (1, .index 1)] [.index 5, .index 78] h' := by
  have z2 := i2_
  intro r_
  induction r_ with
  | zero =>
    intro i_ h_ hi_ hs P_ Q_
    obtain ⟨h1, m1_, f1_, ld⟩ := wtiC (v2 := Int32.ofNat i_) hs (by rw [i32n (by omega)]; omega)
    exact ⟨h1, _, fun u_ hu => rwx_keep (Q_ u_ (by omega)) m1_ (fun c_ j_ _ => f1_ c_ j_), m1_, fun c_ j_ _ => f1_ c_ j_, fun D_ hD => ld D_ (by omega)⟩
  | succ r_ ih_ =>
    intro i_ h_ hi_ hs P_ Q_
    obtain ⟨⟨s1_, s2_⟩, s3_, s4_, s5⟩ := wo_t (u_ := i_) hs (Or.inl rfl : wo_ 0) (by omega)
    obtain ⟨⟨t1_, t2_⟩, t3_, t4_, t5_⟩ := wo_t (u_ := i_) hs (Or.inr rfl : wo_ 73) (by omega)
    obtain ⟨h1, m1_, f1_, ld1⟩ := wtiA (v2 := Int32.ofNat i_) hs t3_ s3_ t4_ s4_ (by rw [i32t (by omega)]; exact t1_) t2_ (by rw [i32t (by omega)]; exact s1_) s2_ ⟨by rw [i32n (by omega)]; omega, by rw [i32n (by omega)]; omega⟩ (by rw [i32n (by omega)]; omega)
    have R_ := P_ i_ (by omega)
    obtain ⟨h2, S2, R2, m2_, f2_, r2⟩ := copyFrom60 m1_.1 (m1_.2 _ _ _ t4_) (m1_.2 _ _ _ t5_) ((f1_ _ _).trans (wo_tt (u_ := i_) hs (Or.inr rfl : wo_ 73) (by omega))) R_.2.2.1 (rwx_keep R_ m1_ (fun c_ j_ _ => f1_ c_ j_))
    have ld2 := ycv (mi := 63) (pc := 93) (lo_ := [(2, .int (Int32.ofNat i_)), (0, .index 74), (1, .index 1)]) (st_ := [.index (67 + 0 + 4 * i_), .index (67 + 73 + 4 * i_)]) (as_ := [.index (67 + 0 + 4 * i_)]) (s' := []) rfl rfl (m1_.2 _ _ _ t4_) rfl (xcc_l (List.forall_mem_cons.mpr ⟨rfl, List.forall_mem_cons.mpr ⟨xidx_i (bcq_lt (bcq_of (n_ := 74) (z_ := (10, 15)) m1_.1 rfl)), List.forall_mem_cons.mpr ⟨xidx_i (bcq_lt (bcq_of (n_ := 1) (z_ := (10, 15)) m1_.1 rfl)), fun q_ hq => absurd hq List.not_mem_nil⟩⟩⟩) (fun t_ ht => absurd ht List.not_mem_nil) (Nat.le_of_ble_eq_true rfl)) r2
    obtain ⟨h3, m3_, f3_, ld3⟩ := wtiB (v2 := Int32.ofNat i_) S2
    rw [i32s] at ld3
    have M_ := ysm_tr m1_ (ysm_tr m2_ m3_)
    have F_ : ∀ c_ j_, ¬ c_ = 67 + 73 + 4 * i_ → ¬ c_ = 68 + 73 + 4 * i_ → bpat h3 c_ j_ = bpat h_ c_ j_ := fun c_ j_ n1_ n2_ => (f3_ c_ j_).trans ((f2_ c_ j_ n1_ n2_).trans (f1_ c_ j_))
    obtain ⟨h4, y_, Q4, m4_, f4_, ld4⟩ := ih_ (i_ + 1) h3 (by omega) m3_.1 (fun u_ hu => rwx_keep (P_ u_ hu) M_ (fun c2_ j_ hc2 => F_ c2_ j_ (by omega) (by omega))) (fun u_ hu => by
      by_cases g_ : u_ = i_
      · subst g_
        exact rwx_keep R2 m3_ (fun c2_ j_ _ => f3_ c2_ j_)
      · exact rwx_keep (Q_ u_ (by omega)) M_ (fun c2_ j_ hc2 => F_ c2_ j_ (by omega) (by omega)))
    exact ⟨h4, y_, Q4, ysm_tr M_ m4_, fun c_ j_ n1_ => (f4_ c_ j_ n1_).trans (F_ c_ j_ (by omega) (by omega)), fun D_ hD o H_ => ld1 D_ (by omega) _ (ld2 D_ (by omega) _ (ld3 D_ (by omega) _ (ld4 D_ hD o H_)))⟩
theorem w5_i : ∀ (r_ i_ : Nat) (h_ : xH), i_ + r_ = 8 → sHp h_ → (∀ c_, c_ < 8 → ∃ l, rwx h_ (17 + 0 + 2 * c_) (18 + 0 + 2 * c_) 12 l) → (∃ y1 y2 : Int32, bpat h_ 15 1 = some (.int y1) ∧ bpat h_ 15 2 = some (.int y2)) → (bpat h_ 88 0 = some (.index 89) ∧ bpat h_ 15 0 = some (.index 16)) → ∃ h', ysm h_ h' ∧ (∀ c_ j_, ¬ (15 + 73 ≤ c_ ∧ c_ ≤ 32 + 73) → bpat h' c_ j_ = bpat h_ c_ j_) ∧ ∀ D_, 61 ≤ D_ → xrun D_ 14 2 [(2, .int (Int32.ofNat i_)), (0, .index 88), (1, .index 15)] [] h_ (none, h', []) := by
  have z8 := i8_
  intro r_
  induction r_ with
  | zero =>
    intro i_ h_ hi_ hs P_ Q_ ⟨q1_, q2_⟩
    obtain ⟨y1, y2, o1, o2⟩ := Q_
    obtain ⟨h1, m1_, e2_, e1_, f1_, rr⟩ := wjiC (v2 := Int32.ofNat i_) hs q1_ o1 o2 (by rw [i32n (by omega)]; omega)
    exact ⟨h1, m1_, fun c_ j_ n1_ => f1_ c_ j_ (fun q_ => n1_ (by omega)) (fun q_ => n1_ (by omega)), fun D_ hD => rr D_ (by omega)⟩
  | succ r_ ih_ =>
    intro i_ h_ hi_ hs P_ Q_ ⟨q1_, q2_⟩
    obtain ⟨s1_, s2_, s3_⟩ := wo_j (i_ := i_) hs (Or.inl rfl : wo_ 0) (by omega)
    obtain ⟨t1_, t2_, t3_⟩ := wo_j (i_ := i_) hs (Or.inr rfl : wo_ 73) (by omega)
    obtain ⟨h1, m1_, f1_, ld1⟩ := wjiA (v2 := Int32.ofNat i_) hs t2_ s2_ q1_ (by rw [i32t (by omega)]; exact t1_) q2_ (by rw [i32t (by omega)]; exact s1_) ⟨by rw [i32n (by omega)]; omega, by rw [i32n (by omega)]; omega⟩ (by rw [i32n (by omega)]; omega)
    obtain ⟨l, R_⟩ := P_ i_ (by omega)
    obtain ⟨h2, S2, R2, m2_, f2_, r2⟩ := copyFrom12 m1_.1 (m1_.2 _ _ _ t2_) (m1_.2 _ _ _ t3_) ((f1_ _ _).trans (wo_jj (i_ := i_) hs (Or.inr rfl : wo_ 73) (by omega))) R_.2.2.1 (rwx_keep R_ m1_ (fun c_ j_ _ => f1_ c_ j_))
    have ld2 := ycv (mi := 14) (pc := 23) (lo_ := [(2, .int (Int32.ofNat i_)), (0, .index 88), (1, .index 15)]) (st_ := [.index (17 + 0 + 2 * i_), .index (17 + 73 + 2 * i_)]) (as_ := [.index (17 + 0 + 2 * i_)]) (s' := []) rfl rfl (m1_.2 _ _ _ t2_) rfl (xcc_l (List.forall_mem_cons.mpr ⟨rfl, List.forall_mem_cons.mpr ⟨xidx_i (bcq_lt (bcq_of (n_ := 88) (z_ := (2, 3)) m1_.1 rfl)), List.forall_mem_cons.mpr ⟨xidx_i (bcq_lt (bcq_of (n_ := 15) (z_ := (2, 3)) m1_.1 rfl)), fun q_ hq => absurd hq List.not_mem_nil⟩⟩⟩) (fun t_ ht => absurd ht List.not_mem_nil) (Nat.le_of_ble_eq_true rfl)) r2
    obtain ⟨h3, m3_, f3_, ld3⟩ := wjiB (v2 := Int32.ofNat i_) S2
    rw [i32s] at ld3
    have M_ := ysm_tr m1_ (ysm_tr m2_ m3_)
    have F_ : ∀ c_ j_, ¬ c_ = 17 + 73 + 2 * i_ → ¬ c_ = 18 + 73 + 2 * i_ → bpat h3 c_ j_ = bpat h_ c_ j_ := fun c_ j_ n1_ n2_ => (f3_ c_ j_).trans ((f2_ c_ j_ n1_ n2_).trans (f1_ c_ j_))
    obtain ⟨y1, y2, o1, o2⟩ := Q_
    obtain ⟨h4, m4_, f4_, r4⟩ := ih_ (i_ + 1) h3 (by omega) m3_.1 (fun c_ hc_ => by
      obtain ⟨l2, R3⟩ := P_ c_ hc_
      exact ⟨l2, rwx_keep R3 M_ (fun c2_ j_ hc2 => F_ c2_ j_ (by omega) (by omega))⟩) ⟨y1, y2, (F_ _ _ (by omega) (by omega)).trans o1, (F_ _ _ (by omega) (by omega)).trans o2⟩ ⟨(F_ _ _ (by omega) (by omega)).trans q1_, (F_ _ _ (by omega) (by omega)).trans q2_⟩
    exact ⟨h4, ysm_tr M_ m4_, fun c_ j_ n1_ => (f4_ c_ j_ n1_).trans (F_ c_ j_ (by omega) (by omega)), fun D_ hD => ld1 D_ (by omega) _ (ld2 D_ (by omega) _ (ld3 D_ (by omega) _ (r4 D_ hD)))⟩
-- ===== r: rows, ROCKS, TEXTS
theorem w1_r {W_ : Nat → List Int32} : ∀ (r_ i_ : Nat) (h_ : xH), i_ + r_ = 12 → sHp h_ → (∀ c_, c_ < 12 → rwx h_ (34 + 73 + 2 * c_) (35 + 73 + 2 * c_) 12 (W_ c_)) → (∀ c_, c_ < i_ → rwx h_ (34 + 0 + 2 * c_) (35 + 0 + 2 * c_) 12 (W_ c_)) → ∃ h', (∀ c_, c_ < 12 → rwx h' (34 + 0 + 2 * c_) (35 + 0 + 2 * c_) 12 (W_ c_)) ∧ ysm h_ h' ∧ (∀ c_ j_, ¬ (34 + 0 ≤ c_ ∧ c_ ≤ 57 + 0) → bpat h' c_ j_ = bpat h_ c_ j_) ∧ bldD 61 63 2 [(2, .int (Int32.ofNat i_)), (0, .index 1), (1, .index 74)] [] h_ 34 [(2, .int (Int32.ofNat 0)), (0, .index 1), (1, .index 74)] [] h' := by
  have z12 := i12_
  intro r_
  induction r_ with
  | zero =>
    intro i_ h_ hi_ hs P_ Q_
    obtain ⟨h1, m1_, f1_, ld⟩ := wcrC (v2 := Int32.ofNat i_) hs (by rw [i32n (by omega)]; omega)
    exact ⟨h1, fun c_ hc_ => rwx_keep (Q_ c_ (by omega)) m1_ (fun c_ j_ _ => f1_ c_ j_), m1_, fun c_ j_ _ => f1_ c_ j_, fun D_ hD => ld D_ (by omega)⟩
  | succ r_ ih_ =>
    intro i_ h_ hi_ hs P_ Q_
    obtain ⟨s1_, s2_, s3_⟩ := wo_c (c_ := i_) hs (Or.inr rfl : wo_ 73) (by omega)
    obtain ⟨t1_, t2_, t3_⟩ := wo_c (c_ := i_) hs (Or.inl rfl : wo_ 0) (by omega)
    obtain ⟨h1, m1_, f1_, ld1⟩ := wcrA (v2 := Int32.ofNat i_) hs t2_ s2_ (by rw [i32t (by omega)]; exact t1_) (by rw [i32t (by omega)]; exact s1_) ⟨by rw [i32n (by omega)]; omega, by rw [i32n (by omega)]; omega⟩ (by rw [i32n (by omega)]; omega)
    have R_ := P_ i_ (by omega)
    obtain ⟨h2, S2, R2, m2_, f2_, r2⟩ := copyFrom12 m1_.1 (m1_.2 _ _ _ t2_) (m1_.2 _ _ _ t3_) ((f1_ _ _).trans (wo_rr (c_ := i_) hs (Or.inl rfl : wo_ 0) (by omega))) R_.2.2.1 (rwx_keep R_ m1_ (fun c_ j_ _ => f1_ c_ j_))
    have ld2 := ycv (mi := 63) (pc := 23) (lo_ := [(2, .int (Int32.ofNat i_)), (0, .index 1), (1, .index 74)]) (st_ := [.index (34 + 73 + 2 * i_), .index (34 + 0 + 2 * i_)]) (as_ := [.index (34 + 73 + 2 * i_)]) (s' := []) rfl rfl (m1_.2 _ _ _ t2_) rfl (xcc_l (List.forall_mem_cons.mpr ⟨rfl, List.forall_mem_cons.mpr ⟨xidx_i (bcq_lt (bcq_of (n_ := 1) (z_ := (10, 15)) m1_.1 rfl)), List.forall_mem_cons.mpr ⟨xidx_i (bcq_lt (bcq_of (n_ := 74) (z_ := (10, 15)) m1_.1 rfl)), fun q_ hq => absurd hq List.not_mem_nil⟩⟩⟩) (fun t_ ht => absurd ht List.not_mem_nil) (Nat.le_of_ble_eq_true rfl)) r2
    obtain ⟨h3, m3_, f3_, ld3⟩ := wcrB (v2 := Int32.ofNat i_) S2
    rw [i32s] at ld3
    have M_ := ysm_tr m1_ (ysm_tr m2_ m3_)
    have F_ : ∀ c_ j_, ¬ c_ = 34 + 0 + 2 * i_ → ¬ c_ = 35 + 0 + 2 * i_ → bpat h3 c_ j_ = bpat h_ c_ j_ := fun c_ j_ n1_ n2_ => (f3_ c_ j_).trans ((f2_ c_ j_ n1_ n2_).trans (f1_ c_ j_))
    obtain ⟨h4, Q4, m4_, f4_, ld4⟩ := ih_ (i_ + 1) h3 (by omega) m3_.1 (fun c_ hc_ => rwx_keep (P_ c_ hc_) M_ (fun c2_ j_ hc2 => F_ c2_ j_ (by omega) (by omega))) (fun c_ hc_ => by
      by_cases g_ : c_ = i_
      · subst g_
        exact rwx_keep R2 m3_ (fun c2_ j_ _ => f3_ c2_ j_)
      · exact rwx_keep (Q_ c_ (by omega)) M_ (fun c2_ j_ hc2 => F_ c2_ j_ (by omega) (by omega)))
    exact ⟨h4, Q4, ysm_tr M_ m4_, fun c_ j_ n1_ => (f4_ c_ j_ n1_).trans (F_ c_ j_ (by omega) (by omega)), fun D_ hD o H_ => ld1 D_ (by omega) _ (ld2 D_ (by omega) _ (ld3 D_ (by omega) _ (ld4 D_ hD o H_)))⟩
theorem w2_r {R_ : Nat → Nat → Int32} : ∀ (r_ i_ : Nat) (h_ : xH), i_ + r_ = 8 → sHp h_ → (∀ k_, k_ < 8 → ∀ j_, j_ < 3 → bpat h_ (58 + 73 + k_) j_ = some (.int (R_ k_ j_))) → (∀ k_, k_ < i_ → ∀ j_, j_ < 3 → bpat h_ (58 + 0 + k_) j_ = some (.int (R_ k_ j_))) → ∃ h', (∀ k_, k_ < 8 → ∀ j_, j_ < 3 → bpat h' (58 + 0 + k_) j_ = some (.int (R_ k_ j_))) ∧ ysm h_ h' ∧ (∀ c_ j_, ¬ (58 + 0 ≤ c_ ∧ c_ ≤ 65 + 0) → bpat h' c_ j_ = bpat h_ c_ j_) ∧ bldD 61 63 34 [(2, .int (Int32.ofNat i_)), (0, .index 1), (1, .index 74)] [] h_ 66 [(2, .int (Int32.ofNat 0)), (0, .index 1), (1, .index 74)] [] h' := by
  have z8 := i8_
  intro r_
  induction r_ with
  | zero =>
    intro i_ h_ hi_ hs P_ Q_
    obtain ⟨h1, m1_, f1_, ld⟩ := wrrC (v2 := Int32.ofNat i_) hs (by rw [i32n (by omega)]; omega)
    exact ⟨h1, fun k_ hk j_ hj => (f1_ _ _).trans (Q_ k_ (by omega) j_ hj), m1_, fun c_ j_ _ => f1_ c_ j_, fun D_ hD => ld D_ (by omega)⟩
  | succ r_ ih_ =>
    intro i_ h_ hi_ hs P_ Q_
    obtain ⟨s1_, s2_⟩ := wo_r (k_ := i_) hs (Or.inr rfl : wo_ 73) (by omega)
    obtain ⟨t1_, t2_⟩ := wo_r (k_ := i_) hs (Or.inl rfl : wo_ 0) (by omega)
    obtain ⟨h1, m1_, e2_, e1_, e0_, f1_, ld1⟩ := wrrA (v2 := Int32.ofNat i_) hs t2_ s2_ (by rw [i32t (by omega)]; exact t1_) (by rw [i32t (by omega)]; exact s1_) (P_ i_ (by omega) 0 (by omega)) (P_ i_ (by omega) 1 (by omega)) (P_ i_ (by omega) 2 (by omega)) ⟨by rw [i32n (by omega)]; omega, by rw [i32n (by omega)]; omega⟩ (by omega) (by rw [i32n (by omega)]; omega)
    rw [i32s] at ld1
    have F_ : ∀ c_ j_, ¬ c_ = 58 + 0 + i_ → bpat h1 c_ j_ = bpat h_ c_ j_ := fun c_ j_ n1_ => f1_ c_ j_ (fun q_ => n1_ q_.1) (fun q_ => n1_ q_.1) (fun q_ => n1_ q_.1)
    obtain ⟨h4, Q4, m4_, f4_, ld4⟩ := ih_ (i_ + 1) h1 (by omega) m1_.1 (fun k_ hk j_ hj => (F_ _ _ (by omega)).trans (P_ k_ hk j_ hj)) (fun k_ hk j_ hj => by
      by_cases g_ : k_ = i_
      · subst g_
        have j3_ : j_ = 0 ∨ (j_ = 1 ∨ j_ = 2) := by omega
        rcases j3_ with rfl | rfl | rfl
        · exact e0_
        · exact e1_
        · exact e2_
      · exact (F_ _ _ (by omega)).trans (Q_ k_ (by omega) j_ hj))
    exact ⟨h4, Q4, ysm_tr m1_ m4_, fun c_ j_ n1_ => (f4_ c_ j_ n1_).trans (F_ c_ j_ (by omega)), fun D_ hD o H_ => ld1 D_ (by omega) _ (ld4 D_ hD o H_)⟩
theorem w3_r {X_ : Nat → List Int32} : ∀ (r_ i_ : Nat) (h_ : xH), i_ + r_ = 2 → sHp h_ → (∀ u_, u_ < 2 → rwx h_ (67 + 73 + 4 * u_) (68 + 73 + 4 * u_) 60 (X_ u_)) → (∀ u_, u_ < i_ → rwx h_ (67 + 0 + 4 * u_) (68 + 0 + 4 * u_) 60 (X_ u_)) → ∃ h' y_, (∀ u_, u_ < 2 → rwx h' (67 + 0 + 4 * u_) (68 + 0 + 4 * u_) 60 (X_ u_)) ∧ ysm h_ h' ∧ (∀ c_ j_, ¬ (66 + 0 ≤ c_ ∧ c_ ≤ 73 + 0) → bpat h' c_ j_ = bpat h_ c_ j_) ∧ bldD 61 63 66 [(2, .int (Int32.ofNat i_)), (0, .index 1), (1, .index 74)] [] h_ 110 [(2, .int y_), (0, .index 1), (1, .index 74)] [.index 78, .index 5] h' := by
  have z2 := i2_
  intro r_
  induction r_ with
  | zero =>
    intro i_ h_ hi_ hs P_ Q_
    obtain ⟨h1, m1_, f1_, ld⟩ := wtrC (v2 := Int32.ofNat i_) hs (by rw [i32n (by omega)]; omega)
    exact ⟨h1, _, fun u_ hu => rwx_keep (Q_ u_ (by omega)) m1_ (fun c_ j_ _ => f1_ c_ j_), m1_, fun c_ j_ _ => f1_ c_ j_, fun D_ hD => ld D_ (by omega)⟩
  | succ r_ ih_ =>
    intro i_ h_ hi_ hs P_ Q_
    obtain ⟨⟨s1_, s2_⟩, s3_, s4_, s5⟩ := wo_t (u_ := i_) hs (Or.inr rfl : wo_ 73) (by omega)
    obtain ⟨⟨t1_, t2_⟩, t3_, t4_, t5_⟩ := wo_t (u_ := i_) hs (Or.inl rfl : wo_ 0) (by omega)
    obtain ⟨h1, m1_, f1_, ld1⟩ := wtrA (v2 := Int32.ofNat i_) hs t3_ s3_ t4_ s4_ (by rw [i32t (by omega)]; exact t1_) t2_ (by rw [i32t (by omega)]; exact s1_) s2_ ⟨by rw [i32n (by omega)]; omega, by rw [i32n (by omega)]; omega⟩ (by rw [i32n (by omega)]; omega)
    have R_ := P_ i_ (by omega)
    obtain ⟨h2, S2, R2, m2_, f2_, r2⟩ := copyFrom60 m1_.1 (m1_.2 _ _ _ t4_) (m1_.2 _ _ _ t5_) ((f1_ _ _).trans (wo_tt (u_ := i_) hs (Or.inl rfl : wo_ 0) (by omega))) R_.2.2.1 (rwx_keep R_ m1_ (fun c_ j_ _ => f1_ c_ j_))
    have ld2 := ycv (mi := 63) (pc := 93) (lo_ := [(2, .int (Int32.ofNat i_)), (0, .index 1), (1, .index 74)]) (st_ := [.index (67 + 73 + 4 * i_), .index (67 + 0 + 4 * i_)]) (as_ := [.index (67 + 73 + 4 * i_)]) (s' := []) rfl rfl (m1_.2 _ _ _ t4_) rfl (xcc_l (List.forall_mem_cons.mpr ⟨rfl, List.forall_mem_cons.mpr ⟨xidx_i (bcq_lt (bcq_of (n_ := 1) (z_ := (10, 15)) m1_.1 rfl)), List.forall_mem_cons.mpr ⟨xidx_i (bcq_lt (bcq_of (n_ := 74) (z_ := (10, 15)) m1_.1 rfl)), fun q_ hq => absurd hq List.not_mem_nil⟩⟩⟩) (fun t_ ht => absurd ht List.not_mem_nil) (Nat.le_of_ble_eq_true rfl)) r2
    obtain ⟨h3, m3_, f3_, ld3⟩ := wtrB (v2 := Int32.ofNat i_) S2
    rw [i32s] at ld3
    have M_ := ysm_tr m1_ (ysm_tr m2_ m3_)
    have F_ : ∀ c_ j_, ¬ c_ = 67 + 0 + 4 * i_ → ¬ c_ = 68 + 0 + 4 * i_ → bpat h3 c_ j_ = bpat h_ c_ j_ := fun c_ j_ n1_ n2_ => (f3_ c_ j_).trans ((f2_ c_ j_ n1_ n2_).trans (f1_ c_ j_))
    obtain ⟨h4, y_, Q4, m4_, f4_, ld4⟩ := ih_ (i_ + 1) h3 (by omega) m3_.1 (fun u_ hu => rwx_keep (P_ u_ hu) M_ (fun c2_ j_ hc2 => F_ c2_ j_ (by omega) (by omega))) (fun u_ hu => by
      by_cases g_ : u_ = i_
      · subst g_
        exact rwx_keep R2 m3_ (fun c2_ j_ _ => f3_ c2_ j_)
      · exact rwx_keep (Q_ u_ (by omega)) M_ (fun c2_ j_ hc2 => F_ c2_ j_ (by omega) (by omega)))
    exact ⟨h4, y_, Q4, ysm_tr M_ m4_, fun c_ j_ n1_ => (f4_ c_ j_ n1_).trans (F_ c_ j_ (by omega) (by omega)), fun D_ hD o H_ => ld1 D_ (by omega) _ (ld2 D_ (by omega) _ (ld3 D_ (by omega) _ (ld4 D_ hD o H_)))⟩
theorem w5_r : ∀ (r_ i_ : Nat) (h_ : xH), i_ + r_ = 8 → sHp h_ → (∀ c_, c_ < 8 → ∃ l, rwx h_ (17 + 73 + 2 * c_) (18 + 73 + 2 * c_) 12 l) → (∃ y1 y2 : Int32, bpat h_ 88 1 = some (.int y1) ∧ bpat h_ 88 2 = some (.int y2)) → (bpat h_ 15 0 = some (.index 16) ∧ bpat h_ 88 0 = some (.index 89)) → ∃ h', ysm h_ h' ∧ (∀ c_ j_, ¬ (15 + 0 ≤ c_ ∧ c_ ≤ 32 + 0) → bpat h' c_ j_ = bpat h_ c_ j_) ∧ ∀ D_, 61 ≤ D_ → xrun D_ 14 2 [(2, .int (Int32.ofNat i_)), (0, .index 15), (1, .index 88)] [] h_ (none, h', []) := by
  have z8 := i8_
  intro r_
  induction r_ with
  | zero =>
    intro i_ h_ hi_ hs P_ Q_ ⟨q1_, q2_⟩
    obtain ⟨y1, y2, o1, o2⟩ := Q_
    obtain ⟨h1, m1_, e2_, e1_, f1_, rr⟩ := wjrC (v2 := Int32.ofNat i_) hs q1_ o1 o2 (by rw [i32n (by omega)]; omega)
    exact ⟨h1, m1_, fun c_ j_ n1_ => f1_ c_ j_ (fun q_ => n1_ (by omega)) (fun q_ => n1_ (by omega)), fun D_ hD => rr D_ (by omega)⟩
  | succ r_ ih_ =>
    intro i_ h_ hi_ hs P_ Q_ ⟨q1_, q2_⟩
    obtain ⟨s1_, s2_, s3_⟩ := wo_j (i_ := i_) hs (Or.inr rfl : wo_ 73) (by omega)
    obtain ⟨t1_, t2_, t3_⟩ := wo_j (i_ := i_) hs (Or.inl rfl : wo_ 0) (by omega)
    obtain ⟨h1, m1_, f1_, ld1⟩ := wjrA (v2 := Int32.ofNat i_) hs t2_ s2_ q1_ (by rw [i32t (by omega)]; exact t1_) q2_ (by rw [i32t (by omega)]; exact s1_) ⟨by rw [i32n (by omega)]; omega, by rw [i32n (by omega)]; omega⟩ (by rw [i32n (by omega)]; omega)
    obtain ⟨l, R_⟩ := P_ i_ (by omega)
    obtain ⟨h2, S2, R2, m2_, f2_, r2⟩ := copyFrom12 m1_.1 (m1_.2 _ _ _ t2_) (m1_.2 _ _ _ t3_) ((f1_ _ _).trans (wo_jj (i_ := i_) hs (Or.inl rfl : wo_ 0) (by omega))) R_.2.2.1 (rwx_keep R_ m1_ (fun c_ j_ _ => f1_ c_ j_))
    have ld2 := ycv (mi := 14) (pc := 23) (lo_ := [(2, .int (Int32.ofNat i_)), (0, .index 15), (1, .index 88)]) (st_ := [.index (17 + 73 + 2 * i_), .index (17 + 0 + 2 * i_)]) (as_ := [.index (17 + 73 + 2 * i_)]) (s' := []) rfl rfl (m1_.2 _ _ _ t2_) rfl (xcc_l (List.forall_mem_cons.mpr ⟨rfl, List.forall_mem_cons.mpr ⟨xidx_i (bcq_lt (bcq_of (n_ := 15) (z_ := (2, 3)) m1_.1 rfl)), List.forall_mem_cons.mpr ⟨xidx_i (bcq_lt (bcq_of (n_ := 88) (z_ := (2, 3)) m1_.1 rfl)), fun q_ hq => absurd hq List.not_mem_nil⟩⟩⟩) (fun t_ ht => absurd ht List.not_mem_nil) (Nat.le_of_ble_eq_true rfl)) r2
    obtain ⟨h3, m3_, f3_, ld3⟩ := wjrB (v2 := Int32.ofNat i_) S2
    rw [i32s] at ld3
    have M_ := ysm_tr m1_ (ysm_tr m2_ m3_)
    have F_ : ∀ c_ j_, ¬ c_ = 17 + 0 + 2 * i_ → ¬ c_ = 18 + 0 + 2 * i_ → bpat h3 c_ j_ = bpat h_ c_ j_ := fun c_ j_ n1_ n2_ => (f3_ c_ j_).trans ((f2_ c_ j_ n1_ n2_).trans (f1_ c_ j_))
    obtain ⟨y1, y2, o1, o2⟩ := Q_
    obtain ⟨h4, m4_, f4_, r4⟩ := ih_ (i_ + 1) h3 (by omega) m3_.1 (fun c_ hc_ => by
      obtain ⟨l2, R3⟩ := P_ c_ hc_
      exact ⟨l2, rwx_keep R3 M_ (fun c2_ j_ hc2 => F_ c2_ j_ (by omega) (by omega))⟩) ⟨y1, y2, (F_ _ _ (by omega) (by omega)).trans o1, (F_ _ _ (by omega) (by omega)).trans o2⟩ ⟨(F_ _ _ (by omega) (by omega)).trans q1_, (F_ _ _ (by omega) (by omega)).trans q2_⟩
    exact ⟨h4, ysm_tr M_ m4_, fun c_ j_ n1_ => (f4_ c_ j_ n1_).trans (F_ c_ j_ (by omega) (by omega)), fun D_ hD => ld1 D_ (by omega) _ (ld2 D_ (by omega) _ (ld3 D_ (by omega) _ (r4 D_ hD)))⟩
/-- World.copyFrom, i -/
theorem wcp_i {W_ : Nat → List Int32} {V : Nat → Int32} {h_ : xH} (hs : sHp h_) (X_ : XW 0 0 W_ V h_) (ex_ : ∃ l1 l2 l3, rwx h_ 9 10 10 l1 ∧ (rwx h_ 11 12 10 l2 ∧ rwx h_ 13 14 10 l3)) (ej : ∀ c_, c_ < 8 → ∃ l, rwx h_ (17 + 0 + 2 * c_) (18 + 0 + 2 * c_) 12 l) (ei : ∃ y0 y1 y2 : Int32, bpat h_ 1 11 = some (.int y0) ∧ (bpat h_ 15 1 = some (.int y1) ∧ bpat h_ 15 2 = some (.int y2))) (eo : bpat h_ 88 0 = some (.index 89) ∧ bpat h_ 15 0 = some (.index 16)) : ∃ h', ysm h_ h' ∧ (((∀ c_ j_, ¬ (1 + 73 ≤ c_ ∧ c_ ≤ 73 + 73) → bpat h' c_ j_ = bpat h_ c_ j_) ∧ ∃ y_ : Int32, bpat h' (1 + 73) 11 = some (.int y_)) ∧ (((∀ p_ ∈ wvX, bpat h' (p_.1.1 + 73) p_.1.2 = some (.int (V (0 + p_.2)))) ∧ ∀ p_ ∈ wrX, rwx h' (p_.1 + 73) (p_.2.1 + 73) p_.2.2.1 (W_ (0 + p_.2.2.2))) ∧ ∀ D_, 63 ≤ D_ → xrun D_ 63 0 [(0, .index 74), (1, .index 1)] [] h_ (none, h', []))) := by
  obtain ⟨l1, l2, l3, X1, X2, X3⟩ := ex_
  obtain ⟨y0, y1, y2, I0_, I1, I2_⟩ := ei
  have vx : ∀ {a_ j_ k_ : Nat}, ((a_, j_), k_) ∈ wvX → bpat h_ (a_ + 0) j_ = some (.int (V (0 + k_))) := fun hk => X_.1 _ hk
  have rx_ : ∀ {a_ b_ n_ k_ : Nat}, (a_, b_, n_, k_) ∈ wrX → rwx h_ (a_ + 0) (b_ + 0) n_ (W_ (0 + k_)) := fun hk => X_.2 _ hk
  obtain ⟨h0, m0_, f0_, ld0⟩ := wciE hs
  obtain ⟨h1, P1_, m1_, f1_, ld1⟩ := w1_i (W_ := fun c_ => W_ (0 + c_)) 12 0 h0 (by omega) m0_.1 (fun c_ hc_ => rwx_keep (by have e_ := rx_ (cl_x hc_); rw [show 34 + 2 * c_ + 0 = 34 + 0 + 2 * c_ by omega, show 35 + 2 * c_ + 0 = 35 + 0 + 2 * c_ by omega] at e_; exact e_) m0_ (fun c2_ j_ _ => f0_ c2_ j_)) (fun c_ hc_ => by omega)
  have F1_ : ∀ c_ j_, ¬ (34 + 73 ≤ c_ ∧ c_ ≤ 57 + 73) → bpat h1 c_ j_ = bpat h_ c_ j_ := fun c_ j_ n_ => (f1_ c_ j_ n_).trans (f0_ c_ j_)
  obtain ⟨h2, P2_, m2_, f2_, ld2⟩ := w2_i (R_ := fun k_ j_ => V (0 + (10 + 3 * k_ + j_))) 8 0 h1 (by omega) m1_.1 (fun k_ hk j_ hj => by rw [F1_ _ _ (by omega), show 58 + 0 + k_ = 58 + k_ + 0 by omega]; exact vx (rk_in hk hj).1) (fun k_ hk => by omega)
  have F2 : ∀ c_ j_, ¬ (34 + 73 ≤ c_ ∧ c_ ≤ 65 + 73) → bpat h2 c_ j_ = bpat h_ c_ j_ := fun c_ j_ n_ => (f2_ c_ j_ (by omega)).trans (F1_ c_ j_ (by omega))
  have M2_ := ysm_tr m0_ (ysm_tr m1_ m2_)
  obtain ⟨h3, y_, P3, m3_, f3_, ld3⟩ := w3_i (X_ := fun u_ => W_ (0 + (23 + u_))) 2 0 h2 (by omega) m2_.1 (fun u_ hu => by
    have u2_ : u_ = 0 ∨ u_ = 1 := by omega
    rcases u2_ with rfl | rfl
    · exact rwx_keep (rx_ (show (67, 68, 60, 23) ∈ wrX by decide)) M2_ (fun c2_ j_ hc2 => F2 c2_ j_ (by omega))
    · exact rwx_keep (rx_ (show (71, 72, 60, 24) ∈ wrX by decide)) M2_ (fun c2_ j_ hc2 => F2 c2_ j_ (by omega))) (fun u_ hu => by omega)
  have F3 : ∀ c_ j_, ¬ (34 + 73 ≤ c_ ∧ c_ ≤ 73 + 73) → bpat h3 c_ j_ = bpat h_ c_ j_ := fun c_ j_ n_ => (f3_ c_ j_ (by omega)).trans (F2 c_ j_ (by omega))
  have MM0 := ysm_tr M2_ m3_
  have HS0 := m3_.1
  have R00 := rwx_keep (rx_ (show (5, 6, 60, 20) ∈ wrX by decide)) MM0 (fun c2_ j_ hc2 => F3 c2_ j_ (by omega))
  -- row 0
  obtain ⟨g0, G0_, Q0_, n0_, u0, s0_⟩ := copyFrom60 HS0 (bcq_of (n_ := 78) (z_ := (6, 2)) HS0 rfl) (bcq_of (n_ := 79) (z_ := (20, 60)) HS0 rfl) (fxr_at HS0.2 (show fxk fxl 78 0 = some 79 by decide +kernel)) (R00).2.2.1 (R00)
  have e0_ := ycv (mi := 63) (pc := 110) (lo_ := [(2, .int y_), (0, .index 74), (1, .index 1)]) (st_ := [.index 5, .index 78]) (as_ := [.index 5]) (s' := []) rfl rfl (bcq_of (n_ := 78) (z_ := (6, 2)) HS0 rfl) rfl (xcc_l (List.forall_mem_cons.mpr ⟨rfl, List.forall_mem_cons.mpr ⟨xidx_i (bcq_lt (bcq_of (n_ := 74) (z_ := (10, 15)) HS0 rfl)), List.forall_mem_cons.mpr ⟨xidx_i (bcq_lt (bcq_of (n_ := 1) (z_ := (10, 15)) HS0 rfl)), fun q_ hq => absurd hq List.not_mem_nil⟩⟩⟩) (fun t_ ht => absurd ht List.not_mem_nil) (Nat.le_of_ble_eq_true rfl)) s0_
  obtain ⟨i0_, p0_, v0_, d0_⟩ := wsi0 (v2 := y_) G0_
  have HS1 := p0_.1
  have MM1 := ysm_tr MM0 (ysm_tr n0_ p0_)
  have FF0 : ∀ c_ j_, ¬ c_ = 78 → ¬ c_ = 79 → bpat i0_ c_ j_ = bpat h3 c_ j_ := fun c_ j_ z1 z2 => (v0_ c_ j_).trans (u0 c_ j_ z1 z2)
  have RR0 := rwx_keep Q0_ p0_ (fun c_ j_ _ => v0_ c_ j_)
  have R01 := rwx_keep (rx_ (show (7, 8, 24, 21) ∈ wrX by decide)) MM1 (fun c2_ j_ hc2 => (FF0 c2_ j_ (by omega) (by omega)).trans (F3 c2_ j_ (by omega)))
  -- row 1
  obtain ⟨g1, G1_, Q1_, n1_, u1_, s1_⟩ := copyFrom24 HS1 (bcq_of (n_ := 80) (z_ := (6, 2)) HS1 rfl) (bcq_of (n_ := 81) (z_ := (20, 24)) HS1 rfl) (fxr_at HS1.2 (show fxk fxl 80 0 = some 81 by decide +kernel)) (R01).2.2.1 (R01)
  have e1_ := ycv (mi := 63) (pc := 121) (lo_ := [(2, .int y_), (0, .index 74), (1, .index 1)]) (st_ := [.index 7, .index 80]) (as_ := [.index 7]) (s' := []) rfl rfl (bcq_of (n_ := 80) (z_ := (6, 2)) HS1 rfl) rfl (xcc_l (List.forall_mem_cons.mpr ⟨rfl, List.forall_mem_cons.mpr ⟨xidx_i (bcq_lt (bcq_of (n_ := 74) (z_ := (10, 15)) HS1 rfl)), List.forall_mem_cons.mpr ⟨xidx_i (bcq_lt (bcq_of (n_ := 1) (z_ := (10, 15)) HS1 rfl)), fun q_ hq => absurd hq List.not_mem_nil⟩⟩⟩) (fun t_ ht => absurd ht List.not_mem_nil) (Nat.le_of_ble_eq_true rfl)) s1_
  obtain ⟨i1_, p1_, v1_, d1_⟩ := wsi1 (v2 := y_) G1_
  have HS2 := p1_.1
  have MM2 := ysm_tr MM1 (ysm_tr n1_ p1_)
  have FF1 : ∀ c_ j_, ¬ c_ = 80 → ¬ c_ = 81 → bpat i1_ c_ j_ = bpat i0_ c_ j_ := fun c_ j_ z1 z2 => (v1_ c_ j_).trans (u1_ c_ j_ z1 z2)
  have RR1 := rwx_keep Q1_ p1_ (fun c_ j_ _ => v1_ c_ j_)
  have R02 := rwx_keep X1 MM2 (fun c2_ j_ hc2 => (FF1 c2_ j_ (by omega) (by omega)).trans ((FF0 c2_ j_ (by omega) (by omega)).trans (F3 c2_ j_ (by omega))))
  -- row 2
  obtain ⟨g2, G2_, Q2_, n2_, u2_, s2_⟩ := copyFrom10 HS2 (bcq_of (n_ := 82) (z_ := (6, 2)) HS2 rfl) (bcq_of (n_ := 83) (z_ := (20, 10)) HS2 rfl) (fxr_at HS2.2 (show fxk fxl 82 0 = some 83 by decide +kernel)) (R02).2.2.1 (R02)
  have e2_ := ycv (mi := 63) (pc := 132) (lo_ := [(2, .int y_), (0, .index 74), (1, .index 1)]) (st_ := [.index 9, .index 82]) (as_ := [.index 9]) (s' := []) rfl rfl (bcq_of (n_ := 82) (z_ := (6, 2)) HS2 rfl) rfl (xcc_l (List.forall_mem_cons.mpr ⟨rfl, List.forall_mem_cons.mpr ⟨xidx_i (bcq_lt (bcq_of (n_ := 74) (z_ := (10, 15)) HS2 rfl)), List.forall_mem_cons.mpr ⟨xidx_i (bcq_lt (bcq_of (n_ := 1) (z_ := (10, 15)) HS2 rfl)), fun q_ hq => absurd hq List.not_mem_nil⟩⟩⟩) (fun t_ ht => absurd ht List.not_mem_nil) (Nat.le_of_ble_eq_true rfl)) s2_
  obtain ⟨i2_, p2_, v2, d2_⟩ := wsi2 (v2 := y_) G2_
  have HS3 := p2_.1
  have MM3 := ysm_tr MM2 (ysm_tr n2_ p2_)
  have FF2 : ∀ c_ j_, ¬ c_ = 82 → ¬ c_ = 83 → bpat i2_ c_ j_ = bpat i1_ c_ j_ := fun c_ j_ z1 z2 => (v2 c_ j_).trans (u2_ c_ j_ z1 z2)
  have RR2 := rwx_keep Q2_ p2_ (fun c_ j_ _ => v2 c_ j_)
  have R03 := rwx_keep X2 MM3 (fun c2_ j_ hc2 => (FF2 c2_ j_ (by omega) (by omega)).trans ((FF1 c2_ j_ (by omega) (by omega)).trans ((FF0 c2_ j_ (by omega) (by omega)).trans (F3 c2_ j_ (by omega)))))
  -- row 3
  obtain ⟨g3_, G3, Q3, n3_, u3, s3_⟩ := copyFrom10 HS3 (bcq_of (n_ := 84) (z_ := (6, 2)) HS3 rfl) (bcq_of (n_ := 85) (z_ := (20, 10)) HS3 rfl) (fxr_at HS3.2 (show fxk fxl 84 0 = some 85 by decide +kernel)) (R03).2.2.1 (R03)
  have e3_ := ycv (mi := 63) (pc := 143) (lo_ := [(2, .int y_), (0, .index 74), (1, .index 1)]) (st_ := [.index 11, .index 84]) (as_ := [.index 11]) (s' := []) rfl rfl (bcq_of (n_ := 84) (z_ := (6, 2)) HS3 rfl) rfl (xcc_l (List.forall_mem_cons.mpr ⟨rfl, List.forall_mem_cons.mpr ⟨xidx_i (bcq_lt (bcq_of (n_ := 74) (z_ := (10, 15)) HS3 rfl)), List.forall_mem_cons.mpr ⟨xidx_i (bcq_lt (bcq_of (n_ := 1) (z_ := (10, 15)) HS3 rfl)), fun q_ hq => absurd hq List.not_mem_nil⟩⟩⟩) (fun t_ ht => absurd ht List.not_mem_nil) (Nat.le_of_ble_eq_true rfl)) s3_
  obtain ⟨i3_, p3_, v3, d3_⟩ := wsi3 (v2 := y_) G3
  have HS4 := p3_.1
  have MM4 := ysm_tr MM3 (ysm_tr n3_ p3_)
  have FF3 : ∀ c_ j_, ¬ c_ = 84 → ¬ c_ = 85 → bpat i3_ c_ j_ = bpat i2_ c_ j_ := fun c_ j_ z1 z2 => (v3 c_ j_).trans (u3 c_ j_ z1 z2)
  have RR3 := rwx_keep Q3 p3_ (fun c_ j_ _ => v3 c_ j_)
  have R04 := rwx_keep X3 MM4 (fun c2_ j_ hc2 => (FF3 c2_ j_ (by omega) (by omega)).trans ((FF2 c2_ j_ (by omega) (by omega)).trans ((FF1 c2_ j_ (by omega) (by omega)).trans ((FF0 c2_ j_ (by omega) (by omega)).trans (F3 c2_ j_ (by omega))))))
  -- row 4
  obtain ⟨g4, G4, Q4, n4_, u4_, s4_⟩ := copyFrom10 HS4 (bcq_of (n_ := 86) (z_ := (6, 2)) HS4 rfl) (bcq_of (n_ := 87) (z_ := (20, 10)) HS4 rfl) (fxr_at HS4.2 (show fxk fxl 86 0 = some 87 by decide +kernel)) (R04).2.2.1 (R04)
  have e4_ := ycv (mi := 63) (pc := 154) (lo_ := [(2, .int y_), (0, .index 74), (1, .index 1)]) (st_ := [.index 13, .index 86]) (as_ := [.index 13]) (s' := []) rfl rfl (bcq_of (n_ := 86) (z_ := (6, 2)) HS4 rfl) rfl (xcc_l (List.forall_mem_cons.mpr ⟨rfl, List.forall_mem_cons.mpr ⟨xidx_i (bcq_lt (bcq_of (n_ := 74) (z_ := (10, 15)) HS4 rfl)), List.forall_mem_cons.mpr ⟨xidx_i (bcq_lt (bcq_of (n_ := 1) (z_ := (10, 15)) HS4 rfl)), fun q_ hq => absurd hq List.not_mem_nil⟩⟩⟩) (fun t_ ht => absurd ht List.not_mem_nil) (Nat.le_of_ble_eq_true rfl)) s4_
  obtain ⟨i4_, p4_, v4_, d4_⟩ := wsi4 (v2 := y_) G4
  have HS5 := p4_.1
  have MM5 := ysm_tr MM4 (ysm_tr n4_ p4_)
  have FF4 : ∀ c_ j_, ¬ c_ = 86 → ¬ c_ = 87 → bpat i4_ c_ j_ = bpat i3_ c_ j_ := fun c_ j_ z1 z2 => (v4_ c_ j_).trans (u4_ c_ j_ z1 z2)
  have RR4 := rwx_keep Q4 p4_ (fun c_ j_ _ => v4_ c_ j_)
  have FA : ∀ c_ j_, ¬ (5 + 73 ≤ c_ ∧ c_ ≤ 14 + 73) → bpat i4_ c_ j_ = bpat h3 c_ j_ := fun c_ j_ n_ => (FF4 c_ j_ (by omega) (by omega)).trans ((FF3 c_ j_ (by omega) (by omega)).trans ((FF2 c_ j_ (by omega) (by omega)).trans ((FF1 c_ j_ (by omega) (by omega)).trans (FF0 c_ j_ (by omega) (by omega)))))
  have FB : ∀ c_ j_, ¬ (5 + 73 ≤ c_ ∧ c_ ≤ 14 + 73) → ¬ (34 + 73 ≤ c_ ∧ c_ ≤ 73 + 73) → bpat i4_ c_ j_ = bpat h_ c_ j_ := fun c_ j_ n1_ n2_ => (FA c_ j_ n1_).trans (F3 c_ j_ n2_)
  obtain ⟨k0_, q0, b0, j0⟩ := wjiE HS5
  obtain ⟨k1_, q1_, b1, j1⟩ := w5_i 8 0 k0_ (by omega) q0.1 (fun c_ hc_ => by
    obtain ⟨l, R_⟩ := ej c_ hc_
    exact ⟨l, rwx_keep R_ (ysm_tr MM5 q0) (fun c2_ j_ hc2 => (b0 _ _).trans (FB c2_ j_ (by omega) (by omega)))⟩) ⟨y1, y2, ((b0 _ _).trans (FB _ _ (by omega) (by omega))).trans I1, ((b0 _ _).trans (FB _ _ (by omega) (by omega))).trans I2_⟩ ⟨((b0 _ _).trans (FB _ _ (by omega) (by omega))).trans eo.1, ((b0 _ _).trans (FB _ _ (by omega) (by omega))).trans eo.2⟩
  have ej2 := ycv (mi := 63) (pc := 165) (lo_ := [(2, .int y_), (0, .index 74), (1, .index 1)]) (st_ := [.index 15, .index 88]) (as_ := [.index 15]) (s' := []) (d_ := 61) rfl rfl (bcq_of (n_ := 88) (z_ := (2, 3)) HS5 rfl) rfl (xcc_l (List.forall_mem_cons.mpr ⟨rfl, List.forall_mem_cons.mpr ⟨xidx_i (bcq_lt (bcq_of (n_ := 74) (z_ := (10, 15)) HS5 rfl)), List.forall_mem_cons.mpr ⟨xidx_i (bcq_lt (bcq_of (n_ := 1) (z_ := (10, 15)) HS5 rfl)), fun q_ hq => absurd hq List.not_mem_nil⟩⟩⟩) (fun t_ ht => absurd ht List.not_mem_nil) (Nat.le_of_ble_eq_true rfl)) (fun D_ hD => j0 D_ (by omega) _ (j1 D_ hD))
  have FK_ : ∀ c_ j_, ¬ (15 + 73 ≤ c_ ∧ c_ ≤ 32 + 73) → bpat k1_ c_ j_ = bpat i4_ c_ j_ := fun c_ j_ n_ => (b1 c_ j_ n_).trans (b0 c_ j_)
  have FC_ : ∀ c_ j_, ¬ (5 + 73 ≤ c_ ∧ c_ ≤ 32 + 73) → ¬ (34 + 73 ≤ c_ ∧ c_ ≤ 73 + 73) → bpat k1_ c_ j_ = bpat h_ c_ j_ := fun c_ j_ n1_ n2_ => (FK_ c_ j_ (by omega)).trans (FB c_ j_ (by omega) n2_)
  have vk : ∀ {a_ j_ k_ : Nat}, ((a_, j_), k_) ∈ wvX → a_ + 0 = 1 → bpat k1_ 1 j_ = some (.int (V (0 + k_))) := fun hk e_ => by
    have z_ := vx hk
    rw [e_] at z_
    exact (FC_ _ _ (by omega) (by omega)).trans z_
  obtain ⟨t_, q2_, a13, a12, a11, a10, a9, b2, r2⟩ := wzi (v2 := y_) q1_.1 (vk (show ((1, 9), 0) ∈ wvX by decide) rfl) (vk (show ((1, 10), 1) ∈ wvX by decide) rfl) ((FC_ _ _ (by omega) (by omega)).trans I0_) (vk (show ((1, 12), 3) ∈ wvX by decide) rfl) (vk (show ((1, 13), 4) ∈ wvX by decide) rfl)
  have FT : ∀ c_ j_, ¬ c_ = 74 → bpat t_ c_ j_ = bpat k1_ c_ j_ := fun c_ j_ n_ => b2 c_ j_ (fun q_ => n_ q_.1) (fun q_ => n_ q_.1) (fun q_ => n_ q_.1) (fun q_ => n_ q_.1) (fun q_ => n_ q_.1)
  have MT := ysm_tr MM5 (ysm_tr q0 (ysm_tr q1_ q2_))
  have tail_ : ∀ c_ j_, ¬ c_ = 74 → ¬ (15 + 73 ≤ c_ ∧ c_ ≤ 32 + 73) → bpat t_ c_ j_ = bpat i4_ c_ j_ := fun c_ j_ n1_ n2_ => (FT c_ j_ n1_).trans (FK_ c_ j_ n2_)
  have MQ := ysm_tr q0 (ysm_tr q1_ q2_)
  refine ⟨t_, MT, ⟨fun c_ j_ n_ => (FT c_ j_ (by omega)).trans (FC_ c_ j_ (by omega) (by omega)), _, a11⟩, ⟨fun p_ hp => ?_, fun p_ hp => ?_⟩, fun D_ hD => ld0 D_ (by omega) _ (ld1 D_ (by omega) _ (ld2 D_ (by omega) _ (ld3 D_ (by omega) _ (e0_ D_ (by omega) _ (d0_ D_ (by omega) _ (e1_ D_ (by omega) _ (d1_ D_ (by omega) _ (e2_ D_ (by omega) _ (d2_ D_ (by omega) _ (e3_ D_ (by omega) _ (d3_ D_ (by omega) _ (e4_ D_ (by omega) _ (d4_ D_ (by omega) _ (ej2 D_ (by omega) _ (r2 D_ (by omega))))))))))))))))⟩
  · have w_ := List.all_eq_true.mp wvX_s p_ hp
    simp only [Bool.or_eq_true, decide_eq_true_eq] at w_
    rcases w_ with rfl | rfl | rfl | rfl | w_
    · exact a9
    · exact a10
    · exact a12
    · exact a13
    · obtain ⟨k_, hk, w_⟩ := List.any_eq_true.mp w_
      obtain ⟨j_, hj, w_⟩ := List.any_eq_true.mp w_
      have w_ := of_decide_eq_true w_
      subst w_
      have e_ := P2_ k_ (List.mem_range.mp hk) j_ (List.mem_range.mp hj)
      have hk8 := List.mem_range.mp hk
      show bpat t_ (58 + k_ + 73) j_ = _
      rw [tail_ _ _ (by omega) (by omega), FA _ _ (by omega), f3_ _ _ (by omega), show 58 + k_ + 73 = 58 + 73 + k_ by omega]
      exact e_
  · have w_ := List.all_eq_true.mp wrX_s p_ hp
    simp only [Bool.or_eq_true, decide_eq_true_eq] at w_
    rcases w_ with rfl | rfl | rfl | rfl | w_
    · show rwx t_ (5 + 73) (6 + 73) 60 _
      exact rwx_keep (a_ := 5 + 73) (b_ := 6 + 73) RR0 (ysm_tr (ysm_tr n1_ p1_) (ysm_tr (ysm_tr n2_ p2_) (ysm_tr (ysm_tr n3_ p3_) (ysm_tr (ysm_tr n4_ p4_) MQ)))) (fun c2_ j_ hc2 => by rw [tail_ _ _ (by omega) (by omega), FF4 _ _ (by omega) (by omega), FF3 _ _ (by omega) (by omega), FF2 _ _ (by omega) (by omega), FF1 _ _ (by omega) (by omega)])
    · show rwx t_ (7 + 73) (8 + 73) 24 _
      exact rwx_keep (a_ := 7 + 73) (b_ := 8 + 73) RR1 (ysm_tr (ysm_tr n2_ p2_) (ysm_tr (ysm_tr n3_ p3_) (ysm_tr (ysm_tr n4_ p4_) MQ))) (fun c2_ j_ hc2 => by rw [tail_ _ _ (by omega) (by omega), FF4 _ _ (by omega) (by omega), FF3 _ _ (by omega) (by omega), FF2 _ _ (by omega) (by omega)])
    · show rwx t_ (67 + 73) (68 + 73) 60 _
      exact rwx_keep (a_ := 67 + 73) (b_ := 68 + 73) (P3 0 (by omega)) (ysm_tr (ysm_tr n0_ p0_) (ysm_tr (ysm_tr n1_ p1_) (ysm_tr (ysm_tr n2_ p2_) (ysm_tr (ysm_tr n3_ p3_) (ysm_tr (ysm_tr n4_ p4_) MQ))))) (fun c2_ j_ hc2 => by rw [tail_ _ _ (by omega) (by omega), FA _ _ (by omega)])
    · show rwx t_ (71 + 73) (72 + 73) 60 _
      exact rwx_keep (a_ := 71 + 73) (b_ := 72 + 73) (P3 1 (by omega)) (ysm_tr (ysm_tr n0_ p0_) (ysm_tr (ysm_tr n1_ p1_) (ysm_tr (ysm_tr n2_ p2_) (ysm_tr (ysm_tr n3_ p3_) (ysm_tr (ysm_tr n4_ p4_) MQ))))) (fun c2_ j_ hc2 => by rw [tail_ _ _ (by omega) (by omega), FA _ _ (by omega)])
    · obtain ⟨c_, hc_, w_⟩ := List.any_eq_true.mp w_
      have w_ := of_decide_eq_true w_
      subst w_
      have hc12 := List.mem_range.mp hc_
      have e_ := P1_ c_ hc12
      show rwx t_ (34 + 2 * c_ + 73) (35 + 2 * c_ + 73) 12 _
      rw [show 34 + 2 * c_ + 73 = 34 + 73 + 2 * c_ by omega, show 35 + 2 * c_ + 73 = 35 + 73 + 2 * c_ by omega]
      exact rwx_keep e_ (ysm_tr m2_ (ysm_tr m3_ (ysm_tr (ysm_tr n0_ p0_) (ysm_tr (ysm_tr n1_ p1_) (ysm_tr (ysm_tr n2_ p2_) (ysm_tr (ysm_tr n3_ p3_) (ysm_tr (ysm_tr n4_ p4_) MQ))))))) (fun c2_ j_ hc2 => by rw [tail_ _ _ (by omega) (by omega), FA _ _ (by omega), f3_ _ _ (by omega), f2_ _ _ (by omega)])
/-- World.copyFrom, r -/
theorem wcp_r {W_ : Nat → List Int32} {V : Nat → Int32} {h_ : xH} (hs : sHp h_) (X_ : XW 73 100 W_ V h_) (ex_ : ∃ l1 l2 l3, rwx h_ 82 83 10 l1 ∧ (rwx h_ 84 85 10 l2 ∧ rwx h_ 86 87 10 l3)) (ej : ∀ c_, c_ < 8 → ∃ l, rwx h_ (17 + 73 + 2 * c_) (18 + 73 + 2 * c_) 12 l) (ei : ∃ y0 y1 y2 : Int32, bpat h_ 74 11 = some (.int y0) ∧ (bpat h_ 88 1 = some (.int y1) ∧ bpat h_ 88 2 = some (.int y2))) (eo : bpat h_ 15 0 = some (.index 16) ∧ bpat h_ 88 0 = some (.index 89)) : ∃ h', ysm h_ h' ∧ (((∀ c_ j_, ¬ (1 + 0 ≤ c_ ∧ c_ ≤ 73 + 0) → bpat h' c_ j_ = bpat h_ c_ j_) ∧ ∃ y_ : Int32, bpat h' (1 + 0) 11 = some (.int y_)) ∧ (((∀ p_ ∈ wvX, bpat h' (p_.1.1 + 0) p_.1.2 = some (.int (V (100 + p_.2)))) ∧ ∀ p_ ∈ wrX, rwx h' (p_.1 + 0) (p_.2.1 + 0) p_.2.2.1 (W_ (100 + p_.2.2.2))) ∧ ∀ D_, 63 ≤ D_ → xrun D_ 63 0 [(0, .index 1), (1, .index 74)] [] h_ (none, h', []))) := by
  obtain ⟨l1, l2, l3, X1, X2, X3⟩ := ex_
  obtain ⟨y0, y1, y2, I0_, I1, I2_⟩ := ei
  have vx : ∀ {a_ j_ k_ : Nat}, ((a_, j_), k_) ∈ wvX → bpat h_ (a_ + 73) j_ = some (.int (V (100 + k_))) := fun hk => X_.1 _ hk
  have rx_ : ∀ {a_ b_ n_ k_ : Nat}, (a_, b_, n_, k_) ∈ wrX → rwx h_ (a_ + 73) (b_ + 73) n_ (W_ (100 + k_)) := fun hk => X_.2 _ hk
  obtain ⟨h0, m0_, f0_, ld0⟩ := wcrE hs
  obtain ⟨h1, P1_, m1_, f1_, ld1⟩ := w1_r (W_ := fun c_ => W_ (100 + c_)) 12 0 h0 (by omega) m0_.1 (fun c_ hc_ => rwx_keep (by have e_ := rx_ (cl_x hc_); rw [show 34 + 2 * c_ + 73 = 34 + 73 + 2 * c_ by omega, show 35 + 2 * c_ + 73 = 35 + 73 + 2 * c_ by omega] at e_; exact e_) m0_ (fun c2_ j_ _ => f0_ c2_ j_)) (fun c_ hc_ => by omega)
  have F1_ : ∀ c_ j_, ¬ (34 + 0 ≤ c_ ∧ c_ ≤ 57 + 0) → bpat h1 c_ j_ = bpat h_ c_ j_ := fun c_ j_ n_ => (f1_ c_ j_ n_).trans (f0_ c_ j_)
  obtain ⟨h2, P2_, m2_, f2_, ld2⟩ := w2_r (R_ := fun k_ j_ => V (100 + (10 + 3 * k_ + j_))) 8 0 h1 (by omega) m1_.1 (fun k_ hk j_ hj => by rw [F1_ _ _ (by omega), show 58 + 73 + k_ = 58 + k_ + 73 by omega]; exact vx (rk_in hk hj).1) (fun k_ hk => by omega)
  have F2 : ∀ c_ j_, ¬ (34 + 0 ≤ c_ ∧ c_ ≤ 65 + 0) → bpat h2 c_ j_ = bpat h_ c_ j_ := fun c_ j_ n_ => (f2_ c_ j_ (by omega)).trans (F1_ c_ j_ (by omega))
  have M2_ := ysm_tr m0_ (ysm_tr m1_ m2_)
  obtain ⟨h3, y_, P3, m3_, f3_, ld3⟩ := w3_r (X_ := fun u_ => W_ (100 + (23 + u_))) 2 0 h2 (by omega) m2_.1 (fun u_ hu => by
    have u2_ : u_ = 0 ∨ u_ = 1 := by omega
    rcases u2_ with rfl | rfl
    · exact rwx_keep (rx_ (show (67, 68, 60, 23) ∈ wrX by decide)) M2_ (fun c2_ j_ hc2 => F2 c2_ j_ (by omega))
    · exact rwx_keep (rx_ (show (71, 72, 60, 24) ∈ wrX by decide)) M2_ (fun c2_ j_ hc2 => F2 c2_ j_ (by omega))) (fun u_ hu => by omega)
  have F3 : ∀ c_ j_, ¬ (34 + 0 ≤ c_ ∧ c_ ≤ 73 + 0) → bpat h3 c_ j_ = bpat h_ c_ j_ := fun c_ j_ n_ => (f3_ c_ j_ (by omega)).trans (F2 c_ j_ (by omega))
  have MM0 := ysm_tr M2_ m3_
  have HS0 := m3_.1
  have R00 := rwx_keep (rx_ (show (5, 6, 60, 20) ∈ wrX by decide)) MM0 (fun c2_ j_ hc2 => F3 c2_ j_ (by omega))
  -- row 0
  obtain ⟨g0, G0_, Q0_, n0_, u0, s0_⟩ := copyFrom60 HS0 (bcq_of (n_ := 5) (z_ := (6, 2)) HS0 rfl) (bcq_of (n_ := 6) (z_ := (20, 60)) HS0 rfl) (fxr_at HS0.2 (show fxk fxl 5 0 = some 6 by decide +kernel)) (R00).2.2.1 (R00)
  have e0_ := ycv (mi := 63) (pc := 110) (lo_ := [(2, .int y_), (0, .index 1), (1, .index 74)]) (st_ := [.index 78, .index 5]) (as_ := [.index 78]) (s' := []) rfl rfl (bcq_of (n_ := 5) (z_ := (6, 2)) HS0 rfl) rfl (xcc_l (List.forall_mem_cons.mpr ⟨rfl, List.forall_mem_cons.mpr ⟨xidx_i (bcq_lt (bcq_of (n_ := 1) (z_ := (10, 15)) HS0 rfl)), List.forall_mem_cons.mpr ⟨xidx_i (bcq_lt (bcq_of (n_ := 74) (z_ := (10, 15)) HS0 rfl)), fun q_ hq => absurd hq List.not_mem_nil⟩⟩⟩) (fun t_ ht => absurd ht List.not_mem_nil) (Nat.le_of_ble_eq_true rfl)) s0_
  obtain ⟨i0_, p0_, v0_, d0_⟩ := wsr0 (v2 := y_) G0_
  have HS1 := p0_.1
  have MM1 := ysm_tr MM0 (ysm_tr n0_ p0_)
  have FF0 : ∀ c_ j_, ¬ c_ = 5 → ¬ c_ = 6 → bpat i0_ c_ j_ = bpat h3 c_ j_ := fun c_ j_ z1 z2 => (v0_ c_ j_).trans (u0 c_ j_ z1 z2)
  have RR0 := rwx_keep Q0_ p0_ (fun c_ j_ _ => v0_ c_ j_)
  have R01 := rwx_keep (rx_ (show (7, 8, 24, 21) ∈ wrX by decide)) MM1 (fun c2_ j_ hc2 => (FF0 c2_ j_ (by omega) (by omega)).trans (F3 c2_ j_ (by omega)))
  -- row 1
  obtain ⟨g1, G1_, Q1_, n1_, u1_, s1_⟩ := copyFrom24 HS1 (bcq_of (n_ := 7) (z_ := (6, 2)) HS1 rfl) (bcq_of (n_ := 8) (z_ := (20, 24)) HS1 rfl) (fxr_at HS1.2 (show fxk fxl 7 0 = some 8 by decide +kernel)) (R01).2.2.1 (R01)
  have e1_ := ycv (mi := 63) (pc := 121) (lo_ := [(2, .int y_), (0, .index 1), (1, .index 74)]) (st_ := [.index 80, .index 7]) (as_ := [.index 80]) (s' := []) rfl rfl (bcq_of (n_ := 7) (z_ := (6, 2)) HS1 rfl) rfl (xcc_l (List.forall_mem_cons.mpr ⟨rfl, List.forall_mem_cons.mpr ⟨xidx_i (bcq_lt (bcq_of (n_ := 1) (z_ := (10, 15)) HS1 rfl)), List.forall_mem_cons.mpr ⟨xidx_i (bcq_lt (bcq_of (n_ := 74) (z_ := (10, 15)) HS1 rfl)), fun q_ hq => absurd hq List.not_mem_nil⟩⟩⟩) (fun t_ ht => absurd ht List.not_mem_nil) (Nat.le_of_ble_eq_true rfl)) s1_
  obtain ⟨i1_, p1_, v1_, d1_⟩ := wsr1 (v2 := y_) G1_
  have HS2 := p1_.1
  have MM2 := ysm_tr MM1 (ysm_tr n1_ p1_)
  have FF1 : ∀ c_ j_, ¬ c_ = 7 → ¬ c_ = 8 → bpat i1_ c_ j_ = bpat i0_ c_ j_ := fun c_ j_ z1 z2 => (v1_ c_ j_).trans (u1_ c_ j_ z1 z2)
  have RR1 := rwx_keep Q1_ p1_ (fun c_ j_ _ => v1_ c_ j_)
  have R02 := rwx_keep X1 MM2 (fun c2_ j_ hc2 => (FF1 c2_ j_ (by omega) (by omega)).trans ((FF0 c2_ j_ (by omega) (by omega)).trans (F3 c2_ j_ (by omega))))
  -- row 2
  obtain ⟨g2, G2_, Q2_, n2_, u2_, s2_⟩ := copyFrom10 HS2 (bcq_of (n_ := 9) (z_ := (6, 2)) HS2 rfl) (bcq_of (n_ := 10) (z_ := (20, 10)) HS2 rfl) (fxr_at HS2.2 (show fxk fxl 9 0 = some 10 by decide +kernel)) (R02).2.2.1 (R02)
  have e2_ := ycv (mi := 63) (pc := 132) (lo_ := [(2, .int y_), (0, .index 1), (1, .index 74)]) (st_ := [.index 82, .index 9]) (as_ := [.index 82]) (s' := []) rfl rfl (bcq_of (n_ := 9) (z_ := (6, 2)) HS2 rfl) rfl (xcc_l (List.forall_mem_cons.mpr ⟨rfl, List.forall_mem_cons.mpr ⟨xidx_i (bcq_lt (bcq_of (n_ := 1) (z_ := (10, 15)) HS2 rfl)), List.forall_mem_cons.mpr ⟨xidx_i (bcq_lt (bcq_of (n_ := 74) (z_ := (10, 15)) HS2 rfl)), fun q_ hq => absurd hq List.not_mem_nil⟩⟩⟩) (fun t_ ht => absurd ht List.not_mem_nil) (Nat.le_of_ble_eq_true rfl)) s2_
  obtain ⟨i2_, p2_, v2, d2_⟩ := wsr2 (v2 := y_) G2_
  have HS3 := p2_.1
  have MM3 := ysm_tr MM2 (ysm_tr n2_ p2_)
  have FF2 : ∀ c_ j_, ¬ c_ = 9 → ¬ c_ = 10 → bpat i2_ c_ j_ = bpat i1_ c_ j_ := fun c_ j_ z1 z2 => (v2 c_ j_).trans (u2_ c_ j_ z1 z2)
  have RR2 := rwx_keep Q2_ p2_ (fun c_ j_ _ => v2 c_ j_)
  have R03 := rwx_keep X2 MM3 (fun c2_ j_ hc2 => (FF2 c2_ j_ (by omega) (by omega)).trans ((FF1 c2_ j_ (by omega) (by omega)).trans ((FF0 c2_ j_ (by omega) (by omega)).trans (F3 c2_ j_ (by omega)))))
  -- row 3
  obtain ⟨g3_, G3, Q3, n3_, u3, s3_⟩ := copyFrom10 HS3 (bcq_of (n_ := 11) (z_ := (6, 2)) HS3 rfl) (bcq_of (n_ := 12) (z_ := (20, 10)) HS3 rfl) (fxr_at HS3.2 (show fxk fxl 11 0 = some 12 by decide +kernel)) (R03).2.2.1 (R03)
  have e3_ := ycv (mi := 63) (pc := 143) (lo_ := [(2, .int y_), (0, .index 1), (1, .index 74)]) (st_ := [.index 84, .index 11]) (as_ := [.index 84]) (s' := []) rfl rfl (bcq_of (n_ := 11) (z_ := (6, 2)) HS3 rfl) rfl (xcc_l (List.forall_mem_cons.mpr ⟨rfl, List.forall_mem_cons.mpr ⟨xidx_i (bcq_lt (bcq_of (n_ := 1) (z_ := (10, 15)) HS3 rfl)), List.forall_mem_cons.mpr ⟨xidx_i (bcq_lt (bcq_of (n_ := 74) (z_ := (10, 15)) HS3 rfl)), fun q_ hq => absurd hq List.not_mem_nil⟩⟩⟩) (fun t_ ht => absurd ht List.not_mem_nil) (Nat.le_of_ble_eq_true rfl)) s3_
  obtain ⟨i3_, p3_, v3, d3_⟩ := wsr3 (v2 := y_) G3
  have HS4 := p3_.1
  have MM4 := ysm_tr MM3 (ysm_tr n3_ p3_)
  have FF3 : ∀ c_ j_, ¬ c_ = 11 → ¬ c_ = 12 → bpat i3_ c_ j_ = bpat i2_ c_ j_ := fun c_ j_ z1 z2 => (v3 c_ j_).trans (u3 c_ j_ z1 z2)
  have RR3 := rwx_keep Q3 p3_ (fun c_ j_ _ => v3 c_ j_)
  have R04 := rwx_keep X3 MM4 (fun c2_ j_ hc2 => (FF3 c2_ j_ (by omega) (by omega)).trans ((FF2 c2_ j_ (by omega) (by omega)).trans ((FF1 c2_ j_ (by omega) (by omega)).trans ((FF0 c2_ j_ (by omega) (by omega)).trans (F3 c2_ j_ (by omega))))))
  -- row 4
  obtain ⟨g4, G4, Q4, n4_, u4_, s4_⟩ := copyFrom10 HS4 (bcq_of (n_ := 13) (z_ := (6, 2)) HS4 rfl) (bcq_of (n_ := 14) (z_ := (20, 10)) HS4 rfl) (fxr_at HS4.2 (show fxk fxl 13 0 = some 14 by decide +kernel)) (R04).2.2.1 (R04)
  have e4_ := ycv (mi := 63) (pc := 154) (lo_ := [(2, .int y_), (0, .index 1), (1, .index 74)]) (st_ := [.index 86, .index 13]) (as_ := [.index 86]) (s' := []) rfl rfl (bcq_of (n_ := 13) (z_ := (6, 2)) HS4 rfl) rfl (xcc_l (List.forall_mem_cons.mpr ⟨rfl, List.forall_mem_cons.mpr ⟨xidx_i (bcq_lt (bcq_of (n_ := 1) (z_ := (10, 15)) HS4 rfl)), List.forall_mem_cons.mpr ⟨xidx_i (bcq_lt (bcq_of (n_ := 74) (z_ := (10, 15)) HS4 rfl)), fun q_ hq => absurd hq List.not_mem_nil⟩⟩⟩) (fun t_ ht => absurd ht List.not_mem_nil) (Nat.le_of_ble_eq_true rfl)) s4_
  obtain ⟨i4_, p4_, v4_, d4_⟩ := wsr4 (v2 := y_) G4
  have HS5 := p4_.1
  have MM5 := ysm_tr MM4 (ysm_tr n4_ p4_)
  have FF4 : ∀ c_ j_, ¬ c_ = 13 → ¬ c_ = 14 → bpat i4_ c_ j_ = bpat i3_ c_ j_ := fun c_ j_ z1 z2 => (v4_ c_ j_).trans (u4_ c_ j_ z1 z2)
  have RR4 := rwx_keep Q4 p4_ (fun c_ j_ _ => v4_ c_ j_)
  have FA : ∀ c_ j_, ¬ (5 + 0 ≤ c_ ∧ c_ ≤ 14 + 0) → bpat i4_ c_ j_ = bpat h3 c_ j_ := fun c_ j_ n_ => (FF4 c_ j_ (by omega) (by omega)).trans ((FF3 c_ j_ (by omega) (by omega)).trans ((FF2 c_ j_ (by omega) (by omega)).trans ((FF1 c_ j_ (by omega) (by omega)).trans (FF0 c_ j_ (by omega) (by omega)))))
  have FB : ∀ c_ j_, ¬ (5 + 0 ≤ c_ ∧ c_ ≤ 14 + 0) → ¬ (34 + 0 ≤ c_ ∧ c_ ≤ 73 + 0) → bpat i4_ c_ j_ = bpat h_ c_ j_ := fun c_ j_ n1_ n2_ => (FA c_ j_ n1_).trans (F3 c_ j_ n2_)
  obtain ⟨k0_, q0, b0, j0⟩ := wjrE HS5
  obtain ⟨k1_, q1_, b1, j1⟩ := w5_r 8 0 k0_ (by omega) q0.1 (fun c_ hc_ => by
    obtain ⟨l, R_⟩ := ej c_ hc_
    exact ⟨l, rwx_keep R_ (ysm_tr MM5 q0) (fun c2_ j_ hc2 => (b0 _ _).trans (FB c2_ j_ (by omega) (by omega)))⟩) ⟨y1, y2, ((b0 _ _).trans (FB _ _ (by omega) (by omega))).trans I1, ((b0 _ _).trans (FB _ _ (by omega) (by omega))).trans I2_⟩ ⟨((b0 _ _).trans (FB _ _ (by omega) (by omega))).trans eo.1, ((b0 _ _).trans (FB _ _ (by omega) (by omega))).trans eo.2⟩
  have ej2 := ycv (mi := 63) (pc := 165) (lo_ := [(2, .int y_), (0, .index 1), (1, .index 74)]) (st_ := [.index 88, .index 15]) (as_ := [.index 88]) (s' := []) (d_ := 61) rfl rfl (bcq_of (n_ := 15) (z_ := (2, 3)) HS5 rfl) rfl (xcc_l (List.forall_mem_cons.mpr ⟨rfl, List.forall_mem_cons.mpr ⟨xidx_i (bcq_lt (bcq_of (n_ := 1) (z_ := (10, 15)) HS5 rfl)), List.forall_mem_cons.mpr ⟨xidx_i (bcq_lt (bcq_of (n_ := 74) (z_ := (10, 15)) HS5 rfl)), fun q_ hq => absurd hq List.not_mem_nil⟩⟩⟩) (fun t_ ht => absurd ht List.not_mem_nil) (Nat.le_of_ble_eq_true rfl)) (fun D_ hD => j0 D_ (by omega) _ (j1 D_ hD))
  have FK_ : ∀ c_ j_, ¬ (15 + 0 ≤ c_ ∧ c_ ≤ 32 + 0) → bpat k1_ c_ j_ = bpat i4_ c_ j_ := fun c_ j_ n_ => (b1 c_ j_ n_).trans (b0 c_ j_)
  have FC_ : ∀ c_ j_, ¬ (5 + 0 ≤ c_ ∧ c_ ≤ 32 + 0) → ¬ (34 + 0 ≤ c_ ∧ c_ ≤ 73 + 0) → bpat k1_ c_ j_ = bpat h_ c_ j_ := fun c_ j_ n1_ n2_ => (FK_ c_ j_ (by omega)).trans (FB c_ j_ (by omega) n2_)
  have vk : ∀ {a_ j_ k_ : Nat}, ((a_, j_), k_) ∈ wvX → a_ + 73 = 74 → bpat k1_ 74 j_ = some (.int (V (100 + k_))) := fun hk e_ => by
    have z_ := vx hk
    rw [e_] at z_
    exact (FC_ _ _ (by omega) (by omega)).trans z_
  obtain ⟨t_, q2_, a13, a12, a11, a10, a9, b2, r2⟩ := wzr (v2 := y_) q1_.1 (vk (show ((1, 9), 0) ∈ wvX by decide) rfl) (vk (show ((1, 10), 1) ∈ wvX by decide) rfl) ((FC_ _ _ (by omega) (by omega)).trans I0_) (vk (show ((1, 12), 3) ∈ wvX by decide) rfl) (vk (show ((1, 13), 4) ∈ wvX by decide) rfl)
  have FT : ∀ c_ j_, ¬ c_ = 1 → bpat t_ c_ j_ = bpat k1_ c_ j_ := fun c_ j_ n_ => b2 c_ j_ (fun q_ => n_ q_.1) (fun q_ => n_ q_.1) (fun q_ => n_ q_.1) (fun q_ => n_ q_.1) (fun q_ => n_ q_.1)
  have MT := ysm_tr MM5 (ysm_tr q0 (ysm_tr q1_ q2_))
  have tail_ : ∀ c_ j_, ¬ c_ = 1 → ¬ (15 + 0 ≤ c_ ∧ c_ ≤ 32 + 0) → bpat t_ c_ j_ = bpat i4_ c_ j_ := fun c_ j_ n1_ n2_ => (FT c_ j_ n1_).trans (FK_ c_ j_ n2_)
  have MQ := ysm_tr q0 (ysm_tr q1_ q2_)
  refine ⟨t_, MT, ⟨fun c_ j_ n_ => (FT c_ j_ (by omega)).trans (FC_ c_ j_ (by omega) (by omega)), _, a11⟩, ⟨fun p_ hp => ?_, fun p_ hp => ?_⟩, fun D_ hD => ld0 D_ (by omega) _ (ld1 D_ (by omega) _ (ld2 D_ (by omega) _ (ld3 D_ (by omega) _ (e0_ D_ (by omega) _ (d0_ D_ (by omega) _ (e1_ D_ (by omega) _ (d1_ D_ (by omega) _ (e2_ D_ (by omega) _ (d2_ D_ (by omega) _ (e3_ D_ (by omega) _ (d3_ D_ (by omega) _ (e4_ D_ (by omega) _ (d4_ D_ (by omega) _ (ej2 D_ (by omega) _ (r2 D_ (by omega))))))))))))))))⟩
  · have w_ := List.all_eq_true.mp wvX_s p_ hp
    simp only [Bool.or_eq_true, decide_eq_true_eq] at w_
    rcases w_ with rfl | rfl | rfl | rfl | w_
    · exact a9
    · exact a10
    · exact a12
    · exact a13
    · obtain ⟨k_, hk, w_⟩ := List.any_eq_true.mp w_
      obtain ⟨j_, hj, w_⟩ := List.any_eq_true.mp w_
      have w_ := of_decide_eq_true w_
      subst w_
      have e_ := P2_ k_ (List.mem_range.mp hk) j_ (List.mem_range.mp hj)
      have hk8 := List.mem_range.mp hk
      show bpat t_ (58 + k_ + 0) j_ = _
      rw [tail_ _ _ (by omega) (by omega), FA _ _ (by omega), f3_ _ _ (by omega), show 58 + k_ + 0 = 58 + 0 + k_ by omega]
      exact e_
  · have w_ := List.all_eq_true.mp wrX_s p_ hp
    simp only [Bool.or_eq_true, decide_eq_true_eq] at w_
    rcases w_ with rfl | rfl | rfl | rfl | w_
    · show rwx t_ (5 + 0) (6 + 0) 60 _
      exact rwx_keep (a_ := 5 + 0) (b_ := 6 + 0) RR0 (ysm_tr (ysm_tr n1_ p1_) (ysm_tr (ysm_tr n2_ p2_) (ysm_tr (ysm_tr n3_ p3_) (ysm_tr (ysm_tr n4_ p4_) MQ)))) (fun c2_ j_ hc2 => by rw [tail_ _ _ (by omega) (by omega), FF4 _ _ (by omega) (by omega), FF3 _ _ (by omega) (by omega), FF2 _ _ (by omega) (by omega), FF1 _ _ (by omega) (by omega)])
    · show rwx t_ (7 + 0) (8 + 0) 24 _
      exact rwx_keep (a_ := 7 + 0) (b_ := 8 + 0) RR1 (ysm_tr (ysm_tr n2_ p2_) (ysm_tr (ysm_tr n3_ p3_) (ysm_tr (ysm_tr n4_ p4_) MQ))) (fun c2_ j_ hc2 => by rw [tail_ _ _ (by omega) (by omega), FF4 _ _ (by omega) (by omega), FF3 _ _ (by omega) (by omega), FF2 _ _ (by omega) (by omega)])
    · show rwx t_ (67 + 0) (68 + 0) 60 _
      exact rwx_keep (a_ := 67 + 0) (b_ := 68 + 0) (P3 0 (by omega)) (ysm_tr (ysm_tr n0_ p0_) (ysm_tr (ysm_tr n1_ p1_) (ysm_tr (ysm_tr n2_ p2_) (ysm_tr (ysm_tr n3_ p3_) (ysm_tr (ysm_tr n4_ p4_) MQ))))) (fun c2_ j_ hc2 => by rw [tail_ _ _ (by omega) (by omega), FA _ _ (by omega)])
    · show rwx t_ (71 + 0) (72 + 0) 60 _
      exact rwx_keep (a_ := 71 + 0) (b_ := 72 + 0) (P3 1 (by omega)) (ysm_tr (ysm_tr n0_ p0_) (ysm_tr (ysm_tr n1_ p1_) (ysm_tr (ysm_tr n2_ p2_) (ysm_tr (ysm_tr n3_ p3_) (ysm_tr (ysm_tr n4_ p4_) MQ))))) (fun c2_ j_ hc2 => by rw [tail_ _ _ (by omega) (by omega), FA _ _ (by omega)])
    · obtain ⟨c_, hc_, w_⟩ := List.any_eq_true.mp w_
      have w_ := of_decide_eq_true w_
      subst w_
      have hc12 := List.mem_range.mp hc_
      have e_ := P1_ c_ hc12
      show rwx t_ (34 + 2 * c_ + 0) (35 + 2 * c_ + 0) 12 _
      rw [show 34 + 2 * c_ + 0 = 34 + 0 + 2 * c_ by omega, show 35 + 2 * c_ + 0 = 35 + 0 + 2 * c_ by omega]
      exact rwx_keep e_ (ysm_tr m2_ (ysm_tr m3_ (ysm_tr (ysm_tr n0_ p0_) (ysm_tr (ysm_tr n1_ p1_) (ysm_tr (ysm_tr n2_ p2_) (ysm_tr (ysm_tr n3_ p3_) (ysm_tr (ysm_tr n4_ p4_) MQ))))))) (fun c2_ j_ hc2 => by rw [tail_ _ _ (by omega) (by omega), FA _ _ (by omega), f3_ _ _ (by omega), f2_ _ _ (by omega)])
