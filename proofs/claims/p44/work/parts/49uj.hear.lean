-- ===== the reference: goesOver
theorem frz_w {b_ N_ : Nat} {kd m_ : Nat → Nat} {ys : List (Int32 × Int32)} {h_ h' : xH} (H_ : wrd N_ kd m_ ys h_) (hs : sHp h_) (kb : bcq h_ b_ 20 13) (F_ : frz b_ h_ h') : wrd N_ kd m_ ys h' := wrd_fr H_ (fun j_ => F_.2 339 j_ (bcq_nl (bcq_of (n_ := 339) (z_ := (20, 768)) hs rfl) kb (by decide)) (by decide) (by decide))
theorem gs_lp {b_ N_ n_ : Nat} {kd m_ : Nat → Nat} {xs : List Int32} {ys : List (Int32 × Int32)} (C_ : wrc N_ xs) (hP : txp xs ys) (hn : n_ ≤ 9999) (hW : ∀ x_ ∈ dgl n_ (wln n_), 0 ≤ x_.toInt ∧ x_.toInt < N_) : ∀ (j_ i_ : Nat) (l : List Int32) (h_ : xH), i_ + j_ = wln n_ → wrd N_ kd m_ ys h_ → sds l → rM b_ h_ l → ∃ h', rM b_ h' (hrf kd m_ xs ((dgl n_ (wln n_)).drop i_) l) ∧ frz b_ h_ h' ∧ ∀ D_, 64 ≤ D_ → xrun D_ 155 8 [(4, .int (Int32.ofNat i_)), (3, .int (Int32.ofNat (wln n_))), (0, .index 338), (1, .int (Int32.ofNat n_)), (2, .index b_)] [] h_ (none, h', []) := by
  obtain ⟨hN_, hL, hX, hE⟩ := C_
  have w5 : wln n_ ≤ 5 := wlf_le
  intro j_
  induction j_ with
  | zero =>
    intro i_ l h_ hi_ H_ S_ R_
    obtain ⟨h1, m1_, f1_, r1_⟩ := rgo (v1_ := Int32.ofNat n_) (v3 := Int32.ofNat (wln n_)) (v4_ := Int32.ofNat i_) R_.1 R_.2.1.1 (by rw [i32n (by omega), i32n (by omega)]; omega)
    rw [List.drop_eq_nil_of_le (by rw [dgl_len]; omega)]
    exact ⟨h1, rM_all R_ m1_ f1_, ⟨m1_, fun c_ j_ _ _ _ => f1_ c_ j_⟩, fun D_ hD => r1_ D_ (by omega)⟩
  | succ j_ ih_ =>
    intro i_ l h_ hi_ H_ S_ R_
    have hi2 : i_ < (dgl n_ (wln n_)).length := by rw [dgl_len]; omega
    have gi : (dgl n_ (wln n_))[i_]? = some (dgl n_ (wln n_))[i_] := List.getElem?_eq_getElem hi2
    have gd_ : Int32.ofNat (dgt n_ i_) - 1 = (dgl n_ (wln n_))[i_] := by
      have e_ := dgl_dgt (n_ := n_) (i_ := i_) (by omega)
      rw [gi] at e_
      exact (Option.some.inj e_).symm
    obtain ⟨w1_, w2_⟩ := hW _ (List.getElem_mem hi2)
    have kN_ : (dgl n_ (wln n_))[i_].toInt.toNat < N_ := by omega
    have ek : (dgl n_ (wln n_))[i_] = Int32.ofNat (dgl n_ (wln n_))[i_].toInt.toNat := by
      refine Int32.toInt_inj.mp ?_
      rw [i32n (by omega)]
      omega
    obtain ⟨h1, m1_, f1_, ld1⟩ := tgo (v1_ := Int32.ofNat n_) (v3 := Int32.ofNat (wln n_)) (v4_ := Int32.ofNat i_) R_.1 R_.2.1.1 (by rw [i32n (by omega), i32n (by omega)]; omega)
    have T1 : bcq h1 338 12 26 := bcq_of (n_ := 338) (z_ := (12, 26)) m1_.1 rfl
    have R1 := rM_all R_ m1_ f1_
    have B1 := R1.2.1.1
    have c1_ := ycs (mi := 155) (pc := 18) (cm := 154) (lo_ := [(4, .int (Int32.ofNat i_)), (3, .int (Int32.ofNat (wln n_))), (0, .index 338), (1, .int (Int32.ofNat n_)), (2, .index b_)]) (st_ := [.int (Int32.ofNat i_), .int (Int32.ofNat n_), .index 338]) (as_ := [.int (Int32.ofNat n_), .int (Int32.ofNat i_)]) (s' := [.index 338]) rfl rfl rfl (xcc_l (List.forall_mem_cons.mpr ⟨rfl, List.forall_mem_cons.mpr ⟨rfl, List.forall_mem_cons.mpr ⟨xidx_i (bcq_lt T1), List.forall_mem_cons.mpr ⟨rfl, List.forall_mem_cons.mpr ⟨xidx_i (bcq_lt B1), fun q_ hq => absurd hq List.not_mem_nil⟩⟩⟩⟩⟩) (List.forall_mem_cons.mpr ⟨⟨xidx_i (bcq_lt T1), rfl⟩, fun t_ ht => absurd ht List.not_mem_nil⟩) (by decide)) (fun D_ hD => roM (n_ := n_) (i_ := i_) (by omega) (by omega) h1 D_ hD)
    rw [gd_] at c1_
    obtain ⟨h2, m2_, f2_, ld2⟩ := ugo (v1_ := Int32.ofNat n_) (v3 := Int32.ofNat (wln n_)) (v4_ := Int32.ofNat i_) (v300 := (dgl n_ (wln n_))[i_]) R1.1 B1
    have R2 := rM_all R1 m2_ f2_
    have B2 := R2.2.1.1
    have T2 : bcq h2 338 12 26 := bcq_of (n_ := 338) (z_ := (12, 26)) m2_.1 rfl
    have F02 : frz b_ h_ h2 := frz_tr ⟨m1_, fun c_ j_ _ _ _ => f1_ c_ j_⟩ ⟨m2_, fun c_ j_ _ _ _ => f2_ c_ j_⟩
    have H2_ := frz_w H_ R_.1 R_.2.1.1 F02
    obtain ⟨⟨k1_, k2_⟩, d1_, d2_⟩ := H2_.1 _ kN_
    obtain ⟨h3, R3, F3, E3⟩ := seA S_ (show (dgl n_ (wln n_))[i_].toInt.toNat < 8 by omega) k1_ k2_ d1_ d2_ (bcq_nl B2 (bcq_of (n_ := 346) (z_ := (20, 128)) m2_.1 rfl) (by decide)) (bcq_nl B2 (bcq_of (n_ := 347) (z_ := (20, 64)) m2_.1 rfl) (by decide)) (bcq_nl B2 (bcq_of (n_ := 339) (z_ := (20, 768)) m2_.1 rfl) (by decide)) R2 H2_.2 hP hL hE
    rw [← ek] at E3
    have c3_ := ycv (mi := 155) (pc := 22) (cm := 151) (lo_ := [(4, .int (Int32.ofNat i_)), (3, .int (Int32.ofNat (wln n_))), (0, .index 338), (1, .int (Int32.ofNat n_)), (2, .index b_)]) (st_ := [.index b_, .int (dgl n_ (wln n_))[i_], .index 338]) (as_ := [.int (dgl n_ (wln n_))[i_], .index b_]) (s' := []) rfl rfl T2 rfl (xcc_l (List.forall_mem_cons.mpr ⟨rfl, List.forall_mem_cons.mpr ⟨rfl, List.forall_mem_cons.mpr ⟨xidx_i (bcq_lt T2), List.forall_mem_cons.mpr ⟨rfl, List.forall_mem_cons.mpr ⟨xidx_i (bcq_lt B2), fun q_ hq => absurd hq List.not_mem_nil⟩⟩⟩⟩⟩) (fun t_ ht => absurd ht List.not_mem_nil) (by decide)) E3
    obtain ⟨h4, m4_, f4_, ld4⟩ := ngo (v1_ := Int32.ofNat n_) (v3 := Int32.ofNat (wln n_)) (v4_ := Int32.ofNat i_) R3.1 R3.2.1.1
    have R4 := rM_all R3 m4_ f4_
    rw [i32s] at ld4
    have F04 : frz b_ h_ h4 := frz_tr F02 (frz_tr F3 ⟨m4_, fun c_ j_ _ _ _ => f4_ c_ j_⟩)
    obtain ⟨h5, R5, F5, E5⟩ := ih_ (i_ + 1) _ h4 (by omega) (frz_w H_ R_.1 R_.2.1.1 F04) (sds_sdo S_) R4
    refine ⟨h5, ?_, frz_tr F04 F5, fun D_ hD => ld1 D_ (by omega) _ (c1_ D_ (by omega) _ (ld2 D_ (by omega) _ (c3_ D_ (by omega) _ (ld4 D_ (by omega) _ (E5 D_ hD)))))⟩
    rw [List.drop_eq_getElem_cons hi2]
    exact R5
/-- goesOver, the reference -/
theorem gsM {b_ N_ n_ : Nat} {kd m_ : Nat → Nat} {xs l : List Int32} {ys : List (Int32 × Int32)} {h_ : xH} (C_ : wrc N_ xs) (hP : txp xs ys) (hn : n_ ≤ 9999) (hW : ∀ x_ ∈ dgl n_ (wln n_), 0 ≤ x_.toInt ∧ x_.toInt < N_) (H_ : wrd N_ kd m_ ys h_) (S_ : sds l) (R_ : rM b_ h_ l) : ∃ h', rM b_ h' (hrf kd m_ xs (dgl n_ (wln n_)) l) ∧ frz b_ h_ h' ∧ ∀ D_, 64 ≤ D_ → xrun D_ 155 0 [(0, .index 338), (1, .int (Int32.ofNat n_)), (2, .index b_)] [] h_ (none, h', []) := by
  obtain ⟨h0, m0_, f0_, ld0⟩ := ego (v1_ := Int32.ofNat n_) R_.1 R_.2.1.1
  have T0_ : bcq h0 338 12 26 := bcq_of (n_ := 338) (z_ := (12, 26)) m0_.1 rfl
  have R0_ := rM_all R_ m0_ f0_
  have B0 := R0_.2.1.1
  have c1_ := ycs (mi := 155) (pc := 1) (cm := 153) (lo_ := [(0, .index 338), (1, .int (Int32.ofNat n_)), (2, .index b_)]) (st_ := [.int (Int32.ofNat n_)]) (as_ := [.int (Int32.ofNat n_)]) (s' := []) rfl rfl rfl (xcc_l (List.forall_mem_cons.mpr ⟨xidx_i (bcq_lt T0_), List.forall_mem_cons.mpr ⟨rfl, List.forall_mem_cons.mpr ⟨xidx_i (bcq_lt B0), fun q_ hq => absurd hq List.not_mem_nil⟩⟩⟩) (fun t_ ht => absurd ht List.not_mem_nil) (by decide)) (fun D_ hD => szM (n_ := n_) (by omega) h0 D_ hD)
  obtain ⟨h1, m1_, f1_, ld1⟩ := fgo (v1_ := Int32.ofNat n_) (v300 := Int32.ofNat (wln n_)) R0_.1 B0
  have R1 := rM_all R0_ m1_ f1_
  have F_ : frz b_ h_ h1 := frz_tr ⟨m0_, fun c_ j_ _ _ _ => f0_ c_ j_⟩ ⟨m1_, fun c_ j_ _ _ _ => f1_ c_ j_⟩
  obtain ⟨h2, R2, F2, E2⟩ := gs_lp C_ hP hn hW (wln n_) 0 l h1 (by omega) (frz_w H_ R_.1 R_.2.1.1 F_) S_ R1
  exact ⟨h2, R2, frz_tr F_ F2, fun D_ hD => ld0 D_ (by omega) _ (c1_ D_ (by omega) _ (ld1 D_ (by omega) _ (E2 D_ hD)))⟩
/-- hears, the reference: a CALL's row HEARD over a WAY -/
theorem hearsM {b_ c_ N_ n_ : Nat} {kd m_ : Nat → Nat} {xs l : List Int32} {ys : List (Int32 × Int32)} {h_ : xH} (C_ : wrc N_ xs) (hP : txp xs ys) (hc_ : c_ < 12) (hn : n_ ≤ 9999) (hW : ∀ x_ ∈ dgl n_ (wln n_), 0 ≤ x_.toInt ∧ x_.toInt < N_) (hs : sHp h_) (H_ : wrd N_ kd m_ ys h_) (S_ : sds l) (kb : bcq h_ b_ 20 13) (hl : l.length ≤ 12) (hz : ∀ j_, j_ < 13 → ∃ y_ : Int32, bpat h_ 339 (34 + 13 * c_ + j_) = some (.int y_)) (R_ : rwm h_ 339 (34 + 13 * c_) 768 l) : ∃ h', rM b_ h' (hrf kd m_ xs (dgl n_ (wln n_)) l) ∧ frz b_ h_ h' ∧ ∀ D_, 65 ≤ D_ → xrun D_ 156 0 [(0, .index 338), (1, .int (Int32.ofNat c_)), (2, .int (Int32.ofNat n_)), (3, .index b_)] [] h_ (none, h', []) := by
  have n339 : ¬ b_ = 339 := bcq_nl kb (bcq_of (n_ := 339) (z_ := (20, 768)) hs rfl) (by decide)
  have ec : (34 : Int32) + 13 * Int32.ofNat c_ = Int32.ofNat (34 + 13 * c_) := by
    have k_ : (List.range 12).all (fun c_ => decide ((34 : Int32) + 13 * Int32.ofNat c_ = Int32.ofNat (34 + 13 * c_))) = true := by decide +kernel
    exact of_decide_eq_true (List.all_eq_true.mp k_ c_ (List.mem_range.mpr hc_))
  obtain ⟨h0, m0_, f0_, ld0⟩ := ehs (v1_ := Int32.ofNat c_) (v2 := Int32.ofNat n_) hs kb
  rw [ec] at ld0
  have T0_ : bcq h0 338 12 26 := bcq_of (n_ := 338) (z_ := (12, 26)) m0_.1 rfl
  have B0 := m0_.2 _ _ _ kb
  obtain ⟨h1, R1, F1_, E1_⟩ := takeM (q_ := 34 + 13 * c_) n339 (by omega) m0_.1 B0 hl (fun j_ hj => by rw [f0_]; exact hz j_ hj) (rwm_keep R_ m0_ (fun j_ _ _ => f0_ 339 j_))
  have c1_ := ycv (mi := 156) (pc := 9) (cm := 145) (lo_ := [(0, .index 338), (1, .int (Int32.ofNat c_)), (2, .int (Int32.ofNat n_)), (3, .index b_)]) (st_ := [.index b_, .int (Int32.ofNat (34 + 13 * c_)), .index 338]) (as_ := [.int (Int32.ofNat (34 + 13 * c_)), .index b_]) (s' := []) rfl rfl T0_ rfl (xcc_l (List.forall_mem_cons.mpr ⟨xidx_i (bcq_lt T0_), List.forall_mem_cons.mpr ⟨rfl, List.forall_mem_cons.mpr ⟨rfl, List.forall_mem_cons.mpr ⟨xidx_i (bcq_lt B0), fun q_ hq => absurd hq List.not_mem_nil⟩⟩⟩⟩) (fun t_ ht => absurd ht List.not_mem_nil) (by decide)) E1_
  obtain ⟨h2, m2_, f2_, ld2⟩ := fhs (v1_ := Int32.ofNat c_) (v2 := Int32.ofNat n_) R1.1 R1.2.1.1
  have R2 := rM_all R1 m2_ f2_
  have T2 : bcq h2 338 12 26 := bcq_of (n_ := 338) (z_ := (12, 26)) m2_.1 rfl
  have B2 := R2.2.1.1
  have F_ : frz b_ h_ h2 := frz_tr ⟨m0_, fun c_ j_ _ _ _ => f0_ c_ j_⟩ (frz_tr (frz_b F1_) ⟨m2_, fun c_ j_ _ _ _ => f2_ c_ j_⟩)
  obtain ⟨h3, R3, F3, E3⟩ := gsM C_ hP hn hW (frz_w H_ hs kb F_) S_ R2
  have c3_ := ycv (mi := 156) (pc := 15) (cm := 155) (lo_ := [(0, .index 338), (1, .int (Int32.ofNat c_)), (2, .int (Int32.ofNat n_)), (3, .index b_)]) (st_ := [.index b_, .int (Int32.ofNat n_), .index 338]) (as_ := [.int (Int32.ofNat n_), .index b_]) (s' := []) rfl rfl T2 rfl (xcc_l (List.forall_mem_cons.mpr ⟨xidx_i (bcq_lt T2), List.forall_mem_cons.mpr ⟨rfl, List.forall_mem_cons.mpr ⟨rfl, List.forall_mem_cons.mpr ⟨xidx_i (bcq_lt B2), fun q_ hq => absurd hq List.not_mem_nil⟩⟩⟩⟩) (fun t_ ht => absurd ht List.not_mem_nil) (by decide)) E3
  obtain ⟨h4, m4_, f4_, r4⟩ := rhs (v1_ := Int32.ofNat c_) (v2 := Int32.ofNat n_) R3.1 R3.2.1.1
  exact ⟨h4, rM_all R3 m4_ f4_, frz_tr F_ (frz_tr F3 ⟨m4_, fun c_ j_ _ _ _ => f4_ c_ j_⟩), fun D_ hD => ld0 D_ (by omega) _ (c1_ D_ (by omega) _ (ld2 D_ (by omega) _ (c3_ D_ (by omega) _ (r4 D_ (by omega)))))⟩
