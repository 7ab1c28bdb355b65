-- ===== shout, seconds: the reference
theorem la_q {b_ q_ : Nat} {l : List Int32} (nb : ¬ b_ = 339) (hq : q_ + 13 ≤ 768) (hl : l.length ≤ 12) : ∀ (k_ i_ : Nat) (h_ : xH), i_ + k_ = 13 → rM b_ h_ l → mI h_ → ∃ h', (ysm h_ h' ∧ mI h') ∧ ((∀ c_ j_, ¬ (c_ = 339 ∧ (q_ ≤ j_ ∧ j_ < q_ + 13)) → bpat h' c_ j_ = bpat h_ c_ j_) ∧ ∀ D_, 60 ≤ D_ → xrun D_ 146 2 [(3, .int (Int32.ofNat i_)), (0, .index 338), (1, .index b_), (2, .int (Int32.ofNat q_))] [] h_ (none, h', [])) := by
  have z13_ : (13 : Int32).toInt = 13 := rfl
  intro k_
  induction k_ with
  | zero =>
    intro i_ h_ hi_ R_ I_
    obtain ⟨h1, m1_, f1_, r1_⟩ := xlay (v2 := Int32.ofNat q_) (v3 := Int32.ofNat i_) R_.1 R_.2.1.1 (by rw [i32n (by omega)]; omega)
    exact ⟨h1, ⟨m1_, mI_k I_ (fun j_ => f1_ _ _)⟩, fun c_ j_ _ => f1_ c_ j_, r1_⟩
  | succ k_ ih_ =>
    intro i_ h_ hi_ R_ I_
    have ia : (Int32.ofNat q_ + Int32.ofNat i_).toInt.toNat = q_ + i_ ∧ (0 ≤ (Int32.ofNat q_ + Int32.ofNat i_).toInt ∧ (Int32.ofNat q_ + Int32.ofNat i_).toInt < 768) := by
      rw [i32p, i32n (by omega)]
      omega
    have bi : 0 ≤ (Int32.ofNat i_).toInt ∧ (Int32.ofNat i_).toInt < 13 := by
      rw [i32n (by omega)]
      omega
    have fin_ : ∀ (h1 : xH) (y_ : Int32), ysm h_ h1 → bpat h1 339 (q_ + i_) = some (.int y_) → (∀ c_ j_, ¬ (c_ = 339 ∧ j_ = q_ + i_) → bpat h1 c_ j_ = bpat h_ c_ j_) → bldD 60 146 2 [(3, .int (Int32.ofNat i_)), (0, .index 338), (1, .index b_), (2, .int (Int32.ofNat q_))] [] h_ 2 [(3, .int (Int32.ofNat (i_ + 1))), (0, .index 338), (1, .index b_), (2, .int (Int32.ofNat q_))] [] h1 → ∃ h', (ysm h_ h' ∧ mI h') ∧ ((∀ c_ j_, ¬ (c_ = 339 ∧ (q_ ≤ j_ ∧ j_ < q_ + 13)) → bpat h' c_ j_ = bpat h_ c_ j_) ∧ ∀ D_, 60 ≤ D_ → xrun D_ 146 2 [(3, .int (Int32.ofNat i_)), (0, .index 338), (1, .index b_), (2, .int (Int32.ofNat q_))] [] h_ (none, h', [])) := by
      intro h1 y_ m1_ e1_ f1_ ld
      have R1 : rM b_ h1 l := ⟨m1_.1, rwm_keep R_.2.1 m1_ (fun j_ _ _ => f1_ b_ j_ (fun q2_ => nb q2_.1)), R_.2.2⟩
      obtain ⟨h2, ⟨m2_, I2_⟩, f2_, r2⟩ := ih_ (i_ + 1) h1 (by omega) R1 (mI_w I_ e1_ (fun j_ hj => f1_ _ _ (by omega)))
      exact ⟨h2, ⟨ysm_tr m1_ m2_, I2_⟩, fun c_ j_ n1_ => (f2_ c_ j_ n1_).trans (f1_ c_ j_ (by omega)), fun D_ hD => ld D_ hD _ (r2 D_ hD)⟩
    by_cases g_ : i_ ≤ l.length
    · have ex_ : ∃ y_, (Int32.ofNat l.length :: l)[i_]? = some y_ := ⟨_, List.getElem?_eq_getElem (by rw [List.length_cons]; omega)⟩
      obtain ⟨y_, hy⟩ := ex_
      have oy : bpat h_ b_ (Int32.ofNat i_).toInt.toNat = some (.int y_) := by
        rw [i32t (by omega)]
        cases i_ with
        | zero => cases hy; exact R_.2.1.2.1
        | succ i_ =>
          have e_ := R_.2.1.2.2 i_ y_ hy
          rw [show 0 + 1 + i_ = i_ + 1 by omega] at e_
          exact e_
      obtain ⟨h1, m1_, e1_, f1_, ld⟩ := tla1 (v2 := Int32.ofNat q_) (v3 := Int32.ofNat i_) R_.1 R_.2.1.1 R_.2.1.2.1 oy ia.2 bi (by rw [i32n (by omega), i32n (by omega)]; omega) (by rw [i32n (by omega)]; omega)
      rw [ia.1] at e1_ f1_
      rw [i32s] at ld
      exact fin_ h1 _ m1_ e1_ f1_ ld
    · obtain ⟨h1, m1_, e1_, f1_, ld⟩ := tla0 (v2 := Int32.ofNat q_) (v3 := Int32.ofNat i_) R_.1 R_.2.1.1 R_.2.1.2.1 ia.2 bi (by rw [i32n (by omega), i32n (by omega)]; omega) (by rw [i32n (by omega)]; omega)
      rw [ia.1] at e1_ f1_
      rw [i32s] at ld
      exact fin_ h1 _ m1_ e1_ f1_ ld
theorem layQ {b_ q_ : Nat} {l : List Int32} {h_ : xH} (nb : ¬ b_ = 339) (hq : q_ + 13 ≤ 768) (R_ : rM b_ h_ l) (I_ : mI h_) : ∃ h', (ysm h_ h' ∧ mI h') ∧ ((∀ c_ j_, ¬ (c_ = 339 ∧ (q_ ≤ j_ ∧ j_ < q_ + 13)) → bpat h' c_ j_ = bpat h_ c_ j_) ∧ ∀ D_, 60 ≤ D_ → xrun D_ 146 0 [(0, .index 338), (1, .index b_), (2, .int (Int32.ofNat q_))] [] h_ (none, h', [])) := by
  obtain ⟨h0, m0_, f0_, ld0⟩ := elay (v2 := Int32.ofNat q_) R_.1 R_.2.1.1
  obtain ⟨h1, ⟨m1_, I1⟩, f1_, r1_⟩ := la_q nb hq R_.2.2 13 0 h0 (by omega) (rM_all R_ m0_ f0_) (mI_k I_ (fun j_ => f0_ _ _))
  exact ⟨h1, ⟨ysm_tr m0_ m1_, I1⟩, fun c_ j_ n_ => (f1_ c_ j_ n_).trans (f0_ c_ j_), fun D_ hD => ld0 D_ hD _ (r1_ D_ hD)⟩
def tmEc (E_ : List eCo) : List Int32 := E_.map (fun e_ => e_.2.2)
theorem kp_m {nw : Int32} : ∀ (E_ : List eCo) (g_ : Nat), (∀ e_ ∈ E_, nw.toInt ≤ e_.2.2.toInt) → kpM nw (tmEc E_) = tmEc (kpF nw E_) ∧ lgT nw g_ (tmEc E_) = lgN nw g_ E_ := by
  intro E_
  induction E_ with
  | nil => intro g_ _; exact ⟨rfl, rfl⟩
  | cons e_ t_ ih_ =>
    intro g_ h_
    have he := h_ e_ List.mem_cons_self
    by_cases gt : e_.2.2 = nw
    · obtain ⟨a_, b_⟩ := ih_ (lgF g_) (fun x_ hx => h_ x_ (List.mem_cons_of_mem _ hx))
      have c1_ : kpM nw (tmEc (e_ :: t_)) = kpM nw (tmEc t_) := List.filter_cons_of_neg (by rw [decide_eq_true_eq]; exact fun q_ => q_ (show e_.2.2.toInt ≤ nw.toInt by rw [gt]; exact Int.le_refl _))
      have c2_ : kpF nw (e_ :: t_) = kpF nw t_ := List.filter_cons_of_neg (by rw [decide_eq_true_eq]; exact fun q_ => q_ gt)
      have c3_ : lgT nw g_ (tmEc (e_ :: t_)) = lgT nw (lgF g_) (tmEc t_) := by show lgT nw (if e_.2.2.toInt ≤ nw.toInt then lgF g_ else g_) (tmEc t_) = _; rw [if_pos (by rw [gt]; exact Int.le_refl _)]
      have c4_ : lgN nw g_ (e_ :: t_) = lgN nw (lgF g_) t_ := by show lgN nw (if e_.2.2 = nw then lgF g_ else g_) t_ = _; rw [if_pos gt]
      rw [c1_, c2_, c3_, c4_]
      exact ⟨a_, b_⟩
    · obtain ⟨a_, b_⟩ := ih_ g_ (fun x_ hx => h_ x_ (List.mem_cons_of_mem _ hx))
      have n_ : ¬ e_.2.2.toInt ≤ nw.toInt := fun q_ => gt (Int32.toInt_inj.mp (by omega))
      have c1_ : kpM nw (tmEc (e_ :: t_)) = e_.2.2 :: kpM nw (tmEc t_) := List.filter_cons_of_pos (by rw [decide_eq_true_eq]; exact n_)
      have c2_ : kpF nw (e_ :: t_) = e_ :: kpF nw t_ := List.filter_cons_of_pos (by rw [decide_eq_true_eq]; exact gt)
      have c3_ : lgT nw g_ (tmEc (e_ :: t_)) = lgT nw g_ (tmEc t_) := by show lgT nw (if e_.2.2.toInt ≤ nw.toInt then lgF g_ else g_) (tmEc t_) = _; rw [if_neg n_]
      have c4_ : lgN nw g_ (e_ :: t_) = lgN nw g_ t_ := by show lgN nw (if e_.2.2 = nw then lgF g_ else g_) t_ = _; rw [if_neg gt]
      rw [c1_, c2_, c3_, c4_, a_]
      exact ⟨rfl, b_⟩
theorem kp_a {nw x_ : Int32} : ∀ (T : List Int32) (g_ : Nat), (∀ t_ ∈ T, nw.toInt < t_.toInt) → kpM nw (T ++ [x_]) = T ++ kpM nw [x_] ∧ lgT nw g_ (T ++ [x_]) = lgT nw g_ [x_] := by
  intro T
  induction T with
  | nil => intro g_ _; exact ⟨rfl, rfl⟩
  | cons t_ u_ ih_ =>
    intro g_ h_
    have ht := h_ t_ List.mem_cons_self
    obtain ⟨a_, b_⟩ := ih_ g_ (fun y_ hy => h_ y_ (List.mem_cons_of_mem _ hy))
    have n_ : ¬ t_.toInt ≤ nw.toInt := by omega
    have c1_ : kpM nw (t_ :: (u_ ++ [x_])) = t_ :: kpM nw (u_ ++ [x_]) := List.filter_cons_of_pos (by rw [decide_eq_true_eq]; exact n_)
    have c3_ : lgT nw g_ (t_ :: (u_ ++ [x_])) = lgT nw g_ (u_ ++ [x_]) := by show lgT nw (if t_.toInt ≤ nw.toInt then lgF g_ else g_) (u_ ++ [x_]) = _; rw [if_neg n_]
    exact ⟨by show kpM nw (t_ :: (u_ ++ [x_])) = t_ :: (u_ ++ kpM nw [x_]); rw [c1_, a_], c3_.trans b_⟩
theorem ms_lp (x_ : Nat) (hx : x_ ≤ 60) : ∀ (n_ i_ : Nat) (S_ : List eCo × (Int32 × Nat)) (h_ : xH), i_ + n_ = x_ → S_.2.1.toInt + n_ ≤ 9999 → okE S_ → sHp h_ → mI h_ → EMr (tmEc S_.1) S_.2.1 S_.2.2 h_ → ∃ h', (ysm h_ h' ∧ mI h') ∧ (EMr (tmEc (snF n_ S_).1) (snF n_ S_).2.1 (snF n_ S_).2.2 h' ∧ ∀ D_, 64 ≤ D_ → xrun D_ 212 38 [(2, .int (Int32.ofNat i_)), (0, .index 338), (1, .int (Int32.ofNat x_))] [] h_ (some (.int (snF n_ S_).2.1), h', [])) := by
  intro n_
  have ix := i32n (i_ := x_) (by omega)
  induction n_ with
  | zero =>
    intro i_ S_ h_ hi_ hn KE SS_ I_ X_
    have ii := i32n (i_ := i_) (by omega)
    have lT : (tmEc S_.1).length ≤ 10 := by unfold tmEc; rw [List.length_map]; exact KE.1
    obtain ⟨h1, m1_, f1_, r1_⟩ := mscX (v1_ := Int32.ofNat x_) (v2 := Int32.ofNat i_) SS_ X_.1.1 (by omega)
    exact ⟨h1, ⟨m1_, mI_k I_ (fun j_ => f1_ _ _)⟩, EMr_k X_ lT (fun j_ _ => f1_ _ _), fun D_ hD => r1_ D_ (by omega)⟩
  | succ n_ ih_ =>
    intro i_ S_ h_ hi_ hn KE SS_ I_ X_
    have ii := i32n (i_ := i_) (by omega)
    have lT : (tmEc S_.1).length ≤ 10 := by unfold tmEc; rw [List.length_map]; exact KE.1
    have kn_ := KE.2.2.1
    have eu := i32u (a_ := S_.2.1) ⟨by omega, by omega⟩
    obtain ⟨h1, m1_, w0_, f1_, ld1⟩ := mscT (v1_ := Int32.ofNat x_) (v2 := Int32.ofNat i_) SS_ X_.1.1 (by omega)
    have I1 : mI h1 := mI_w I_ w0_ (fun j_ hj => f1_ _ _ (by omega))
    have X1 : EMr (tmEc S_.1) (S_.2.1 + 1) S_.2.2 h1 := ⟨⟨w0_, (f1_ _ _ (by omega)).trans X_.1.2⟩, (f1_ _ _ (by omega)).trans X_.2.1, fun k_ t_ hk => (f1_ _ _ (by omega)).trans (X_.2.2 k_ t_ hk)⟩
    obtain ⟨h2, ⟨⟨⟨m2_, I2_⟩, f2_⟩, X2⟩, r2⟩ := cmM lT KE.2.2.2 m1_.1 I1 X1
    obtain ⟨q1_, q2_⟩ := kp_m (nw := S_.2.1 + 1) S_.1 S_.2.2 (fun e_ he => by
      have z_ := (KE.2.1 e_ he).2.2.1
      omega)
    rw [q1_, q2_] at X2
    have ld2 := ycv (d_ := 62) (mi := 212) (pc := 54) (cm := 210) (lo_ := [(2, .int (Int32.ofNat i_)), (0, .index 338), (1, .int (Int32.ofNat x_))]) (st_ := [.index 338]) (as_ := []) (s' := []) rfl rfl (bcq_of (n_ := 338) (z_ := (12, 26)) m1_.1 rfl) rfl (xcc_l (List.forall_mem_cons.mpr ⟨rfl, List.forall_mem_cons.mpr ⟨xidx_i (bcq_lt (bcq_of (n_ := 338) (z_ := (12, 26)) m1_.1 rfl)), List.forall_mem_cons.mpr ⟨rfl, fun q_ hq => absurd hq List.not_mem_nil⟩⟩⟩) (fun t_ ht => absurd ht List.not_mem_nil) (Nat.le_of_ble_eq_true rfl)) r2
    obtain ⟨h3, m3_, f3_, ld3⟩ := mscN (v1_ := Int32.ofNat x_) (v2 := Int32.ofNat i_) m2_.1
    rw [i32s] at ld3
    obtain ⟨KE2, en⟩ := ok_s1 KE (by omega)
    have X3 : EMr (tmEc (s1F S_).1) (s1F S_).2.1 (s1F S_).2.2 h3 := EMr_k (X2 : EMr (tmEc (s1F S_).1) (s1F S_).2.1 (s1F S_).2.2 h2) (by unfold tmEc; rw [List.length_map]; exact KE2.1) (fun j_ _ => f3_ _ _)
    obtain ⟨h4, ⟨m4_, I4⟩, X4, r4⟩ := ih_ (i_ + 1) (s1F S_) h3 (by omega) (by omega) KE2 m3_.1 (mI_k I2_ (fun j_ => f3_ _ _)) X3
    exact ⟨h4, ⟨ysm_tr m1_ (ysm_tr m2_ (ysm_tr m3_ m4_)), I4⟩, X4, fun D_ hD => ld1 D_ (by omega) _ (ld2 D_ (by omega) _ (ld3 D_ (by omega) _ (r4 D_ hD)))⟩
theorem m_secE {S_ : List eCo × (Int32 × Nat)} {h_ : xH} {z_ : Int32} (B_ : bInv bZ bIj h_) (KE : okE S_) (X_ : EMr (tmEc S_.1) S_.2.1 S_.2.2 h_) : ∃ h', ysm h_ h' ∧ (EMr (tmEc (secE S_ z_).1.1) (secE S_ z_).1.2.1 (secE S_ z_).1.2.2 h' ∧ ∀ D_, 66 ≤ D_ → xrun D_ 212 0 [(0, .index 338), (1, .int z_)] [] h_ (some (.int (secE S_ z_).2), h', [])) := by
  obtain ⟨y_, oy⟩ := merr (k_ := 1) B_ (by omega)
  obtain ⟨y3, oy3⟩ := merr (k_ := 3) B_ (by omega)
  have z60_ : (60 : Int32).toInt = 60 := rfl
  have z1 : (1 : Int32).toInt = 1 := rfl
  have z9 : (9999 : Int32).toInt = 9999 := rfl
  have kn_ := KE.2.2.1
  have S0_ : sHp h_ := sHp_of B_
  have I_ : mI h_ := m339 B_
  have lT : (tmEc S_.1).length ≤ 10 := by unfold tmEc; rw [List.length_map]; exact KE.1
  have es : 1 ≤ z_.toInt → z_.toInt ≤ 60 → (S_.2.1 + z_).toInt = S_.2.1.toInt + z_.toInt := fun g1 g2 => i32j2 ⟨by omega, by omega⟩ ⟨by omega, by omega⟩
  unfold secE
  obtain ⟨h0, m0_, e_⟩ := mscE (v1_ := z_) S0_ oy X_.1.1 oy3
  rcases e_ with ⟨g1, g2, g3_, f_, r_⟩ | ⟨g1, w0_, f_, r_⟩ | ⟨g1, g2, w0_, f_, r_⟩ | ⟨g1, g2, g3_, w0_, f_, r_⟩
  · have q_ := es (by omega) (by omega)
    rw [if_pos ⟨by omega, by omega⟩, if_pos (by omega)]
    have ez : z_ = Int32.ofNat z_.toInt.toNat := Int32.toInt_inj.mp (by rw [i32n (by omega)]; omega)
    obtain ⟨h1, ⟨m1_, I1⟩, X1, r1_⟩ := ms_lp z_.toInt.toNat (by omega) z_.toInt.toNat 0 S_ h0 (by omega) (by omega) KE m0_.1 (mI_k I_ (fun j_ => f_ _ _)) (EMr_k X_ lT (fun j_ _ => f_ _ _))
    rw [← ez] at r1_
    exact ⟨h1, ysm_tr m0_ m1_, X1, fun D_ hD => r_ D_ (by omega) _ (r1_ D_ (by omega))⟩
  · rw [if_neg (fun q_ => by omega)]
    exact ⟨h0, m0_, EMr_k X_ lT (fun j_ _ => f_ _ _ (by omega)), fun D_ hD => r_ D_ (by omega)⟩
  · rw [if_neg (fun q_ => by omega)]
    exact ⟨h0, m0_, EMr_k X_ lT (fun j_ _ => f_ _ _ (by omega)), fun D_ hD => r_ D_ (by omega)⟩
  · have q_ := es (by omega) (by omega)
    rw [if_pos ⟨by omega, by omega⟩, if_neg (by omega)]
    exact ⟨h0, m0_, EMr_k X_ lT (fun j_ _ => f_ _ _ (by omega)), fun D_ hD => r_ D_ (by omega)⟩
theorem m_shE {W_ : Nat → List Int32} {V : Nat → Int32} {S_ : List eCo × (Int32 × Nat)} {h_ : xH} {z_ d_ : Int32} (B_ : bInv bZ bIj h_) (K_ : okS W_ V) (KE : okE S_) (H_ : SM W_ V h_) (X_ : EMr (tmEc S_.1) S_.2.1 S_.2.2 h_) : ∃ h', ysm h_ h' ∧ (EMr (tmEc (shE V S_ z_ d_).1.1) (shE V S_ z_ d_).1.2.1 (shE V S_ z_ d_).1.2.2 h' ∧ ∀ D_, 72 ≤ D_ → xrun D_ 211 0 [(0, .index 338), (1, .int z_), (2, .int d_)] [] h_ (some (.int (shE V S_ z_ d_).2), h', [])) := by
  obtain ⟨y_, oy⟩ := merr (k_ := 1) B_ (by omega)
  obtain ⟨y4, oy4⟩ := merr (k_ := 4) B_ (by omega)
  have zz := z0_
  have z10 : (10 : Int32).toInt = 10 := rfl
  have I_ : mI h_ := m339 B_
  have kN_ := okN K_
  have n1_ := i32j (V 0) kN_.1 (by omega)
  have kR := (nR_le K_).1
  have lT : (tmEc S_.1).length = S_.1.length := by unfold tmEc; rw [List.length_map]
  obtain ⟨k1_, k2_, k3_, k4_⟩ := KE
  have l10 : (tmEc S_.1).length ≤ 10 := by omega
  have iE := i32n (i_ := S_.1.length) (by omega)
  have d3_ := X_.1.2
  rw [lT] at d3_
  have eR : (V 1).toInt = ((nR V : Nat) : Int) := by
    have q_ := K_.1.1.1.2
    unfold i3b at q_
    unfold nR
    rw [show 0 + 1 = 1 from rfl] at q_
    omega
  have n2_ := i32j (V 1) (by omega) (by omega)
  unfold shE
  obtain ⟨h0, m0_, e_⟩ := mshE_ (v1_ := z_) (v2 := d_) H_.1 (mNc H_) oy (SM_v H_ (show (1, 1) ∈ wvM by decide)) d3_ oy4
  rcases e_ with ⟨g1, g2, g3_, g4, g5_, f_, r_⟩ | ⟨g1, w0_, f_, r_⟩ | ⟨g1, g2, w0_, f_, r_⟩ | ⟨g1, g2, g3_, w0_, f_, r_⟩ | ⟨g1, g2, g3_, g4, w0_, f_, r_⟩ | ⟨g1, g2, g3_, g4, g5_, w0_, f_, r_⟩
  rotate_left
  · rw [if_neg (fun q_ => by omega)]
    exact ⟨h0, m0_, EMr_k X_ l10 (fun j_ _ => f_ _ _ (by omega)), fun D_ hD => r_ D_ (by omega)⟩
  · rw [if_neg (fun q_ => by omega)]
    exact ⟨h0, m0_, EMr_k X_ l10 (fun j_ _ => f_ _ _ (by omega)), fun D_ hD => r_ D_ (by omega)⟩
  · rw [if_neg (fun q_ => by omega)]
    exact ⟨h0, m0_, EMr_k X_ l10 (fun j_ _ => f_ _ _ (by omega)), fun D_ hD => r_ D_ (by omega)⟩
  · rw [if_neg (fun q_ => by omega)]
    exact ⟨h0, m0_, EMr_k X_ l10 (fun j_ _ => f_ _ _ (by omega)), fun D_ hD => r_ D_ (by omega)⟩
  · have q1_ := congrArg Int32.toInt g1
    rw [if_pos ⟨⟨by omega, by omega⟩, by omega, by omega⟩, if_pos (by omega)]
    exact ⟨h0, m0_, EMr_k X_ l10 (fun j_ _ => f_ _ _ (by omega)), fun D_ hD => r_ D_ (by omega)⟩
  have q1_ : ¬ S_.1.length = 10 := fun q_ => g1 (by rw [q_]; rfl)
  have H0 := SM_fr H_ m0_ (fun c_ j_ _ => f_ c_ j_)
  obtain ⟨c_, hc_, hN_, rfl, ec⟩ := isC_n (z_ := z_) K_ ⟨by omega, by omega⟩
  obtain ⟨q_, hq, hM_, rfl, eq_⟩ := isR_n (z_ := d_) K_ ⟨by omega, by omega⟩
  rw [if_pos ⟨⟨by omega, by omega⟩, by omega, by omega⟩, if_neg (by omega), eq_]
  rw [ixe (by omega), i34e hc_] at r_
  have kc_ := K_.1.2.2.1 c_ hc_
  rw [Nat.zero_add] at kc_
  obtain ⟨h1, ⟨H1_, F1_⟩, R1, ld1⟩ := c_take (mi := 211) (pc := 65) (lo_ := [(3, .int (Int32.ofNat (190 + 14 * S_.1.length))), (0, .index 338), (1, .int (Int32.ofNat c_)), (2, .int (Int32.ofNat q_))]) (b_ := 342) (s' := []) rfl (xcc_l (List.forall_mem_cons.mpr ⟨rfl, List.forall_mem_cons.mpr ⟨xidx_i (bcq_lt (bcq_of (n_ := 338) (z_ := (12, 26)) H0.1 rfl)), List.forall_mem_cons.mpr ⟨rfl, List.forall_mem_cons.mpr ⟨rfl, fun q_ hq => absurd hq List.not_mem_nil⟩⟩⟩⟩) (fun t_ ht => absurd ht List.not_mem_nil) (Nat.le_of_ble_eq_true rfl)) K_ H0 (Or.inl rfl) hc_ (fun j_ hj => by rw [f_]; exact I_ j_ hj)
  obtain ⟨h2, m2_, f2_, ld2⟩ := mshA (v1_ := Int32.ofNat c_) (v2 := Int32.ofNat q_) (v3 := Int32.ofNat (190 + 14 * S_.1.length)) H1_.1
  have H2_ := SM_fr H1_ m2_ (fun c_ j_ _ => f2_ c_ j_)
  obtain ⟨h3, ⟨H3, F3⟩, R3, ld3⟩ := c_se (mi := 211) (pc := 74) (k_ := q_) (b_ := 342) (lo_ := [(3, .int (Int32.ofNat (190 + 14 * S_.1.length))), (0, .index 338), (1, .int (Int32.ofNat c_)), (2, .int (Int32.ofNat q_))]) (s' := []) rfl (xcc_l (List.forall_mem_cons.mpr ⟨rfl, List.forall_mem_cons.mpr ⟨xidx_i (bcq_lt (bcq_of (n_ := 338) (z_ := (12, 26)) H2_.1 rfl)), List.forall_mem_cons.mpr ⟨rfl, List.forall_mem_cons.mpr ⟨rfl, fun q_ hq => absurd hq List.not_mem_nil⟩⟩⟩⟩) (fun t_ ht => absurd ht List.not_mem_nil) (Nat.le_of_ble_eq_true rfl)) K_ H2_ hq (Or.inl rfl) kc_.2 (rM_all R1 m2_ f2_)
  have f03 : ∀ j_, bpat h3 339 j_ = bpat h_ 339 j_ := fun j_ => (F3.2 _ _ (by omega) (by omega) (by omega)).trans ((f2_ _ _).trans ((F1_.2 _ _ (by omega)).trans (f_ _ _)))
  have ev_ := SM_v H3 (rk_in (k_ := q_) (j_ := 2) hq (by omega)).2
  obtain ⟨p1_, p2_⟩ := rkm_at (k_ := q_) (j_ := 2) hq (by omega) (show rkm h3 q_ 2 (V (10 + 3 * q_ + 2)) from ev_)
  rw [show 10 + 3 * q_ + 2 = 12 + 3 * q_ by omega] at p1_
  have ta : (Int32.ofNat (190 + 14 * S_.1.length)).toInt = ((190 + 14 * S_.1.length : Nat) : Int) := i32n (by omega)
  obtain ⟨h4, m4_, w4_, f4_, ld4⟩ := mshB (v1_ := Int32.ofNat c_) (v2 := Int32.ofNat q_) (v3 := Int32.ofNat (190 + 14 * S_.1.length)) H3.1 ((f03 _).trans X_.1.1) p1_ p2_ ⟨by omega, by omega⟩
  rw [i32s] at ld4
  rw [ta, Int.toNat_natCast] at w4_ f4_
  have I4 : mI h4 := mI_w (mI_k I_ f03) w4_ (fun j_ hj => f4_ _ _ (by omega))
  have R4 : rM 342 h4 _ := ⟨m4_.1, rwm_keep R3.2.1 m4_ (fun j_ _ _ => f4_ _ _ (by omega)), R3.2.2⟩
  obtain ⟨h5, ⟨m5_, I5⟩, f5_, r5_⟩ := layQ (q_ := 190 + 14 * S_.1.length + 1) (by omega : ¬ 342 = 339) (by omega) R4 I4
  have ld5 := ycv (d_ := 60) (mi := 211) (pc := 108) (cm := 146) (lo_ := [(4, .int (S_.2.1 + V (12 + 3 * q_))), (3, .int (Int32.ofNat (190 + 14 * S_.1.length))), (0, .index 338), (1, .int (Int32.ofNat c_)), (2, .int (Int32.ofNat q_))]) (st_ := [.int (Int32.ofNat (190 + 14 * S_.1.length + 1)), .index 342, .index 338]) (as_ := [.index 342, .int (Int32.ofNat (190 + 14 * S_.1.length + 1))]) (s' := []) rfl rfl (bcq_of (n_ := 338) (z_ := (12, 26)) m4_.1 rfl) rfl (xcc_l (List.forall_mem_cons.mpr ⟨rfl, List.forall_mem_cons.mpr ⟨rfl, List.forall_mem_cons.mpr ⟨xidx_i (bcq_lt (bcq_of (n_ := 338) (z_ := (12, 26)) m4_.1 rfl)), List.forall_mem_cons.mpr ⟨rfl, List.forall_mem_cons.mpr ⟨rfl, fun q_ hq => absurd hq List.not_mem_nil⟩⟩⟩⟩⟩) (fun t_ ht => absurd ht List.not_mem_nil) (Nat.le_of_ble_eq_true rfl)) r5_
  have f05 : ∀ j_, j_ < 190 + 14 * S_.1.length → bpat h5 339 j_ = bpat h_ 339 j_ := fun j_ hj => (f5_ _ _ (by omega)).trans ((f4_ _ _ (by omega)).trans (f03 j_))
  obtain ⟨h6, m6_, w6_, f6_, ld6⟩ := mshC (v1_ := Int32.ofNat c_) (v2 := Int32.ofNat q_) (v3 := Int32.ofNat (190 + 14 * S_.1.length)) (v4_ := S_.2.1 + V (12 + 3 * q_)) m5_.1 ((f05 _ (by omega)).trans d3_)
  rw [i32s] at w6_
  have I6 : mI h6 := mI_w I5 w6_ (fun j_ hj => f6_ _ _ (by omega))
  have X6 : EMr (tmEc S_.1 ++ [S_.2.1 + V (12 + 3 * q_)]) S_.2.1 S_.2.2 h6 := by
    refine ⟨⟨(f6_ _ _ (by omega)).trans ((f05 _ (by omega)).trans X_.1.1), ?_⟩, (f6_ _ _ (by omega)).trans ((f05 _ (by omega)).trans X_.2.1), fun k_ t_ hk => ?_⟩
    · rw [List.length_append, lT]
      exact w6_
    · have lk_ := (List.getElem?_eq_some_iff.mp hk).1
      rw [List.length_append, lT] at lk_
      have l1 : [S_.2.1 + V (12 + 3 * q_)].length = 1 := rfl
      by_cases g_ : k_ < (tmEc S_.1).length
      · rw [List.getElem?_append_left g_] at hk
        exact (f6_ _ _ (by omega)).trans ((f05 _ (by omega)).trans (X_.2.2 k_ t_ hk))
      · have ek : k_ = (tmEc S_.1).length := by omega
        rw [ek, List.getElem?_append_right (Nat.le_refl _), Nat.sub_self] at hk
        rw [ek, lT, ← Option.some.inj hk]
        exact (f6_ _ _ (by omega)).trans ((f5_ _ _ (by omega)).trans w4_)
  obtain ⟨h7, ⟨⟨⟨m7_, I7⟩, f7_⟩, X7⟩, r7⟩ := cmM (by rw [List.length_append, lT]; show S_.1.length + 1 ≤ 10; omega) k4_ m6_.1 I6 X6
  have ld7 := ycv (d_ := 62) (mi := 211) (pc := 122) (cm := 210) (lo_ := [(4, .int (S_.2.1 + V (12 + 3 * q_))), (3, .int (Int32.ofNat (190 + 14 * S_.1.length))), (0, .index 338), (1, .int (Int32.ofNat c_)), (2, .int (Int32.ofNat q_))]) (st_ := [.index 338]) (as_ := []) (s' := []) rfl rfl (bcq_of (n_ := 338) (z_ := (12, 26)) m6_.1 rfl) rfl (xcc_l (List.forall_mem_cons.mpr ⟨rfl, List.forall_mem_cons.mpr ⟨rfl, List.forall_mem_cons.mpr ⟨xidx_i (bcq_lt (bcq_of (n_ := 338) (z_ := (12, 26)) m6_.1 rfl)), List.forall_mem_cons.mpr ⟨rfl, List.forall_mem_cons.mpr ⟨rfl, fun q_ hq => absurd hq List.not_mem_nil⟩⟩⟩⟩⟩) (fun t_ ht => absurd ht List.not_mem_nil) (Nat.le_of_ble_eq_true rfl)) r7
  obtain ⟨h8, m8_, f8_, r8⟩ := mshD (v1_ := Int32.ofNat c_) (v2 := Int32.ofNat q_) (v3 := Int32.ofNat (190 + 14 * S_.1.length)) (v4_ := S_.2.1 + V (12 + 3 * q_)) m7_.1
  have M8_ := ysm_tr m0_ (ysm_tr F1_.1 (ysm_tr m2_ (ysm_tr F3.1 (ysm_tr m4_ (ysm_tr m5_ (ysm_tr m6_ (ysm_tr m7_ m8_)))))))
  have rr : ∀ D_, 72 ≤ D_ → xrun D_ 211 0 [(0, .index 338), (1, .int (Int32.ofNat c_)), (2, .int (Int32.ofNat q_))] [] h_ (some (.int (S_.2.1 + V (12 + 3 * q_))), h8, []) := fun D_ hD => r_ D_ (by omega) _ (ld1 D_ (by omega) _ (ld2 D_ (by omega) _ (ld3 D_ (by omega) _ (ld4 D_ (by omega) _ (ld5 D_ (by omega) _ (ld6 D_ (by omega) _ (ld7 D_ (by omega) _ (r8 D_ (by omega)))))))))
  have kd := (K_.1.2.1 q_ hq).2.2
  rw [Nat.zero_add] at kd
  unfold i3b at kd
  have et : (S_.2.1 + V (12 + 3 * q_)).toInt = S_.2.1.toInt + (V (12 + 3 * q_)).toInt := i32j2 ⟨by omega, by omega⟩ ⟨by omega, by omega⟩
  obtain ⟨b1, b2⟩ := kp_a (nw := S_.2.1) (x_ := S_.2.1 + V (12 + 3 * q_)) (tmEc S_.1) S_.2.2 (fun t_ ht => by
    obtain ⟨e_, he, ee⟩ := List.mem_map.mp ht
    have z_ := (k2_ e_ he).2.2.1
    rw [← ee]
    exact z_)
  rw [b1, b2] at X7
  by_cases g_ : V (12 + 3 * q_) = 0
  · rw [if_pos g_]
    have gz : (V (12 + 3 * q_)).toInt = 0 := by rw [g_]; rfl
    have c1_ : kpM S_.2.1 [S_.2.1 + V (12 + 3 * q_)] = [] := List.filter_cons_of_neg (by rw [decide_eq_true_eq]; exact fun z_ => z_ (by omega))
    have c2_ : lgT S_.2.1 S_.2.2 [S_.2.1 + V (12 + 3 * q_)] = lgF S_.2.2 := if_pos (by omega)
    rw [c1_, c2_, List.append_nil] at X7
    exact ⟨h8, M8_, EMr_k X7 (by omega) (fun j_ _ => f8_ _ _), rr⟩
  · rw [if_neg g_]
    have gn : ¬ (V (12 + 3 * q_)).toInt = 0 := fun z_ => g_ (Int32.toInt_inj.mp (by rw [z_]; rfl))
    have c1_ : kpM S_.2.1 [S_.2.1 + V (12 + 3 * q_)] = [S_.2.1 + V (12 + 3 * q_)] := List.filter_cons_of_pos (by rw [decide_eq_true_eq]; omega)
    have c2_ : lgT S_.2.1 S_.2.2 [S_.2.1 + V (12 + 3 * q_)] = S_.2.2 := if_neg (by omega)
    rw [c1_, c2_] at X7
    have ea : tmEc (S_.1 ++ [(Int32.ofNat c_, (Int32.ofNat q_, S_.2.1 + V (12 + 3 * q_)))]) = tmEc S_.1 ++ [S_.2.1 + V (12 + 3 * q_)] := List.map_append
    refine ⟨h8, M8_, ?_, rr⟩
    show EMr (tmEc (S_.1 ++ [(Int32.ofNat c_, (Int32.ofNat q_, S_.2.1 + V (12 + 3 * q_)))])) S_.2.1 S_.2.2 h8
    rw [ea]
    exact EMr_k X7 (by rw [List.length_append, lT]; show S_.1.length + 1 ≤ 10; omega) (fun j_ _ => f8_ _ _)
