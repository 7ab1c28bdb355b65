-- ===== seconds, shout: the class
/-- ECHOES that stay -/
def kpF (nw : Int32) (E_ : List eCo) : List eCo := E_.filter (fun e_ => decide (¬ e_.2.2 = nw))
/-- rows in THE LOG behind those that come -/
def lgN (nw : Int32) (g_ : Nat) (E_ : List eCo) : Nat := match E_ with
  | [] => g_
  | e_ :: t_ => lgN nw (if e_.2.2 = nw then lgF g_ else g_) t_
theorem lgN_8 {nw : Int32} : ∀ (E_ : List eCo) (g_ : Nat), g_ ≤ 8 → lgN nw g_ E_ ≤ 8 := by
  intro E_
  induction E_ with
  | nil => intro g_ h_; exact h_
  | cons e_ t_ ih_ =>
    intro g_ h_
    refine ih_ _ ?_
    split
    · exact lgF_8
    · exact h_
/-- a second -/
def s1F (S_ : List eCo × (Int32 × Nat)) : List eCo × (Int32 × Nat) := (kpF (S_.2.1 + 1) S_.1, (S_.2.1 + 1, lgN (S_.2.1 + 1) S_.2.2 S_.1))
def snF (n_ : Nat) (S_ : List eCo × (Int32 × Nat)) : List eCo × (Int32 × Nat) := match n_ with
  | 0 => S_
  | n_ + 1 => snF n_ (s1F S_)
def okE (S_ : List eCo × (Int32 × Nat)) : Prop := S_.1.length ≤ 10 ∧ ((∀ e_ ∈ S_.1, (0 ≤ e_.1.toInt ∧ e_.1.toInt < 12) ∧ ((0 ≤ e_.2.1.toInt ∧ e_.2.1.toInt < 8) ∧ (S_.2.1.toInt < e_.2.2.toInt ∧ e_.2.2.toInt ≤ 10019))) ∧ ((0 ≤ S_.2.1.toInt ∧ S_.2.1.toInt ≤ 9999) ∧ S_.2.2 ≤ 8))
theorem i32u {a_ : Int32} (h_ : 0 ≤ a_.toInt ∧ a_.toInt ≤ 100000) : (a_ + 1).toInt = a_.toInt + 1 := by
  have e_ : a_ = Int32.ofNat a_.toInt.toNat := Int32.toInt_inj.mp (by rw [i32n (by omega)]; omega)
  have q_ := i32s a_.toInt.toNat
  rw [← e_] at q_
  rw [q_, i32n (by omega)]
  omega
theorem ok_s1 {S_ : List eCo × (Int32 × Nat)} (K_ : okE S_) (h_ : S_.2.1.toInt + 1 ≤ 9999) : okE (s1F S_) ∧ (s1F S_).2.1.toInt = S_.2.1.toInt + 1 := by
  obtain ⟨k1_, k2_, k3_, k4_⟩ := K_
  have e1_ := i32u (a_ := S_.2.1) ⟨by omega, by omega⟩
  refine ⟨⟨Nat.le_trans (List.length_filter_le _ _) k1_, fun e_ he => ?_, ⟨?_, ?_⟩, lgN_8 _ _ k4_⟩, e1_⟩
  · obtain ⟨a_, b_⟩ := List.mem_filter.mp he
    have b2 : ¬ e_.2.2 = S_.2.1 + 1 := of_decide_eq_true b_
    obtain ⟨c1_, c2_, c3_, c4_⟩ := k2_ e_ a_
    refine ⟨c1_, c2_, ?_, c4_⟩
    show (S_.2.1 + 1).toInt < e_.2.2.toInt
    have n_ : ¬ e_.2.2.toInt = (S_.2.1 + 1).toInt := fun q_ => b2 (Int32.toInt_inj.mp q_)
    omega
  · show 0 ≤ (S_.2.1 + 1).toInt
    omega
  · show (S_.2.1 + 1).toInt ≤ 9999
    omega
section
variable {W_ : Nat → List Int32} {V : Nat → Int32}
/-- the echoes of a second -/
theorem ls_lp (K_ : okS W_ V) (u_ : Nat) (nw : Int32) (hu : u_ ≤ 10) : ∀ (l : List eCo) (i_ : Nat) (P_ : List eCo) (g_ : Nat) (h_ : xH), i_ + l.length = u_ → P_.length ≤ i_ → g_ ≤ 8 → SX W_ V h_ → EXc P_ nw g_ h_ → (∀ j_ e_, l[j_]? = some e_ → bpat h_ 10 (i_ + j_) = some (.int e_.1) ∧ (bpat h_ 12 (i_ + j_) = some (.int e_.2.1) ∧ bpat h_ 14 (i_ + j_) = some (.int e_.2.2))) → (∀ e_ ∈ l, (0 ≤ e_.1.toInt ∧ e_.1.toInt < 12) ∧ (0 ≤ e_.2.1.toInt ∧ e_.2.1.toInt < 8)) → ∃ h', (SX W_ V h' ∧ ysm h_ h') ∧ ((EXc (P_ ++ kpF nw l) nw (lgN nw g_ l) h' ∧ ∀ c_ j_, 300 ≤ c_ → bpat h' c_ j_ = bpat h_ c_ j_) ∧ ∀ D_, 70 ≤ D_ → xrun D_ 71 41 [(2, .int (Int32.ofNat i_)), (1, .int (Int32.ofNat u_)), (0, .index 1)] [] h_ (none, h', [])) := by
  intro l
  induction l with
  | nil =>
    intro i_ P_ g_ h_ hi_ hP hg H_ X_ Q_ KK_
    rw [List.length_nil] at hi_
    have ei := i32n (i_ := i_) (by omega)
    have eu := i32n (i_ := u_) (by omega)
    obtain ⟨h1, m1_, f1_, r1_⟩ := xlsX (v1_ := Int32.ofNat u_) (v2 := Int32.ofNat i_) H_.1 (by omega)
    refine ⟨h1, ⟨SX_fr H_ m1_ (fun c_ j_ _ => f1_ c_ j_), m1_⟩, ⟨?_, fun c_ j_ _ => f1_ c_ j_⟩, fun D_ hD => r1_ D_ (by omega)⟩
    show EXc (P_ ++ []) nw g_ h1
    rw [List.append_nil]
    exact EXc_fr X_ m1_ (fun c_ j_ _ => f1_ c_ j_)
  | cons e_ t_ ih_ =>
    intro i_ P_ g_ h_ hi_ hP hg H_ X_ Q_ KK_
    rw [List.length_cons] at hi_
    have ei := i32n (i_ := i_) (by omega)
    have eu := i32n (i_ := u_) (by omega)
    obtain ⟨q1_, q2_, q3_⟩ := Q_ 0 e_ rfl
    rw [Nat.add_zero] at q1_ q2_ q3_
    obtain ⟨⟨k1_, k2_⟩, k3_, k4_⟩ := KK_ e_ List.mem_cons_self
    have QT_ : ∀ (h' : xH), (∀ v_ j_, (v_ = 10 ∨ (v_ = 12 ∨ v_ = 14)) → i_ + 1 ≤ j_ → bpat h' v_ j_ = bpat h_ v_ j_) → ∀ j_ e', t_[j_]? = some e' → bpat h' 10 (i_ + 1 + j_) = some (.int e'.1) ∧ (bpat h' 12 (i_ + 1 + j_) = some (.int e'.2.1) ∧ bpat h' 14 (i_ + 1 + j_) = some (.int e'.2.2)) := fun h' F_ j_ e' hj => by
      obtain ⟨a_, b_, c_⟩ := Q_ (j_ + 1) e' hj
      rw [show i_ + (j_ + 1) = i_ + 1 + j_ by omega] at a_ b_ c_
      exact ⟨(F_ _ _ (by omega) (by omega)).trans a_, (F_ _ _ (by omega) (by omega)).trans b_, (F_ _ _ (by omega) (by omega)).trans c_⟩
    by_cases gt : e_.2.2 = nw
    · have ek : kpF nw (e_ :: t_) = kpF nw t_ := List.filter_cons_of_neg (by rw [decide_eq_true_eq]; exact fun q_ => q_ gt)
      have el : lgN nw g_ (e_ :: t_) = lgN nw (lgF g_) t_ := by show lgN nw (if e_.2.2 = nw then lgF g_ else g_) t_ = _; rw [if_pos gt]
      rw [ek, el]
      obtain ⟨h1, m1_, f1_, ld1⟩ := xlsL (v1_ := Int32.ofNat u_) (v2 := Int32.ofNat i_) H_.1 (by rw [i32t (by omega)]; exact q3_) X_.1.1 (by rw [i32t (by omega)]; exact q1_) (by rw [i32t (by omega)]; exact q2_) ⟨by omega, by omega⟩ gt (by omega)
      have H1_ := SX_fr H_ m1_ (fun c_ j_ _ => f1_ c_ j_)
      obtain ⟨⟨a1_, a2⟩, ⟨b1, b2, b3⟩, c1_, y_, c2_, c3_⟩ := EXc_fr X_ m1_ (fun c_ j_ _ => f1_ c_ j_)
      have e1_ : e_.1 = Int32.ofNat e_.1.toInt.toNat := Int32.toInt_inj.mp (by rw [i32n (by omega)]; omega)
      have e2_ : e_.2.1 = Int32.ofNat e_.2.1.toInt.toNat := Int32.toInt_inj.mp (by rw [i32n (by omega)]; omega)
      obtain ⟨h2, ⟨H2_, m2_⟩, f2_, ⟨d0_, d1_, d2_⟩, r2⟩ := leX (c_ := e_.1.toInt.toNat) (r_ := e_.2.1.toInt.toNat) K_ (by omega) (by omega) c2_ hg H1_ a2 c3_ c1_
      rw [← e1_, ← e2_] at r2
      have ld2 := ycv (d_ := 66) (mi := 71) (pc := 81) (cm := 69) (lo_ := [(2, .int (Int32.ofNat i_)), (1, .int (Int32.ofNat u_)), (0, .index 1)]) (st_ := [.int e_.2.1, .int e_.1, .index 1]) (as_ := [.int e_.1, .int e_.2.1]) (s' := []) rfl rfl (bcq_of (n_ := 1) (z_ := (10, 15)) H1_.1 rfl) rfl (xcc_l (List.forall_mem_cons.mpr ⟨rfl, List.forall_mem_cons.mpr ⟨rfl, List.forall_mem_cons.mpr ⟨xidx_i (bcq_lt (bcq_of (n_ := 1) (z_ := (10, 15)) H1_.1 rfl)), fun q_ hq => absurd hq List.not_mem_nil⟩⟩⟩) (fun t_ ht => absurd ht List.not_mem_nil) (Nat.le_of_ble_eq_true rfl)) r2
      obtain ⟨h3, m3_, f3_, ld3⟩ := xlsN (v1_ := Int32.ofNat u_) (v2 := Int32.ofNat i_) H2_.1
      rw [i32s] at ld3
      have X3 : EXc P_ nw (lgF g_) h3 := ⟨⟨(f3_ _ _).trans ((f2_ _ _ (by omega) (by omega)).trans a1_), (f3_ _ _).trans d0_⟩, ⟨rwx_keep b1 (ysm_tr m2_ m3_) (fun c_ j_ hc_ => (f3_ c_ j_).trans (f2_ c_ j_ (by omega) (by omega))), rwx_keep b2 (ysm_tr m2_ m3_) (fun c_ j_ hc_ => (f3_ c_ j_).trans (f2_ c_ j_ (by omega) (by omega))), rwx_keep b3 (ysm_tr m2_ m3_) (fun c_ j_ hc_ => (f3_ c_ j_).trans (f2_ c_ j_ (by omega) (by omega)))⟩, (f3_ _ _).trans d2_, (y_ + 1) % 8, Nat.mod_lt _ (by omega), (f3_ _ _).trans d1_⟩
      obtain ⟨h4, ⟨H4, m4_⟩, ⟨X4, F4⟩, r4⟩ := ih_ (i_ + 1) P_ (lgF g_) h3 (by omega) (by omega) lgF_8 (SX_fr H2_ m3_ (fun c_ j_ _ => f3_ c_ j_)) X3 (QT_ h3 (fun v_ j_ hv _ => (f3_ v_ j_).trans ((f2_ v_ j_ (by omega) (by omega)).trans (f1_ v_ j_)))) (fun e' he => KK_ e' (List.mem_cons_of_mem _ he))
      exact ⟨h4, ⟨H4, ysm_tr m1_ (ysm_tr m2_ (ysm_tr m3_ m4_))⟩, ⟨X4, fun c_ j_ hc_ => (F4 c_ j_ hc_).trans ((f3_ c_ j_).trans ((f2_ c_ j_ (by omega) (by omega)).trans (f1_ c_ j_)))⟩, fun D_ hD => ld1 D_ (by omega) _ (ld2 D_ (by omega) _ (ld3 D_ (by omega) _ (r4 D_ hD)))⟩
    · have ek : kpF nw (e_ :: t_) = e_ :: kpF nw t_ := List.filter_cons_of_pos (by rw [decide_eq_true_eq]; exact gt)
      have el : lgN nw g_ (e_ :: t_) = lgN nw g_ t_ := by show lgN nw (if e_.2.2 = nw then lgF g_ else g_) t_ = _; rw [if_neg gt]
      rw [ek, el, show P_ ++ e_ :: kpF nw t_ = (P_ ++ [e_]) ++ kpF nw t_ by rw [List.append_assoc]; rfl]
      obtain ⟨h1, m1_, f1_, ld1⟩ := xlsK (v1_ := Int32.ofNat u_) (v2 := Int32.ofNat i_) H_.1 (by rw [i32t (by omega)]; exact q3_) X_.1.1 (by rw [i32t (by omega)]; exact q1_) (by rw [i32t (by omega)]; exact q2_) ⟨by omega, by omega⟩ gt (by omega)
      have H1_ := SX_fr H_ m1_ (fun c_ j_ _ => f1_ c_ j_)
      obtain ⟨h2, ⟨m2_, f2_⟩, ⟨X2, fq⟩, r2⟩ := adEX (c_ := e_.1) (r_ := e_.2.1) (t_ := e_.2.2) (by omega) H1_.1 (EXc_fr X_ m1_ (fun c_ j_ _ => f1_ c_ j_))
      have H2_ : SX W_ V h2 := SX_fr H1_ m2_ (fun c_ j_ hc_ => f2_ c_ j_ (fun q_ => by
        have k_ : (List.range 6).all (fun t_ => !(sxc (9 + t_))) = true := by decide +kernel
        have z_ := List.all_eq_true.mp k_ (c_ - 9) (List.mem_range.mpr (by omega))
        rw [show 9 + (c_ - 9) = c_ by omega, hc_] at z_
        cases z_))
      have ld2 := ycv (d_ := 60) (mi := 71) (pc := 115) (cm := 70) (lo_ := [(2, .int (Int32.ofNat i_)), (1, .int (Int32.ofNat u_)), (0, .index 1)]) (st_ := [.int e_.2.2, .int e_.2.1, .int e_.1, .index 1]) (as_ := [.int e_.1, .int e_.2.1, .int e_.2.2]) (s' := []) rfl rfl (bcq_of (n_ := 1) (z_ := (10, 15)) H1_.1 rfl) rfl (xcc_l (List.forall_mem_cons.mpr ⟨rfl, List.forall_mem_cons.mpr ⟨rfl, List.forall_mem_cons.mpr ⟨xidx_i (bcq_lt (bcq_of (n_ := 1) (z_ := (10, 15)) H1_.1 rfl)), fun q_ hq => absurd hq List.not_mem_nil⟩⟩⟩) (fun t_ ht => absurd ht List.not_mem_nil) (Nat.le_of_ble_eq_true rfl)) r2
      obtain ⟨h3, m3_, f3_, ld3⟩ := xlsM (v1_ := Int32.ofNat u_) (v2 := Int32.ofNat i_) H2_.1
      rw [i32s] at ld3
      obtain ⟨h4, ⟨H4, m4_⟩, ⟨X4, F4⟩, r4⟩ := ih_ (i_ + 1) (P_ ++ [e_]) g_ h3 (by omega) (by rw [List.length_append]; exact Nat.succ_le_succ hP) hg (SX_fr H2_ m3_ (fun c_ j_ _ => f3_ c_ j_)) (EXc_fr X2 m3_ (fun c_ j_ _ => f3_ c_ j_)) (QT_ h3 (fun v_ j_ hv hj => (f3_ v_ j_).trans ((fq v_ j_ hv (by omega)).trans (f1_ v_ j_)))) (fun e' he => KK_ e' (List.mem_cons_of_mem _ he))
      exact ⟨h4, ⟨H4, ysm_tr m1_ (ysm_tr m2_ (ysm_tr m3_ m4_))⟩, ⟨X4, fun c_ j_ hc_ => (F4 c_ j_ hc_).trans ((f3_ c_ j_).trans ((f2_ c_ j_ (by omega)).trans (f1_ c_ j_)))⟩, fun D_ hD => ld1 D_ (by omega) _ (ld2 D_ (by omega) _ (ld3 D_ (by omega) _ (r4 D_ hD)))⟩
/-- letSecondGoBy -/
theorem lsX (K_ : okS W_ V) {S_ : List eCo × (Int32 × Nat)} {h_ : xH} (KE : okE S_) (H_ : SX W_ V h_) (X_ : EXc S_.1 S_.2.1 S_.2.2 h_) : ∃ h', (SX W_ V h' ∧ ysm h_ h') ∧ ((EXc (s1F S_).1 (s1F S_).2.1 (s1F S_).2.2 h' ∧ ∀ c_ j_, 300 ≤ c_ → bpat h' c_ j_ = bpat h_ c_ j_) ∧ ∀ D_, 71 ≤ D_ → xrun D_ 71 0 [(0, .index 1)] [] h_ (none, h', [])) := by
  obtain ⟨E_, nw, g_⟩ := S_
  obtain ⟨k1_, k2_, k3_, k4_⟩ := KE
  obtain ⟨⟨a1_, a2⟩, ⟨b1, b2, b3⟩, c1_, y_, c2_, c3_⟩ := X_
  have l1 : (E_.map (fun e_ => e_.1)).length = E_.length := List.length_map _
  have l2 : (E_.map (fun e_ => e_.2.1)).length = E_.length := List.length_map _
  have l3 : (E_.map (fun e_ => e_.2.2)).length = E_.length := List.length_map _
  have d3_ := b3.2.1.2
  rw [l3] at d3_
  obtain ⟨h1, m1_, w0_, w1_, w2_, w3_, f1_, ld1⟩ := xlsE H_.1 a1_ d3_
  have F1_ : ∀ c_ j_, ¬ (c_ = 1 ∧ j_ = 11) → ¬ ((c_ = 9 ∨ (c_ = 11 ∨ c_ = 13)) ∧ j_ = 1) → bpat h1 c_ j_ = bpat h_ c_ j_ := fun c_ j_ n1_ n2_ => f1_ c_ j_ (by omega) (by omega) (by omega) (by omega)
  have H1_ : SX W_ V h1 := SX_n H_ m1_ (fun c_ j_ hc_ n1_ => F1_ c_ j_ n1_ (fun q_ => by
    have k_ : (List.range 6).all (fun t_ => !(sxc (9 + t_))) = true := by decide +kernel
    have z_ := List.all_eq_true.mp k_ (c_ - 9) (List.mem_range.mpr (by omega))
    rw [show 9 + (c_ - 9) = c_ by omega, hc_] at z_
    cases z_))
  have X1 : EXc [] (nw + 1) g_ h1 := by
    refine ⟨⟨w3_, (F1_ _ _ (by omega) (by omega)).trans a2⟩, ⟨?_, ?_, ?_⟩, (F1_ _ _ (by omega) (by omega)).trans c1_, y_, c2_, (F1_ _ _ (by omega) (by omega)).trans c3_⟩
    · exact ⟨⟨m1_.2 _ _ _ b1.1.1, m1_.2 _ _ _ b1.1.2⟩, ⟨(F1_ _ _ (by omega) (by omega)).trans b1.2.1.1, w2_⟩, Nat.zero_le _, fun j_ x_ hx => by cases hx⟩
    · exact ⟨⟨m1_.2 _ _ _ b2.1.1, m1_.2 _ _ _ b2.1.2⟩, ⟨(F1_ _ _ (by omega) (by omega)).trans b2.2.1.1, w1_⟩, Nat.zero_le _, fun j_ x_ hx => by cases hx⟩
    · exact ⟨⟨m1_.2 _ _ _ b3.1.1, m1_.2 _ _ _ b3.1.2⟩, ⟨(F1_ _ _ (by omega) (by omega)).trans b3.2.1.1, w0_⟩, Nat.zero_le _, fun j_ x_ hx => by cases hx⟩
  obtain ⟨h2, ⟨H2_, m2_⟩, ⟨X2, F2⟩, r2⟩ := ls_lp K_ E_.length (nw + 1) k1_ E_ 0 [] g_ h1 (by omega) (Nat.le_refl _) k4_ H1_ X1 (fun j_ e_ hj => by
    rw [Nat.zero_add]
    exact ⟨(F1_ _ _ (by omega) (by omega)).trans (b1.2.2.2 j_ _ (by rw [List.getElem?_map, hj]; rfl)), (F1_ _ _ (by omega) (by omega)).trans (b2.2.2.2 j_ _ (by rw [List.getElem?_map, hj]; rfl)), (F1_ _ _ (by omega) (by omega)).trans (b3.2.2.2 j_ _ (by rw [List.getElem?_map, hj]; rfl))⟩) (fun e_ he => ⟨(k2_ e_ he).1, (k2_ e_ he).2.1⟩)
  exact ⟨h2, ⟨H2_, ysm_tr m1_ m2_⟩, ⟨X2, fun c_ j_ hc_ => (F2 c_ j_ hc_).trans (F1_ c_ j_ (by omega) (by omega))⟩, fun D_ hD => ld1 D_ (by omega) _ (r2 D_ (by omega))⟩
theorem sc_lp (K_ : okS W_ V) (x_ : Nat) (hx : x_ ≤ 60) : ∀ (n_ i_ : Nat) (S_ : List eCo × (Int32 × Nat)) (h_ : xH), i_ + n_ = x_ → S_.2.1.toInt + n_ ≤ 9999 → okE S_ → SX W_ V h_ → EXc S_.1 S_.2.1 S_.2.2 h_ → ∃ h', (SX W_ V h' ∧ ysm h_ h') ∧ (((EXc (snF n_ S_).1 (snF n_ S_).2.1 (snF n_ S_).2.2 h' ∧ okE (snF n_ S_)) ∧ ∀ c_ j_, 300 ≤ c_ → bpat h' c_ j_ = bpat h_ c_ j_) ∧ ∀ D_, 72 ≤ D_ → xrun D_ 102 40 [(2, .int (Int32.ofNat i_)), (0, .index 0), (1, .int (Int32.ofNat x_))] [] h_ (some (.int (snF n_ S_).2.1), h', [])) := by
  intro n_
  have ix := i32n (i_ := x_) (by omega)
  induction n_ with
  | zero =>
    intro i_ S_ h_ hi_ hn KE H_ X_
    have ii := i32n (i_ := i_) (by omega)
    obtain ⟨h1, m1_, f1_, r1_⟩ := xscX (v1_ := Int32.ofNat x_) (v2 := Int32.ofNat i_) H_.1 X_.1.1 (by omega)
    exact ⟨h1, ⟨SX_fr H_ m1_ (fun c_ j_ _ => f1_ c_ j_), m1_⟩, ⟨⟨EXc_fr X_ m1_ (fun c_ j_ _ => f1_ c_ j_), KE⟩, fun c_ j_ _ => f1_ c_ j_⟩, fun D_ hD => r1_ D_ (by omega)⟩
  | succ n_ ih_ =>
    intro i_ S_ h_ hi_ hn KE H_ X_
    have ii := i32n (i_ := i_) (by omega)
    obtain ⟨h1, m1_, f1_, ld1⟩ := xscT (v1_ := Int32.ofNat x_) (v2 := Int32.ofNat i_) H_.1 (by omega)
    have H1_ := SX_fr H_ m1_ (fun c_ j_ _ => f1_ c_ j_)
    obtain ⟨h2, ⟨H2_, m2_⟩, ⟨X2, F2⟩, r2⟩ := lsX K_ KE H1_ (EXc_fr X_ m1_ (fun c_ j_ _ => f1_ c_ j_))
    have ld2 := ycv (d_ := 71) (mi := 102) (pc := 49) (cm := 71) (lo_ := [(2, .int (Int32.ofNat i_)), (0, .index 0), (1, .int (Int32.ofNat x_))]) (st_ := [.index 1]) (as_ := []) (s' := []) rfl rfl (bcq_of (n_ := 1) (z_ := (10, 15)) H1_.1 rfl) rfl (xcc_l (List.forall_mem_cons.mpr ⟨rfl, List.forall_mem_cons.mpr ⟨xidx_i (bcq_lt (bcq_of (n_ := 0) (z_ := (11, 15)) H1_.1 rfl)), List.forall_mem_cons.mpr ⟨rfl, fun q_ hq => absurd hq List.not_mem_nil⟩⟩⟩) (fun t_ ht => absurd ht List.not_mem_nil) (Nat.le_of_ble_eq_true rfl)) r2
    obtain ⟨h3, m3_, f3_, ld3⟩ := xscN (v1_ := Int32.ofNat x_) (v2 := Int32.ofNat i_) H2_.1
    rw [i32s] at ld3
    obtain ⟨KE2, en⟩ := ok_s1 KE (by omega)
    obtain ⟨h4, ⟨H4, m4_⟩, ⟨X4, F4⟩, r4⟩ := ih_ (i_ + 1) (s1F S_) h3 (by omega) (by omega) KE2 (SX_fr H2_ m3_ (fun c_ j_ _ => f3_ c_ j_)) (EXc_fr X2 m3_ (fun c_ j_ _ => f3_ c_ j_))
    exact ⟨h4, ⟨H4, ysm_tr m1_ (ysm_tr m2_ (ysm_tr m3_ m4_))⟩, ⟨X4, fun c_ j_ hc_ => (F4 c_ j_ hc_).trans ((f3_ c_ j_).trans ((F2 c_ j_ hc_).trans (f1_ c_ j_)))⟩, fun D_ hD => ld1 D_ (by omega) _ (ld2 D_ (by omega) _ (ld3 D_ (by omega) _ (r4 D_ hD)))⟩
end
/-- seconds: the ECHOES behind it, and its answer -/
def secE (S_ : List eCo × (Int32 × Nat)) (z_ : Int32) : (List eCo × (Int32 × Nat)) × Int32 := if 1 ≤ z_.toInt ∧ z_.toInt ≤ 60 then (if S_.2.1.toInt + z_.toInt ≤ 9999 then (snF z_.toInt.toNat S_, (snF z_.toInt.toNat S_).2.1) else (S_, Int32.ofInt (-1000003))) else (S_, Int32.ofInt (-1000001))
/-- shout -/
def shE (V : Nat → Int32) (S_ : List eCo × (Int32 × Nat)) (z_ d_ : Int32) : (List eCo × (Int32 × Nat)) × Int32 := if (0 ≤ z_.toInt ∧ z_.toInt < (V 0).toInt) ∧ (0 ≤ d_.toInt ∧ d_.toInt < (V 1).toInt) then (if 10 ≤ S_.1.length then (S_, Int32.ofInt (-1000004)) else (if V (12 + 3 * d_.toInt.toNat) = 0 then ((S_.1, (S_.2.1, lgF S_.2.2)), S_.2.1 + V (12 + 3 * d_.toInt.toNat)) else ((S_.1 ++ [(z_, (d_, S_.2.1 + V (12 + 3 * d_.toInt.toNat)))], (S_.2.1, S_.2.2)), S_.2.1 + V (12 + 3 * d_.toInt.toNat)))) else (S_, Int32.ofInt (-1000001))
theorem i32j2 {a_ b_ : Int32} (ha_ : 0 ≤ a_.toInt ∧ a_.toInt ≤ 100000) (hb_ : 0 ≤ b_.toInt ∧ b_.toInt ≤ 100000) : (a_ + b_).toInt = a_.toInt + b_.toInt := by
  have ea : a_ = Int32.ofNat a_.toInt.toNat := Int32.toInt_inj.mp (by rw [i32n (by omega)]; omega)
  have eb : b_ = Int32.ofNat b_.toInt.toNat := Int32.toInt_inj.mp (by rw [i32n (by omega)]; omega)
  have q_ := i32p a_.toInt.toNat b_.toInt.toNat
  rw [← ea, ← eb] at q_
  rw [q_, i32n (by omega)]
  omega
theorem x_secE {W_ : Nat → List Int32} {V : Nat → Int32} {S_ : List eCo × (Int32 × Nat)} {h_ : xH} {z_ : Int32} (B_ : bInv bZ bIj h_) (K_ : okS W_ V) (KE : okE S_) (H_ : SX W_ V h_) (X_ : EXc S_.1 S_.2.1 S_.2.2 h_) : ∃ h', ysm h_ h' ∧ ((EXc (secE S_ z_).1.1 (secE S_ z_).1.2.1 (secE S_ z_).1.2.2 h' ∧ okE (secE S_ z_).1) ∧ ∀ D_, 72 ≤ D_ → xrun D_ 102 0 [(0, .index 0), (1, .int z_)] [] h_ (some (.int (secE S_ z_).2), h', [])) := by
  obtain ⟨y_, oy⟩ := xerr (k_ := 1) B_ (by omega)
  obtain ⟨y3, oy3⟩ := xerr (k_ := 3) B_ (by omega)
  have z60_ : (60 : Int32).toInt = 60 := rfl
  have z1 : (1 : Int32).toInt = 1 := rfl
  have z9 : (9999 : Int32).toInt = 9999 := rfl
  have kn_ := KE.2.2.1
  have es : 1 ≤ z_.toInt → z_.toInt ≤ 60 → (S_.2.1 + z_).toInt = S_.2.1.toInt + z_.toInt := fun g1 g2 => i32j2 ⟨by omega, by omega⟩ ⟨by omega, by omega⟩
  unfold secE
  obtain ⟨h0, m0_, e_⟩ := xscE (v1_ := z_) H_.1 oy X_.1.1 oy3
  rcases e_ with ⟨g1, g2, g3_, f_, r_⟩ | ⟨g1, w0_, f_, r_⟩ | ⟨g1, g2, g3_, w0_, f_, r_⟩ | ⟨g1, g2, w0_, f_, r_⟩
  · have q_ := es (by omega) (by omega)
    rw [if_pos ⟨by omega, by omega⟩, if_pos (by omega)]
    have ez : z_ = Int32.ofNat z_.toInt.toNat := Int32.toInt_inj.mp (by rw [i32n (by omega)]; omega)
    obtain ⟨h1, ⟨H1_, m1_⟩, ⟨⟨X1, K1⟩, F1_⟩, r1_⟩ := sc_lp K_ z_.toInt.toNat (by omega) z_.toInt.toNat 0 S_ h0 (by omega) (by omega) KE (SX_fr H_ m0_ (fun c_ j_ _ => f_ c_ j_)) (EXc_fr X_ m0_ (fun c_ j_ _ => f_ c_ j_))
    rw [← ez] at r1_
    exact ⟨h1, ysm_tr m0_ m1_, ⟨X1, K1⟩, fun D_ hD => r_ D_ (by omega) _ (r1_ D_ hD)⟩
  · rw [if_neg (fun q_ => by omega)]
    exact ⟨h0, m0_, ⟨EXc_fr X_ m0_ (fun c_ j_ hc_ => f_ c_ j_ (by omega)), KE⟩, fun D_ hD => r_ D_ (by omega)⟩
  · have q_ := es (by omega) (by omega)
    rw [if_pos ⟨by omega, by omega⟩, if_neg (by omega)]
    exact ⟨h0, m0_, ⟨EXc_fr X_ m0_ (fun c_ j_ hc_ => f_ c_ j_ (by omega)), KE⟩, fun D_ hD => r_ D_ (by omega)⟩
  · rw [if_neg (fun q_ => by omega)]
    exact ⟨h0, m0_, ⟨EXc_fr X_ m0_ (fun c_ j_ hc_ => f_ c_ j_ (by omega)), KE⟩, fun D_ hD => r_ D_ (by omega)⟩
theorem x_shE {W_ : Nat → List Int32} {V : Nat → Int32} {S_ : List eCo × (Int32 × Nat)} {h_ : xH} {z_ d_ : Int32} (B_ : bInv bZ bIj h_) (K_ : okS W_ V) (KE : okE S_) (H_ : SX W_ V h_) (X_ : EXc S_.1 S_.2.1 S_.2.2 h_) : ∃ h', ysm h_ h' ∧ ((EXc (shE V S_ z_ d_).1.1 (shE V S_ z_ d_).1.2.1 (shE V S_ z_ d_).1.2.2 h' ∧ okE (shE V S_ z_ d_).1) ∧ ∀ D_, 72 ≤ D_ → xrun D_ 101 0 [(0, .index 0), (1, .int z_), (2, .int d_)] [] h_ (some (.int (shE V S_ z_ d_).2), h', [])) := by
  obtain ⟨y_, oy⟩ := xerr (k_ := 1) B_ (by omega)
  obtain ⟨y4, oy4⟩ := xerr (k_ := 4) B_ (by omega)
  have zz := z0_
  have z10 : (10 : Int32).toInt = 10 := rfl
  obtain ⟨k1_, k2_, k3_, k4_⟩ := KE
  have iE := i32n (i_ := S_.1.length) (by omega)
  have d3_ := X_.2.1.2.2.2.1.2
  rw [List.length_map] at d3_
  unfold shE
  obtain ⟨h0, m0_, e_⟩ := xsqE (v1_ := z_) (v2 := d_) H_.1 (xNc H_) oy (SX_v H_ (show ((1, 10), 1) ∈ wvX by decide)) d3_ oy4
  rcases e_ with ⟨g1, g2, g3_, g4, g5_, f_, r_⟩ | ⟨g1, w0_, f_, r_⟩ | ⟨g1, g2, w0_, f_, r_⟩ | ⟨g1, g2, g3_, w0_, f_, r_⟩ | ⟨g1, g2, g3_, g4, w0_, f_, r_⟩ | ⟨g1, g2, g3_, g4, g5_, w0_, f_, r_⟩
  rotate_left
  · rw [if_neg (fun q_ => by omega)]; exact ⟨h0, m0_, ⟨EXc_fr X_ m0_ (fun c_ j_ hc_ => f_ c_ j_ (by omega)), k1_, k2_, k3_, k4_⟩, fun D_ hD => r_ D_ (by omega)⟩
  · rw [if_neg (fun q_ => by omega)]; exact ⟨h0, m0_, ⟨EXc_fr X_ m0_ (fun c_ j_ hc_ => f_ c_ j_ (by omega)), k1_, k2_, k3_, k4_⟩, fun D_ hD => r_ D_ (by omega)⟩
  · rw [if_neg (fun q_ => by omega)]; exact ⟨h0, m0_, ⟨EXc_fr X_ m0_ (fun c_ j_ hc_ => f_ c_ j_ (by omega)), k1_, k2_, k3_, k4_⟩, fun D_ hD => r_ D_ (by omega)⟩
  · rw [if_neg (fun q_ => by omega)]; exact ⟨h0, m0_, ⟨EXc_fr X_ m0_ (fun c_ j_ hc_ => f_ c_ j_ (by omega)), k1_, k2_, k3_, k4_⟩, fun D_ hD => r_ D_ (by omega)⟩
  · rw [if_pos ⟨⟨by omega, by omega⟩, by omega, by omega⟩, if_pos (by omega)]; exact ⟨h0, m0_, ⟨EXc_fr X_ m0_ (fun c_ j_ hc_ => f_ c_ j_ (by omega)), k1_, k2_, k3_, k4_⟩, fun D_ hD => r_ D_ (by omega)⟩
  have H0 := SX_fr H_ m0_ (fun c_ j_ _ => f_ c_ j_)
  have X0 := EXc_fr X_ m0_ (fun c_ j_ _ => f_ c_ j_)
  obtain ⟨c_, hc_, hN_, rfl, ec⟩ := isC_n (z_ := z_) K_ ⟨by omega, by omega⟩
  obtain ⟨q_, hq, hM_, rfl, eq_⟩ := isR_n (z_ := d_) K_ ⟨by omega, by omega⟩
  rw [if_pos ⟨⟨by omega, by omega⟩, by omega, by omega⟩, if_neg (by omega), eq_]
  obtain ⟨p1_, p2_⟩ := rck_ok (k_ := q_) H0.1 hq
  have ev_ := SX_v H0 (rk_in (k_ := q_) (j_ := 2) hq (by omega)).1
  rw [show 10 + 3 * q_ + 2 = 12 + 3 * q_ by omega] at ev_
  have kd := (K_.1.2.1 q_ hq).2.2
  rw [Nat.zero_add] at kd
  unfold i3b at kd
  have iq := i32n (i_ := q_) (by omega)
  have ic := i32n (i_ := c_) (by omega)
  have et : (S_.2.1 + V (12 + 3 * q_)).toInt = S_.2.1.toInt + (V (12 + 3 * q_)).toInt := i32j2 ⟨by omega, by omega⟩ ⟨by omega, by omega⟩
  by_cases g_ : V (12 + 3 * q_) = 0
  · rw [if_pos g_]
    obtain ⟨h1, m1_, f1_, ld1⟩ := xsqG1 (v1_ := Int32.ofNat c_) (v2 := Int32.ofNat q_) H0.1 p2_ X0.1.1 (by rw [i32t (by omega)]; exact p1_) ev_ ⟨by omega, by omega⟩ (by rw [g_]; exact Int32.add_zero _)
    have H1_ := SX_fr H0 m1_ (fun c_ j_ _ => f1_ c_ j_)
    obtain ⟨⟨a1_, a2⟩, ⟨b1, b2, b3⟩, c1_, y_, c2_, c3_⟩ := EXc_fr X0 m1_ (fun c_ j_ _ => f1_ c_ j_)
    obtain ⟨h2, ⟨H2_, m2_⟩, f2_, ⟨d0_, d1_, d2_⟩, r2⟩ := leX (c_ := c_) (r_ := q_) K_ hc_ hq c2_ k4_ H1_ a2 c3_ c1_
    have ld2 := ycv (d_ := 66) (mi := 101) (pc := 81) (cm := 69) (lo_ := [(3, .int (S_.2.1 + V (12 + 3 * q_))), (0, .index 0), (1, .int (Int32.ofNat c_)), (2, .int (Int32.ofNat q_))]) (st_ := [.int (Int32.ofNat q_), .int (Int32.ofNat c_), .index 1]) (as_ := [.int (Int32.ofNat c_), .int (Int32.ofNat q_)]) (s' := []) rfl rfl (bcq_of (n_ := 1) (z_ := (10, 15)) H1_.1 rfl) rfl (xcc_l (List.forall_mem_cons.mpr ⟨rfl, List.forall_mem_cons.mpr ⟨xidx_i (bcq_lt (bcq_of (n_ := 0) (z_ := (11, 15)) H1_.1 rfl)), List.forall_mem_cons.mpr ⟨rfl, List.forall_mem_cons.mpr ⟨rfl, fun q_ hq => absurd hq List.not_mem_nil⟩⟩⟩⟩) (fun t_ ht => absurd ht List.not_mem_nil) (Nat.le_of_ble_eq_true rfl)) r2
    obtain ⟨h3, m3_, f3_, r3⟩ := xsqS (v1_ := Int32.ofNat c_) (v2 := Int32.ofNat q_) (v3 := S_.2.1 + V (12 + 3 * q_)) H2_.1
    exact ⟨h3, ysm_tr m0_ (ysm_tr m1_ (ysm_tr m2_ m3_)), ⟨⟨⟨(f3_ _ _).trans ((f2_ _ _ (by omega) (by omega)).trans a1_), (f3_ _ _).trans d0_⟩, ⟨rwx_keep b1 (ysm_tr m2_ m3_) (fun c_ j_ hc_ => (f3_ c_ j_).trans (f2_ c_ j_ (by omega) (by omega))), rwx_keep b2 (ysm_tr m2_ m3_) (fun c_ j_ hc_ => (f3_ c_ j_).trans (f2_ c_ j_ (by omega) (by omega))), rwx_keep b3 (ysm_tr m2_ m3_) (fun c_ j_ hc_ => (f3_ c_ j_).trans (f2_ c_ j_ (by omega) (by omega)))⟩, (f3_ _ _).trans d2_, (y_ + 1) % 8, Nat.mod_lt _ (by omega), (f3_ _ _).trans d1_⟩, k1_, k2_, k3_, lgF_8⟩, fun D_ hD => r_ D_ (by omega) _ (ld1 D_ (by omega) _ (ld2 D_ (by omega) _ (r3 D_ (by omega))))⟩
  · rw [if_neg g_]
    have gn : ¬ (V (12 + 3 * q_)).toInt = 0 := fun z_ => g_ (Int32.toInt_inj.mp (by rw [z_]; rfl))
    obtain ⟨h1, m1_, f1_, ld1⟩ := xsqG0 (v1_ := Int32.ofNat c_) (v2 := Int32.ofNat q_) H0.1 p2_ X0.1.1 (by rw [i32t (by omega)]; exact p1_) ev_ ⟨by omega, by omega⟩ (fun z_ => by have z2 := congrArg Int32.toInt z_; omega)
    have H1_ := SX_fr H0 m1_ (fun c_ j_ _ => f1_ c_ j_)
    obtain ⟨h2, ⟨m2_, f2_⟩, ⟨X2, fq⟩, r2⟩ := adEX (c_ := Int32.ofNat c_) (r_ := Int32.ofNat q_) (t_ := S_.2.1 + V (12 + 3 * q_)) (by omega) H1_.1 (EXc_fr X0 m1_ (fun c_ j_ _ => f1_ c_ j_))
    have ld2 := ycv (d_ := 60) (mi := 101) (pc := 94) (cm := 70) (lo_ := [(3, .int (S_.2.1 + V (12 + 3 * q_))), (0, .index 0), (1, .int (Int32.ofNat c_)), (2, .int (Int32.ofNat q_))]) (st_ := [.int (S_.2.1 + V (12 + 3 * q_)), .int (Int32.ofNat q_), .int (Int32.ofNat c_), .index 1]) (as_ := [.int (Int32.ofNat c_), .int (Int32.ofNat q_), .int (S_.2.1 + V (12 + 3 * q_))]) (s' := []) rfl rfl (bcq_of (n_ := 1) (z_ := (10, 15)) H1_.1 rfl) rfl (xcc_l (List.forall_mem_cons.mpr ⟨rfl, List.forall_mem_cons.mpr ⟨xidx_i (bcq_lt (bcq_of (n_ := 0) (z_ := (11, 15)) H1_.1 rfl)), List.forall_mem_cons.mpr ⟨rfl, List.forall_mem_cons.mpr ⟨rfl, fun q_ hq => absurd hq List.not_mem_nil⟩⟩⟩⟩) (fun t_ ht => absurd ht List.not_mem_nil) (Nat.le_of_ble_eq_true rfl)) r2
    obtain ⟨h3, m3_, f3_, r3⟩ := xsqR (v1_ := Int32.ofNat c_) (v2 := Int32.ofNat q_) (v3 := S_.2.1 + V (12 + 3 * q_)) m2_.1
    refine ⟨h3, ysm_tr m0_ (ysm_tr m1_ (ysm_tr m2_ m3_)), ⟨EXc_fr X2 m3_ (fun c_ j_ _ => f3_ c_ j_), ⟨?_, fun e_ he => ?_, k3_, k4_⟩⟩, fun D_ hD => r_ D_ (by omega) _ (ld1 D_ (by omega) _ (ld2 D_ (by omega) _ (r3 D_ (by omega))))⟩
    · show (S_.1 ++ [(Int32.ofNat c_, (Int32.ofNat q_, S_.2.1 + V (12 + 3 * q_)))]).length ≤ 10
      rw [List.length_append]
      show S_.1.length + 1 ≤ 10
      omega
    · rcases List.mem_append.mp he with a_ | a_
      · exact k2_ e_ a_
      · rw [List.mem_singleton.mp a_]
        show (0 ≤ (Int32.ofNat c_).toInt ∧ (Int32.ofNat c_).toInt < 12) ∧ ((0 ≤ (Int32.ofNat q_).toInt ∧ (Int32.ofNat q_).toInt < 8) ∧ (S_.2.1.toInt < (S_.2.1 + V (12 + 3 * q_)).toInt ∧ (S_.2.1 + V (12 + 3 * q_)).toInt ≤ 10019))
        omega
