-- ===== what a ROCK sends back of a row, all KINDS
def sdt (m_ : Nat) (xs l : List Int32) : List Int32 := if xs = [] then l else mpf (tdf xs (Int32.ofNat l.length) (Int32.ofNat m_)) 0 l
def sdo (kd m_ : Nat) (xs l : List Int32) : List Int32 := match kd with
  | 1 => mpf nay0 0 l
  | 2 => mpf nay1 0 l
  | 3 => mpf les0 0 l
  | 4 => rvf 12 0 ((l.length : Int) - 1) l
  | 5 => kpt (m_ + 1) (rvf 12 0 ((l.length : Int) - 1) l) (rvf 12 0 ((l.length : Int) - 1) l).length
  | 6 => sdt m_ xs (mpf nay0 0 l)
  | _ => l
def frx (a_ b_ : Nat) (h_ h' : xH) : Prop := ysm h_ h' ∧ ∀ c_ j_, ¬ c_ = a_ → ¬ c_ = b_ → ¬ c_ = 33 → ¬ c_ = 69 → bpat h' c_ j_ = bpat h_ c_ j_
theorem frx_tr {a_ b_ : Nat} {x_ y_ z_ : xH} (h1 : frx a_ b_ x_ y_) (h2 : frx a_ b_ y_ z_) : frx a_ b_ x_ z_ := ⟨ysm_tr h1.1 h2.1, fun c_ j_ n1_ n2_ n3_ n4_ => (h2.2 c_ j_ n1_ n2_ n3_ n4_).trans (h1.2 c_ j_ n1_ n2_ n3_ n4_)⟩
theorem frx_r {a_ b_ : Nat} {x_ y_ : xH} (h1 : frr a_ b_ x_ y_) : frx a_ b_ x_ y_ := ⟨h1.1, fun c_ j_ n1_ n2_ _ _ => h1.2 c_ j_ n1_ n2_⟩
theorem frx_t {a_ b_ : Nat} {x_ y_ : xH} (h1 : frt b_ x_ y_) : frx a_ b_ x_ y_ := ⟨h1.1, fun c_ j_ _ n2_ n3_ n4_ => h1.2 c_ j_ n2_ n3_ n4_⟩
theorem txb_fr {b_ : Nat} {xs : List Int32} {h_ h' : xH} (T : txb h_ xs) (n1_ : ¬ b_ = 67) (n2_ : ¬ b_ = 68) (f_ : ∀ c_ j_, ¬ c_ = b_ → bpat h' c_ j_ = bpat h_ c_ j_) : txb h' xs := ⟨(f_ 67 1 (fun q_ => n1_ q_.symm)).trans T.1, fun j_ x_ hx => (f_ 68 j_ (fun q_ => n2_ q_.symm)).trans (T.2 j_ x_ hx)⟩
theorem sb6 {r_ a_ b_ m_ : Nat} {l xs : List Int32} {h_ : xH} (W_ : bcq h_ 1 10 15) (K_ : bcq h_ r_ 5 3) (o0_ : bpat h_ r_ 0 = some (.int 6)) (o1 : bpat h_ r_ 1 = some (.int (Int32.ofNat m_))) (nr : ¬ r_ = b_) (n1_ : ¬ b_ = 33) (n2_ : ¬ b_ = 68) (n3_ : ¬ b_ = 69) (R_ : rW a_ b_ h_ l) (T : txb h_ xs) (hl : xs.length ≤ 60) (hx : ∀ x_ ∈ xs, okx x_) (KK_ : ¬ xs = [] → evk xs) : ∃ h', rW a_ b_ h' (sdt m_ xs (mpf nay0 0 l)) ∧ frx a_ b_ h_ h' ∧ ∀ D_, 63 ≤ D_ → xrun D_ 66 0 [(0, .index 1), (1, .index r_), (2, .index a_)] [] h_ (none, h', []) := by
  have n4_ : ¬ b_ = 67 := fun e_ => bcq_ne R_.2.1.1.2 (bcq_of (n_ := 67) (z_ := (6, 2)) R_.1 rfl) (by decide) e_
  obtain ⟨h0, m0_, f0_, ld0⟩ := esb6 R_.1 R_.2.1.1.1 K_ W_ o0_
  have R0_ := rW_all R_ m0_ f0_
  obtain ⟨h1, R1, F1_, E1_⟩ := sayNay0 R0_
  have W1_ := m0_.2 _ _ _ W_
  have K1 := m0_.2 _ _ _ K_
  have A1 := m0_.2 _ _ _ R_.2.1.1.1
  have c1_ := ycv (mi := 66) (pc := 93) (cm := 43) (lo_ := [(0, .index 1), (1, .index r_), (2, .index a_)]) (st_ := [.int 0, .index a_]) (as_ := [.int 0]) (s' := []) rfl rfl A1 rfl (xcc_l (List.forall_mem_cons.mpr ⟨xidx_i (bcq_lt W1_), List.forall_mem_cons.mpr ⟨xidx_i (bcq_lt K1), List.forall_mem_cons.mpr ⟨xidx_i (bcq_lt A1), fun q_ hq => absurd hq List.not_mem_nil⟩⟩⟩) (fun t_ ht => absurd ht List.not_mem_nil) (by decide)) E1_
  have W2_ := F1_.1.2 _ _ _ W1_
  have K2 := F1_.1.2 _ _ _ K1
  obtain ⟨h2, m2_, f2_, ld2⟩ := msb6 R1.1 R1.2.1.1.1 K2 W2_ ((F1_.2 r_ 1 nr).trans ((f0_ r_ 1).trans o1))
  have R2 := rW_all R1 m2_ f2_
  have T2 : txb h2 xs := txb_fr T n4_ n2_ (fun c_ j_ nc => (f2_ c_ j_).trans ((F1_.2 c_ j_ nc).trans (f0_ c_ j_)))
  obtain ⟨h3, R3, F3, E3⟩ := turnByText (m_ := Int32.ofNat m_) n1_ n2_ n3_ R2 T2 hl hx KK_
  have W3 := m2_.2 _ _ _ W2_
  have K3 := m2_.2 _ _ _ K2
  have A3 := R2.2.1.1.1
  have c3_ := ycv (mi := 66) (pc := 102) (cm := 67) (lo_ := [(0, .index 1), (1, .index r_), (2, .index a_)]) (st_ := [.int (Int32.ofNat m_), .index a_, .index 1]) (as_ := [.index a_, .int (Int32.ofNat m_)]) (s' := []) rfl rfl W3 rfl (xcc_l (List.forall_mem_cons.mpr ⟨xidx_i (bcq_lt W3), List.forall_mem_cons.mpr ⟨xidx_i (bcq_lt K3), List.forall_mem_cons.mpr ⟨xidx_i (bcq_lt A3), fun q_ hq => absurd hq List.not_mem_nil⟩⟩⟩) (fun t_ ht => absurd ht List.not_mem_nil) (by decide)) E3
  obtain ⟨h4, m4_, f4_, r4⟩ := xsb6 R3.1 R3.2.1.1.1 (F3.1.2 _ _ _ K3) (F3.1.2 _ _ _ W3)
  exact ⟨h4, rW_all R3 m4_ f4_, frx_tr (frx_r (frr_all m0_ f0_)) (frx_tr (frx_r (frb_fr a_ F1_)) (frx_tr (frx_r (frr_all m2_ f2_)) (frx_tr (frx_t F3) (frx_r (frr_all m4_ f4_))))), fun D_ hD => ld0 D_ (by omega) _ (c1_ D_ (by omega) _ (ld2 D_ (by omega) _ (c3_ D_ (by omega) _ (r4 D_ (by omega)))))⟩
/-- sendBack, the class -/
theorem sbA {r_ a_ b_ kd m_ : Nat} {l xs : List Int32} {h_ : xH} (hk : kd ≤ 6) (hm_ : m_ ≤ 9) (W_ : bcq h_ 1 10 15) (K_ : bcq h_ r_ 5 3) (o0_ : bpat h_ r_ 0 = some (.int (Int32.ofNat kd))) (o1 : bpat h_ r_ 1 = some (.int (Int32.ofNat m_))) (n1_ : ¬ b_ = 33) (n2_ : ¬ b_ = 68) (n3_ : ¬ b_ = 69) (R_ : rW a_ b_ h_ l) (T : txb h_ xs) (hl : xs.length ≤ 60) (hx : ∀ x_ ∈ xs, okx x_) (KK_ : ¬ xs = [] → evk xs) : ∃ h', rW a_ b_ h' (sdo kd m_ xs l) ∧ frx a_ b_ h_ h' ∧ ∀ D_, 63 ≤ D_ → xrun D_ 66 0 [(0, .index 1), (1, .index r_), (2, .index a_)] [] h_ (none, h', []) := by
  have nr : ¬ r_ = b_ := bcq_ne K_ R_.2.1.1.2 (by decide)
  have e_ : kd = 0 ∨ (kd = 1 ∨ (kd = 2 ∨ (kd = 3 ∨ (kd = 4 ∨ (kd = 5 ∨ kd = 6))))) := by omega
  rcases e_ with rfl | rfl | rfl | rfl | rfl | rfl | rfl
  · obtain ⟨h', R', F_, E_⟩ := sb0 W_ K_ o0_ R_
    exact ⟨h', R', frx_r F_, E_⟩
  · obtain ⟨h', R', F_, E_⟩ := sb1 W_ K_ o0_ R_
    exact ⟨h', R', frx_r F_, E_⟩
  · obtain ⟨h', R', F_, E_⟩ := sb2 W_ K_ o0_ R_
    exact ⟨h', R', frx_r F_, E_⟩
  · obtain ⟨h', R', F_, E_⟩ := sb3 W_ K_ o0_ R_
    exact ⟨h', R', frx_r F_, E_⟩
  · obtain ⟨h', R', F_, E_⟩ := sb4 W_ K_ o0_ R_
    exact ⟨h', R', frx_r F_, E_⟩
  · obtain ⟨h', R', F_, E_⟩ := sb5 hm_ W_ K_ o0_ o1 nr R_
    exact ⟨h', R', frx_r F_, E_⟩
  · exact sb6 W_ K_ o0_ o1 nr n1_ n2_ n3_ R_ T hl hx KK_
-- ===== the reference
def frz (b_ : Nat) (h_ h' : xH) : Prop := ysm h_ h' ∧ ∀ c_ j_, ¬ c_ = b_ → ¬ c_ = 346 → ¬ c_ = 347 → bpat h' c_ j_ = bpat h_ c_ j_
theorem frz_tr {b_ : Nat} {x_ y_ z_ : xH} (h1 : frz b_ x_ y_) (h2 : frz b_ y_ z_) : frz b_ x_ z_ := ⟨ysm_tr h1.1 h2.1, fun c_ j_ n1_ n2_ n3_ => (h2.2 c_ j_ n1_ n2_ n3_).trans (h1.2 c_ j_ n1_ n2_ n3_)⟩
theorem frz_b {b_ : Nat} {x_ y_ : xH} (h1 : frb b_ x_ y_) : frz b_ x_ y_ := ⟨h1.1, fun c_ j_ n_ _ _ => h1.2 c_ j_ n_⟩
theorem txc_fr {ys : List (Int32 × Int32)} {h_ h' : xH} (T : txc h_ ys) (f_ : ∀ j_, bpat h' 339 j_ = bpat h_ 339 j_) : txc h' ys := ⟨(f_ _).trans T.1, fun j_ y_ hy => ⟨(f_ _).trans (T.2 j_ y_ hy).1, (f_ _).trans (T.2 j_ y_ hy).2⟩⟩
/-- the two sides' steps of a text say the same -/
def txp (xs : List Int32) (ys : List (Int32 × Int32)) : Prop := ys.length = xs.length ∧ ∀ (j_ : Nat) (x_ : Int32) (y_ : Int32 × Int32), xs[j_]? = some x_ → ys[j_]? = some y_ → okp 0 x_ y_
theorem se6 {b_ k_ m_ : Nat} {l xs : List Int32} {ys : List (Int32 × Int32)} {h_ : xH} (hk : k_ < 8) (o0_ : rkm h_ k_ 0 6) (o1 : rkm h_ k_ 1 (Int32.ofNat m_)) (n1_ : ¬ b_ = 346) (n2_ : ¬ b_ = 347) (n3_ : ¬ b_ = 339) (R_ : rM b_ h_ l) (T : txc h_ ys) (P_ : txp xs ys) (hl : xs.length ≤ 60) (KK_ : ¬ xs = [] → evk xs) : ∃ h', rM b_ h' (sdt m_ xs (mpf dny 0 l)) ∧ frz b_ h_ h' ∧ ∀ D_, 63 ≤ D_ → xrun D_ 151 0 [(0, .index 338), (1, .int (Int32.ofNat k_)), (2, .index b_)] [] h_ (none, h', []) := by
  have T0_ := bcq_of (n_ := 338) (z_ := (12, 26)) R_.1 rfl
  obtain ⟨q0, q1_⟩ := rkm_at hk (by omega) o0_
  obtain ⟨h0, m0_, f0_, ld0⟩ := ese6 (v1_ := Int32.ofNat k_) R_.1 R_.2.1.1 q0 q1_
  have R0_ := rM_all R_ m0_ f0_
  obtain ⟨h1, R1, F1_, E1_⟩ := denies1 R0_
  have T1 := m0_.2 _ _ _ T0_
  have B1 := m0_.2 _ _ _ R_.2.1.1
  have c1_ := ycs (mi := 151) (pc := 133) (cm := 148) (lo_ := [(0, .index 338), (1, .int (Int32.ofNat k_)), (2, .index b_)]) (st_ := [.int 1, .int 1, .index b_]) (as_ := [.index b_, .int 1, .int 1]) (s' := []) rfl rfl rfl (xcc_l (List.forall_mem_cons.mpr ⟨xidx_i (bcq_lt T1), List.forall_mem_cons.mpr ⟨rfl, List.forall_mem_cons.mpr ⟨xidx_i (bcq_lt B1), fun q_ hq => absurd hq List.not_mem_nil⟩⟩⟩) (fun t_ ht => absurd ht List.not_mem_nil) (by decide)) E1_
  have g1 : ∀ j_, bpat h1 339 j_ = bpat h_ 339 j_ := fun j_ => (F1_.2 339 j_ (fun q_ => n3_ q_.symm)).trans (f0_ 339 j_)
  have o2 : rkm h1 k_ 1 (Int32.ofNat m_) := (g1 _).trans o1
  obtain ⟨q2_, q3_⟩ := rkm_at hk (by omega) o2
  obtain ⟨h2, m2_, f2_, ld2⟩ := mse6 (v1_ := Int32.ofNat k_) R1.1 R1.2.1.1 q2_ q3_
  have R2 := rM_all R1 m2_ f2_
  obtain ⟨h3, R3, F3, E3⟩ := asToldM (m_ := Int32.ofNat m_) n1_ n2_ n3_ R2 (txc_fr T (fun j_ => (f2_ 339 j_).trans (g1 j_))) P_.1 P_.2 hl KK_
  have T3 := m2_.2 _ _ _ (F1_.1.2 _ _ _ T1)
  have B3 := R2.2.1.1
  have c3_ := ycv (mi := 151) (pc := 144) (cm := 150) (lo_ := [(0, .index 338), (1, .int (Int32.ofNat k_)), (2, .index b_)]) (st_ := [.int (Int32.ofNat m_), .index b_, .index 338]) (as_ := [.index b_, .int (Int32.ofNat m_)]) (s' := []) rfl rfl T3 rfl (xcc_l (List.forall_mem_cons.mpr ⟨xidx_i (bcq_lt T3), List.forall_mem_cons.mpr ⟨rfl, List.forall_mem_cons.mpr ⟨xidx_i (bcq_lt B3), fun q_ hq => absurd hq List.not_mem_nil⟩⟩⟩) (fun t_ ht => absurd ht List.not_mem_nil) (by decide)) E3
  obtain ⟨h4, m4_, f4_, r4⟩ := xse6 (v1_ := Int32.ofNat k_) R3.1 R3.2.1.1
  exact ⟨h4, rM_all R3 m4_ f4_, frz_tr ⟨m0_, fun c_ j_ _ _ _ => f0_ c_ j_⟩ (frz_tr (frz_b F1_) (frz_tr ⟨m2_, fun c_ j_ _ _ _ => f2_ c_ j_⟩ (frz_tr F3 ⟨m4_, fun c_ j_ _ _ _ => f4_ c_ j_⟩))), fun D_ hD => ld0 D_ (by omega) _ (c1_ D_ (by omega) _ (ld2 D_ (by omega) _ (c3_ D_ (by omega) _ (r4 D_ (by omega)))))⟩
/-- sends, the reference, of a row of SOUNDS -/
theorem seA {b_ k_ kd m_ : Nat} {l xs : List Int32} {ys : List (Int32 × Int32)} {h_ : xH} (S_ : sds l) (hk : k_ < 8) (hd_ : kd ≤ 6) (hm_ : m_ ≤ 9) (o0_ : rkm h_ k_ 0 (Int32.ofNat kd)) (o1 : rkm h_ k_ 1 (Int32.ofNat m_)) (n1_ : ¬ b_ = 346) (n2_ : ¬ b_ = 347) (n3_ : ¬ b_ = 339) (R_ : rM b_ h_ l) (T : txc h_ ys) (P_ : txp xs ys) (hl : xs.length ≤ 60) (KK_ : ¬ xs = [] → evk xs) : ∃ h', rM b_ h' (sdo kd m_ xs l) ∧ frz b_ h_ h' ∧ ∀ D_, 63 ≤ D_ → xrun D_ 151 0 [(0, .index 338), (1, .int (Int32.ofNat k_)), (2, .index b_)] [] h_ (none, h', []) := by
  have e_ : kd = 0 ∨ (kd = 1 ∨ (kd = 2 ∨ (kd = 3 ∨ (kd = 4 ∨ (kd = 5 ∨ kd = 6))))) := by omega
  have L_ := R_.2.2
  rcases e_ with rfl | rfl | rfl | rfl | rfl | rfl | rfl
  · obtain ⟨h', R', F_, E_⟩ := se0 hk o0_ R_
    exact ⟨h', R', frz_b F_, E_⟩
  · obtain ⟨h', R', F_, E_⟩ := se1 hk o0_ R_
    rw [nay_eq S_ L_] at R'
    exact ⟨h', R', frz_b F_, E_⟩
  · obtain ⟨h', R', F_, E_⟩ := se2 hk o0_ R_
    rw [sec_eq S_ L_] at R'
    exact ⟨h', R', frz_b F_, E_⟩
  · obtain ⟨h', R', F_, E_⟩ := se3 hk o0_ R_
    rw [les_eq S_ L_] at R'
    exact ⟨h', R', frz_b F_, E_⟩
  · obtain ⟨h', R', F_, E_⟩ := se4 hk o0_ R_
    exact ⟨h', R', frz_b F_, E_⟩
  · obtain ⟨h', R', F_, E_⟩ := se5 hk o0_ hm_ o1 n3_ R_
    exact ⟨h', R', frz_b F_, E_⟩
  · obtain ⟨h', R', F_, E_⟩ := se6 hk o0_ o1 n1_ n2_ n3_ R_ T P_ hl KK_
    rw [nay_eq S_ L_] at R'
    exact ⟨h', R', F_, E_⟩
