-- ===== meant, the reference
/-- all places hold ints -/
def r13 (b_ : Nat) (h_ : xH) : Prop := ∀ j_, j_ < 13 → ∃ y_ : Int32, bpat h_ b_ j_ = some (.int y_)
def rMq (b_ : Nat) (h_ : xH) (l : List Int32) : Prop := rM b_ h_ l ∧ r13 b_ h_
theorem r13_k {b_ : Nat} {h_ h' : xH} (R_ : r13 b_ h_) (f_ : ∀ j_, bpat h' b_ j_ = bpat h_ b_ j_) : r13 b_ h' := fun j_ hj => by rw [f_]; exact R_ j_ hj
theorem r13_w {b_ k_ : Nat} {h_ h' : xH} {y_ : Int32} (R_ : r13 b_ h_) (e_ : bpat h' b_ k_ = some (.int y_)) (f_ : ∀ j_, ¬ j_ = k_ → bpat h' b_ j_ = bpat h_ b_ j_) : r13 b_ h' := fun j_ hj => by
  by_cases g_ : j_ = k_
  · exact ⟨y_, by rw [g_]; exact e_⟩
  · rw [f_ j_ g_]; exact R_ j_ hj
theorem r13_w2 {b_ k1_ k2_ : Nat} {h_ h' : xH} {y1 y2 : Int32} (R_ : r13 b_ h_) (e1_ : bpat h' b_ k1_ = some (.int y1)) (e2_ : bpat h' b_ k2_ = some (.int y2)) (f_ : ∀ j_, ¬ j_ = k1_ → ¬ j_ = k2_ → bpat h' b_ j_ = bpat h_ b_ j_) : r13 b_ h' := fun j_ hj => by
  by_cases g_ : j_ = k1_
  · exact ⟨y1, by rw [g_]; exact e1_⟩
  · by_cases g2 : j_ = k2_
    · exact ⟨y2, by rw [g2]; exact e2_⟩
    · rw [f_ j_ g_ g2]; exact R_ j_ hj
theorem rMq_all {b_ : Nat} {h_ h' : xH} {l : List Int32} (R_ : rMq b_ h_ l) (m_ : ysm h_ h') (f_ : ∀ c_ j_, bpat h' c_ j_ = bpat h_ c_ j_) : rMq b_ h' l := ⟨rM_all R_.1 m_ f_, r13_k R_.2 (fun j_ => f_ b_ j_)⟩
theorem lD1q {b_ : Nat} {l : List Int32} {h_ : xH} {lo_ : xL} (R_ : rMq b_ h_ l) (H_ : tD1_hd b_ 1 1 (Int32.ofNat 1) lo_) : ∃ h', rMq b_ h' (mpf dny 0 l) ∧ frb b_ h_ h' ∧ eRet 148 2 lo_ h_ h' := by
  refine map_loop (mi := 148) (pc := 2) (d_ := 1) (HD := fun i_ lo_ => (i_ ≤ 14 ∧ True) ∧ tD1_hd b_ 1 1 (Int32.ofNat (i_ + 1)) lo_) (RW := rMq b_) (FR := frb b_) (f_ := dny) (E_ := eRet 148 2) (by omega) (fun i_ lo_ H_ e_ y_ h1 h2 => by omega) frb_tr eRet_led (by
    intro i_ l h_ lo_ x_ R_ hx H_
    obtain ⟨hb_, H_⟩ := H_
    obtain ⟨⟨Rs_, ⟨R1, R2, R3⟩, R7⟩, RQ⟩ := R_
    have hi_ := (List.getElem?_eq_some_iff.mp hx).1
    have e6_ : bpat h_ b_ (Int32.ofNat (i_ + 1)).toInt.toNat = some (.int x_) := by
      rw [i32t (by omega), show i_ + 1 = 0 + 1 + i_ by omega]
      exact R3 i_ x_ hx
    obtain ⟨h1, m1_, e_⟩ := tD1 Rs_ R1 R2 e6_ ⟨by rw [i32n (by omega)]; omega, by rw [i32n (by omega)]; omega⟩ (pmC x_) (by rw [i32n (by omega), i32n (by omega)]; omega) H_
    have R_ : rwm h_ b_ 0 13 l := ⟨R1, R2, R3⟩
    rw [show (1 : Int32) = Int32.ofNat 1 from rfl, i32p, i32t (i_ := i_ + 1) (by omega), i60] at e_
    rcases e_ with ⟨g0, e1_, f1_, lo', H', ld⟩ | ⟨g0, e1_, f1_, lo', H', ld⟩
    · have en : dny i_ x_ = x_ := if_neg (by omega)
      refine ⟨h1, lo', ⟨⟨m1_.1, ?_, by rw [List.length_set]; exact R7⟩, r13_w RQ e1_ (fun j_ n_ => f1_ b_ j_ (fun q_ => n_ q_.2))⟩, ⟨m1_, fun c_ j_ n_ => f1_ c_ j_ (fun q_ => n_ q_.1)⟩, ⟨⟨by omega, trivial⟩, H'⟩, ld⟩
      rw [en]
      exact rwm_set R_ m1_ hi_ (by rw [show 0 + 1 + i_ = i_ + 1 by omega]; exact e1_) (fun c_ j_ n_ => f1_ c_ j_ (by rw [show 0 + 1 + i_ = i_ + 1 by omega] at n_; exact n_))
    · have en : dny i_ x_ = pmC_F x_ := if_pos g0
      refine ⟨h1, lo', ⟨⟨m1_.1, ?_, by rw [List.length_set]; exact R7⟩, r13_w RQ e1_ (fun j_ n_ => f1_ b_ j_ (fun q_ => n_ q_.2))⟩, ⟨m1_, fun c_ j_ n_ => f1_ c_ j_ (fun q_ => n_ q_.1)⟩, ⟨⟨by omega, trivial⟩, H'⟩, ld⟩
      rw [en]
      exact rwm_set R_ m1_ hi_ (by rw [show 0 + 1 + i_ = i_ + 1 by omega]; exact e1_) (fun c_ j_ n_ => f1_ c_ j_ (by rw [show 0 + 1 + i_ = i_ + 1 by omega] at n_; exact n_))) (by
    intro i_ l h_ lo_ R_ hl H_
    obtain ⟨hb_, H_⟩ := H_
    obtain ⟨⟨Rs_, ⟨R1, R2, R3⟩, R7⟩, RQ⟩ := R_
    obtain ⟨h1, m1_, f1_, e1_⟩ := xD1 Rs_ R1 R2 (by rw [i32n (by omega), i32n (by omega)]; omega) H_
    exact ⟨h1, ⟨⟨m1_.1, rwm_keep ⟨R1, R2, R3⟩ m1_ (fun j_ _ _ => f1_ b_ j_), R7⟩, r13_k RQ (fun j_ => f1_ b_ j_)⟩, ⟨m1_, fun c_ j_ _ => f1_ c_ j_⟩, e1_⟩) l.length 0 l h_ _ (by omega) R_ ⟨⟨by omega, trivial⟩, H_⟩
theorem lD2q {b_ : Nat} {l : List Int32} {h_ : xH} {lo_ : xL} (R_ : rMq b_ h_ l) (H_ : tD2_hd b_ 2 2 (Int32.ofNat 2) lo_) : ∃ h', rMq b_ h' (mpf dn1 1 l) ∧ frb b_ h_ h' ∧ eRet 148 2 lo_ h_ h' := by
  refine map_loop (mi := 148) (pc := 2) (d_ := 2) (HD := fun i_ lo_ => (i_ ≤ 14 ∧ i_ % 2 = 1) ∧ tD2_hd b_ 2 2 (Int32.ofNat (i_ + 1)) lo_) (RW := rMq b_) (FR := frb b_) (f_ := dn1) (E_ := eRet 148 2) (by omega) (fun i_ lo_ H_ e_ y_ h1 h2 => if_neg (by have := H_.1.2; omega)) frb_tr eRet_led (by
    intro i_ l h_ lo_ x_ R_ hx H_
    obtain ⟨hb_, H_⟩ := H_
    obtain ⟨⟨Rs_, ⟨R1, R2, R3⟩, R7⟩, RQ⟩ := R_
    have hi_ := (List.getElem?_eq_some_iff.mp hx).1
    have e6_ : bpat h_ b_ (Int32.ofNat (i_ + 1)).toInt.toNat = some (.int x_) := by
      rw [i32t (by omega), show i_ + 1 = 0 + 1 + i_ by omega]
      exact R3 i_ x_ hx
    obtain ⟨h1, m1_, e_⟩ := tD2 Rs_ R1 R2 e6_ ⟨by rw [i32n (by omega)]; omega, by rw [i32n (by omega)]; omega⟩ (pmC x_) (by rw [i32n (by omega), i32n (by omega)]; omega) H_
    have R_ : rwm h_ b_ 0 13 l := ⟨R1, R2, R3⟩
    rw [show (2 : Int32) = Int32.ofNat 2 from rfl, i32p, i32t (i_ := i_ + 1) (by omega), i60] at e_
    rcases e_ with ⟨g0, e1_, f1_, lo', H', ld⟩ | ⟨g0, e1_, f1_, lo', H', ld⟩
    · have en : dn1 i_ x_ = x_ := (if_pos hb_.2).trans (if_neg (by omega))
      refine ⟨h1, lo', ⟨⟨m1_.1, ?_, by rw [List.length_set]; exact R7⟩, r13_w RQ e1_ (fun j_ n_ => f1_ b_ j_ (fun q_ => n_ q_.2))⟩, ⟨m1_, fun c_ j_ n_ => f1_ c_ j_ (fun q_ => n_ q_.1)⟩, ⟨⟨by omega, by omega⟩, H'⟩, ld⟩
      rw [en]
      exact rwm_set R_ m1_ hi_ (by rw [show 0 + 1 + i_ = i_ + 1 by omega]; exact e1_) (fun c_ j_ n_ => f1_ c_ j_ (by rw [show 0 + 1 + i_ = i_ + 1 by omega] at n_; exact n_))
    · have en : dn1 i_ x_ = pmC_F x_ := (if_pos hb_.2).trans (if_pos g0)
      refine ⟨h1, lo', ⟨⟨m1_.1, ?_, by rw [List.length_set]; exact R7⟩, r13_w RQ e1_ (fun j_ n_ => f1_ b_ j_ (fun q_ => n_ q_.2))⟩, ⟨m1_, fun c_ j_ n_ => f1_ c_ j_ (fun q_ => n_ q_.1)⟩, ⟨⟨by omega, by omega⟩, H'⟩, ld⟩
      rw [en]
      exact rwm_set R_ m1_ hi_ (by rw [show 0 + 1 + i_ = i_ + 1 by omega]; exact e1_) (fun c_ j_ n_ => f1_ c_ j_ (by rw [show 0 + 1 + i_ = i_ + 1 by omega] at n_; exact n_))) (by
    intro i_ l h_ lo_ R_ hl H_
    obtain ⟨hb_, H_⟩ := H_
    obtain ⟨⟨Rs_, ⟨R1, R2, R3⟩, R7⟩, RQ⟩ := R_
    obtain ⟨h1, m1_, f1_, e1_⟩ := xD2 Rs_ R1 R2 (by rw [i32n (by omega), i32n (by omega)]; omega) H_
    exact ⟨h1, ⟨⟨m1_.1, rwm_keep ⟨R1, R2, R3⟩ m1_ (fun j_ _ _ => f1_ b_ j_), R7⟩, r13_k RQ (fun j_ => f1_ b_ j_)⟩, ⟨m1_, fun c_ j_ _ => f1_ c_ j_⟩, e1_⟩) l.length 1 l h_ _ (by omega) R_ ⟨⟨by omega, by omega⟩, H_⟩
theorem lLSq {b_ : Nat} {R1_ : Int32} {l : List Int32} {h_ : xH} {lo_ : xL} (R_ : rMq b_ h_ l) (H_ : tLS_hd b_ R1_ (Int32.ofNat 1) lo_) : ∃ h', rMq b_ h' (mpf lsm 0 l) ∧ frb b_ h_ h' ∧ eRet 151 64 lo_ h_ h' := by
  refine map_loop (mi := 151) (pc := 64) (d_ := 1) (HD := fun i_ lo_ => (i_ ≤ 14 ∧ True) ∧ tLS_hd b_ R1_ (Int32.ofNat (i_ + 1)) lo_) (RW := rMq b_) (FR := frb b_) (f_ := lsm) (E_ := eRet 151 64) (by omega) (fun i_ lo_ H_ e_ y_ h1 h2 => by omega) frb_tr eRet_led (by
    intro i_ l h_ lo_ x_ R_ hx H_
    obtain ⟨hb_, H_⟩ := H_
    obtain ⟨⟨Rs_, ⟨R1, R2, R3⟩, R7⟩, RQ⟩ := R_
    have hi_ := (List.getElem?_eq_some_iff.mp hx).1
    have e6_ : bpat h_ b_ (Int32.ofNat (i_ + 1)).toInt.toNat = some (.int x_) := by
      rw [i32t (by omega), show i_ + 1 = 0 + 1 + i_ by omega]
      exact R3 i_ x_ hx
    obtain ⟨h1, m1_, e_⟩ := tLS Rs_ R1 R2 e6_ ⟨by rw [i32n (by omega)]; omega, by rw [i32n (by omega)]; omega⟩ (pmC x_) (by rw [i32n (by omega), i32n (by omega)]; omega) H_
    have R_ : rwm h_ b_ 0 13 l := ⟨R1, R2, R3⟩
    rw [show (1 : Int32) = Int32.ofNat 1 from rfl, i32p, i32t (i_ := i_ + 1) (by omega), i60] at e_
    rcases e_ with ⟨g0, e1_, f1_, lo', H', ld⟩ | ⟨g0, e1_, f1_, lo', H', ld⟩
    · have en : lsm i_ x_ = x_ := if_pos g0
      refine ⟨h1, lo', ⟨⟨m1_.1, ?_, by rw [List.length_set]; exact R7⟩, r13_w RQ e1_ (fun j_ n_ => f1_ b_ j_ (fun q_ => n_ q_.2))⟩, ⟨m1_, fun c_ j_ n_ => f1_ c_ j_ (fun q_ => n_ q_.1)⟩, ⟨⟨by omega, trivial⟩, H'⟩, ld⟩
      rw [en]
      exact rwm_set R_ m1_ hi_ (by rw [show 0 + 1 + i_ = i_ + 1 by omega]; exact e1_) (fun c_ j_ n_ => f1_ c_ j_ (by rw [show 0 + 1 + i_ = i_ + 1 by omega] at n_; exact n_))
    · have en : lsm i_ x_ = pmC_F x_ := if_neg (by omega)
      refine ⟨h1, lo', ⟨⟨m1_.1, ?_, by rw [List.length_set]; exact R7⟩, r13_w RQ e1_ (fun j_ n_ => f1_ b_ j_ (fun q_ => n_ q_.2))⟩, ⟨m1_, fun c_ j_ n_ => f1_ c_ j_ (fun q_ => n_ q_.1)⟩, ⟨⟨by omega, trivial⟩, H'⟩, ld⟩
      rw [en]
      exact rwm_set R_ m1_ hi_ (by rw [show 0 + 1 + i_ = i_ + 1 by omega]; exact e1_) (fun c_ j_ n_ => f1_ c_ j_ (by rw [show 0 + 1 + i_ = i_ + 1 by omega] at n_; exact n_))) (by
    intro i_ l h_ lo_ R_ hl H_
    obtain ⟨hb_, H_⟩ := H_
    obtain ⟨⟨Rs_, ⟨R1, R2, R3⟩, R7⟩, RQ⟩ := R_
    obtain ⟨h1, m1_, f1_, e1_⟩ := xLS Rs_ R1 R2 (by rw [i32n (by omega), i32n (by omega)]; omega) H_
    exact ⟨h1, ⟨⟨m1_.1, rwm_keep ⟨R1, R2, R3⟩ m1_ (fun j_ _ _ => f1_ b_ j_), R7⟩, r13_k RQ (fun j_ => f1_ b_ j_)⟩, ⟨m1_, fun c_ j_ _ => f1_ c_ j_⟩, e1_⟩) l.length 0 l h_ _ (by omega) R_ ⟨⟨by omega, trivial⟩, H_⟩
theorem denies1q {b_ : Nat} {l : List Int32} {h_ : xH} (R_ : rMq b_ h_ l) : ∃ h', rMq b_ h' (mpf dny 0 l) ∧ frb b_ h_ h' ∧ eRet 148 0 [(0, .index b_), (1, .int 1), (2, .int 1)] h_ h' := by
  obtain ⟨h0, m0_, f0_, ld0⟩ := eD1 R_.1.1 R_.1.2.1.1
  have R0_ : rMq b_ h0 l := ⟨⟨m0_.1, rwm_keep R_.1.2.1 m0_ (fun j_ _ _ => f0_ b_ j_), R_.1.2.2⟩, r13_k R_.2 (fun j_ => f0_ b_ j_)⟩
  obtain ⟨h', R', F', E'_⟩ := lD1q R0_ rfl
  exact ⟨h', R', frb_tr _ _ _ ⟨m0_, fun c_ j_ _ => f0_ c_ j_⟩ F', fun D_ hD => ld0 D_ hD _ (E'_ D_ hD)⟩
theorem denies2q {b_ : Nat} {l : List Int32} {h_ : xH} (R_ : rMq b_ h_ l) : ∃ h', rMq b_ h' (mpf dn1 1 l) ∧ frb b_ h_ h' ∧ eRet 148 0 [(0, .index b_), (1, .int 2), (2, .int 2)] h_ h' := by
  obtain ⟨h0, m0_, f0_, ld0⟩ := eD2 R_.1.1 R_.1.2.1.1
  have R0_ : rMq b_ h0 l := ⟨⟨m0_.1, rwm_keep R_.1.2.1 m0_ (fun j_ _ _ => f0_ b_ j_), R_.1.2.2⟩, r13_k R_.2 (fun j_ => f0_ b_ j_)⟩
  obtain ⟨h', R', F', E'_⟩ := lD2q R0_ rfl
  exact ⟨h', R', frb_tr _ _ _ ⟨m0_, fun c_ j_ _ => f0_ c_ j_⟩ F', fun D_ hD => ld0 D_ hD _ (E'_ D_ hD)⟩
theorem turnsMq {b_ : Nat} {l : List Int32} {h_ : xH} (R_ : rMq b_ h_ l) : ∃ h', rMq b_ h' (rvf 12 0 ((l.length : Int) - 1) l) ∧ frb b_ h_ h' ∧ eRet 147 0 [(0, .index 338), (1, .index b_)] h_ h' := by
  obtain ⟨h0, m0_, f0_, ld0⟩ := eTU R_.1.1 R_.1.2.1.1 R_.1.2.1.2.1
  have R0_ : rMq b_ h0 l := ⟨⟨m0_.1, rwm_keep R_.1.2.1 m0_ (fun j_ _ _ => f0_ b_ j_), R_.1.2.2⟩, r13_k R_.2 (fun j_ => f0_ b_ j_)⟩
  have hl := R_.1.2.2
  have es : Int32.ofNat l.length = Int32.ofInt ((l.length : Int) - 1 + 1) := by
    rw [show (l.length : Int) - 1 + 1 = (l.length : Int) by omega]
    rfl
  rw [es] at ld0
  obtain ⟨h', R', F', E'_⟩ := swap_loop (mi := 147) (pc := 6) (HD := fun i_ j_ lo_ => (-1 ≤ j_ ∧ i_ ≤ 12) ∧ tTU_hd b_ (Int32.ofNat (i_ + 1)) (Int32.ofInt (j_ + 1)) lo_) (RW := rMq b_) (FR := frb b_) (E_ := eRet 147 6) frb_tr eRet_led (by
    intro i_ j_ l h_ lo_ x_ y_ R_ hx hy hij H_
    obtain ⟨⟨Rs_, ⟨R1, R2, R3⟩, R7⟩, RQ⟩ := R_
    have hi_ := (List.getElem?_eq_some_iff.mp hx).1
    have hj := (List.getElem?_eq_some_iff.mp hy).1
    have e6_ : bpat h_ b_ (Int32.ofNat (i_ + 1)).toInt.toNat = some (.int x_) := by
      rw [i32t (by omega), show i_ + 1 = 0 + 1 + i_ by omega]
      exact R3 i_ x_ hx
    have ej : Int32.ofInt ((j_ : Int) + 1) = Int32.ofNat (j_ + 1) := rfl
    have e7_ : bpat h_ b_ (Int32.ofNat (j_ + 1)).toInt.toNat = some (.int y_) := by
      rw [i32t (by omega), show j_ + 1 = 0 + 1 + j_ by omega]
      exact R3 j_ y_ hy
    obtain ⟨hb_, H_⟩ := H_
    rw [ej] at H_
    obtain ⟨h1, m1_, e1_, e2_, f1_, lo', H', ld⟩ := tTU Rs_ R1 (by assumption) (by assumption) ⟨by rw [i32n (by omega)]; omega, by rw [i32n (by omega)]; omega⟩ ⟨by rw [i32n (by omega)]; omega, by rw [i32n (by omega)]; omega⟩ (by rw [i32t (by omega), i32t (by omega)]; omega) (by rw [i32n (by omega), i32n (by omega)]; omega) H_
    rw [i32t (by omega)] at e1_ e2_
    rw [i32s, i32m (j_ + 1) (by omega)] at H'
    have f2_ : ∀ c_ k_, ¬ (c_ = b_ ∧ k_ = i_ + 1) → ¬ (c_ = b_ ∧ k_ = j_ + 1) → bpat h1 c_ k_ = bpat h_ c_ k_ := by
      intro c_ k_ n1_ n2_
      exact f1_ c_ k_ (by rw [i32t (by omega)]; exact n2_) (by rw [i32t (by omega)]; exact n1_)
    refine ⟨h1, lo', ⟨⟨m1_.1, rwm_swp ⟨R1, R2, R3⟩ m1_ hx hy (by omega) (by rw [show 0 + 1 + i_ = i_ + 1 by omega]; exact e2_) (by rw [show 0 + 1 + j_ = j_ + 1 by omega]; exact e1_) (fun k_ n1_ n2_ => f2_ b_ k_ (by omega) (by omega)), by rw [List.length_set, List.length_set]; exact R7⟩, r13_w2 RQ e1_ e2_ (fun k_ n1_ n2_ => f2_ b_ k_ (fun q_ => n2_ q_.2) (fun q_ => n1_ q_.2))⟩, ⟨m1_, fun c_ k_ n_ => f2_ c_ k_ (fun q_ => n_ q_.1) (fun q_ => n_ q_.1)⟩, ⟨⟨by omega, by omega⟩, ?_⟩, ld⟩
    rw [show (j_ : Int) - 1 + 1 = ((j_ + 1 : Nat) : Int) - 1 by omega]
    exact H') (by
    intro i_ j_ l h_ lo_ R_ hl H_
    obtain ⟨⟨Rs_, R_, R7⟩, RQ⟩ := R_
    obtain ⟨hb_, H_⟩ := H_
    obtain ⟨h1, m1_, f1_, e1_⟩ := xTU Rs_ R_.1 (by rw [i32n (by omega), i32z (by omega) (by omega)]; omega) H_
    exact ⟨h1, ⟨⟨m1_.1, rwm_keep R_ m1_ (fun j_ _ _ => f1_ b_ j_), R7⟩, r13_k RQ (fun j_ => f1_ b_ j_)⟩, ⟨m1_, fun c_ j_ _ => f1_ c_ j_⟩, e1_⟩) 12 0 ((l.length : Int) - 1) l h0 _ (by omega) (by omega) R0_ ⟨⟨by omega, by omega⟩, Or.inl rfl⟩
  exact ⟨h', R', frb_tr _ _ _ ⟨m0_, fun c_ j_ _ => f0_ c_ j_⟩ F', fun D_ hD => ld0 D_ hD _ (E'_ D_ hD)⟩
theorem se0q {b_ k_ : Nat} {l : List Int32} {h_ : xH} (hk : k_ < 8) (o0_ : rkm h_ k_ 0 0) (R_ : rMq b_ h_ l) : ∃ h', rMq b_ h' (l) ∧ frb b_ h_ h' ∧ ∀ D_, 63 ≤ D_ → xrun D_ 151 0 [(0, .index 338), (1, .int (Int32.ofNat k_)), (2, .index b_)] [] h_ (none, h', []) := by
  have T := bcq_of (n_ := 338) (z_ := (12, 26)) R_.1.1 rfl
  obtain ⟨q0, q1_⟩ := rkm_at hk (by omega) o0_
  obtain ⟨h0, m0_, f0_, ld0⟩ := ese0 (v1_ := Int32.ofNat k_) R_.1.1 R_.1.2.1.1 q0 q1_
  have R0_ := rMq_all R_ m0_ f0_
  exact ⟨h0, R0_, ⟨m0_, fun c_ j_ _ => f0_ c_ j_⟩, fun D_ hD => ld0 D_ (by omega)⟩
theorem se1q {b_ k_ : Nat} {l : List Int32} {h_ : xH} (hk : k_ < 8) (o0_ : rkm h_ k_ 0 1) (R_ : rMq b_ h_ l) : ∃ h', rMq b_ h' (mpf dny 0 l) ∧ frb b_ h_ h' ∧ ∀ D_, 63 ≤ D_ → xrun D_ 151 0 [(0, .index 338), (1, .int (Int32.ofNat k_)), (2, .index b_)] [] h_ (none, h', []) := by
  have T := bcq_of (n_ := 338) (z_ := (12, 26)) R_.1.1 rfl
  obtain ⟨q0, q1_⟩ := rkm_at hk (by omega) o0_
  obtain ⟨h0, m0_, f0_, ld0⟩ := ese1 (v1_ := Int32.ofNat k_) R_.1.1 R_.1.2.1.1 q0 q1_
  have R0_ := rMq_all R_ m0_ f0_
  obtain ⟨h1, R1, F1_, E1_⟩ := denies1q R0_
  have T1 := m0_.2 _ _ _ T
  have B1 := m0_.2 _ _ _ R_.1.2.1.1
  have c1_ := ycs (mi := 151) (pc := 47) (cm := 148) (lo_ := [(0, .index 338), (1, .int (Int32.ofNat k_)), (2, .index b_)]) (st_ := [.int 1, .int 1, .index b_]) (as_ := [.index b_, .int 1, .int 1]) (s' := []) rfl rfl rfl (xcc_l (List.forall_mem_cons.mpr ⟨xidx_i (bcq_lt T1), List.forall_mem_cons.mpr ⟨rfl, List.forall_mem_cons.mpr ⟨xidx_i (bcq_lt B1), fun q_ hq => absurd hq List.not_mem_nil⟩⟩⟩) (fun t_ ht => absurd ht List.not_mem_nil) (by decide)) E1_
  obtain ⟨h2, m2_, f2_, r2⟩ := xse1 (v1_ := Int32.ofNat k_) R1.1.1 R1.1.2.1.1
  exact ⟨h2, rMq_all R1 m2_ f2_, frb_tr _ _ _ ⟨m0_, fun c_ j_ _ => f0_ c_ j_⟩ (frb_tr _ _ _ F1_ ⟨m2_, fun c_ j_ _ => f2_ c_ j_⟩), fun D_ hD => ld0 D_ (by omega) _ (c1_ D_ (by omega) _ (r2 D_ (by omega)))⟩
theorem se2q {b_ k_ : Nat} {l : List Int32} {h_ : xH} (hk : k_ < 8) (o0_ : rkm h_ k_ 0 2) (R_ : rMq b_ h_ l) : ∃ h', rMq b_ h' (mpf dn1 1 l) ∧ frb b_ h_ h' ∧ ∀ D_, 63 ≤ D_ → xrun D_ 151 0 [(0, .index 338), (1, .int (Int32.ofNat k_)), (2, .index b_)] [] h_ (none, h', []) := by
  have T := bcq_of (n_ := 338) (z_ := (12, 26)) R_.1.1 rfl
  obtain ⟨q0, q1_⟩ := rkm_at hk (by omega) o0_
  obtain ⟨h0, m0_, f0_, ld0⟩ := ese2 (v1_ := Int32.ofNat k_) R_.1.1 R_.1.2.1.1 q0 q1_
  have R0_ := rMq_all R_ m0_ f0_
  obtain ⟨h1, R1, F1_, E1_⟩ := denies2q R0_
  have T1 := m0_.2 _ _ _ T
  have B1 := m0_.2 _ _ _ R_.1.2.1.1
  have c1_ := ycs (mi := 151) (pc := 56) (cm := 148) (lo_ := [(0, .index 338), (1, .int (Int32.ofNat k_)), (2, .index b_)]) (st_ := [.int 2, .int 2, .index b_]) (as_ := [.index b_, .int 2, .int 2]) (s' := []) rfl rfl rfl (xcc_l (List.forall_mem_cons.mpr ⟨xidx_i (bcq_lt T1), List.forall_mem_cons.mpr ⟨rfl, List.forall_mem_cons.mpr ⟨xidx_i (bcq_lt B1), fun q_ hq => absurd hq List.not_mem_nil⟩⟩⟩) (fun t_ ht => absurd ht List.not_mem_nil) (by decide)) E1_
  obtain ⟨h2, m2_, f2_, r2⟩ := xse2 (v1_ := Int32.ofNat k_) R1.1.1 R1.1.2.1.1
  exact ⟨h2, rMq_all R1 m2_ f2_, frb_tr _ _ _ ⟨m0_, fun c_ j_ _ => f0_ c_ j_⟩ (frb_tr _ _ _ F1_ ⟨m2_, fun c_ j_ _ => f2_ c_ j_⟩), fun D_ hD => ld0 D_ (by omega) _ (c1_ D_ (by omega) _ (r2 D_ (by omega)))⟩
theorem se3q {b_ k_ : Nat} {l : List Int32} {h_ : xH} (hk : k_ < 8) (o0_ : rkm h_ k_ 0 3) (R_ : rMq b_ h_ l) : ∃ h', rMq b_ h' (mpf lsm 0 l) ∧ frb b_ h_ h' ∧ ∀ D_, 63 ≤ D_ → xrun D_ 151 0 [(0, .index 338), (1, .int (Int32.ofNat k_)), (2, .index b_)] [] h_ (none, h', []) := by
  have T := bcq_of (n_ := 338) (z_ := (12, 26)) R_.1.1 rfl
  obtain ⟨q0, q1_⟩ := rkm_at hk (by omega) o0_
  obtain ⟨h0, m0_, f0_, ld0⟩ := ese3 (v1_ := Int32.ofNat k_) R_.1.1 R_.1.2.1.1 q0 q1_
  have R0_ := rMq_all R_ m0_ f0_
  obtain ⟨h1, R1, F1_, E1_⟩ := lLSq (R1_ := Int32.ofNat k_) R0_ rfl
  exact ⟨h1, R1, frb_tr _ _ _ ⟨m0_, fun c_ j_ _ => f0_ c_ j_⟩ F1_, fun D_ hD => ld0 D_ (by omega) _ (E1_ D_ (by omega))⟩
theorem se4q {b_ k_ : Nat} {l : List Int32} {h_ : xH} (hk : k_ < 8) (o0_ : rkm h_ k_ 0 4) (R_ : rMq b_ h_ l) : ∃ h', rMq b_ h' (rvf 12 0 ((l.length : Int) - 1) l) ∧ frb b_ h_ h' ∧ ∀ D_, 63 ≤ D_ → xrun D_ 151 0 [(0, .index 338), (1, .int (Int32.ofNat k_)), (2, .index b_)] [] h_ (none, h', []) := by
  have T := bcq_of (n_ := 338) (z_ := (12, 26)) R_.1.1 rfl
  obtain ⟨q0, q1_⟩ := rkm_at hk (by omega) o0_
  obtain ⟨h0, m0_, f0_, ld0⟩ := ese4 (v1_ := Int32.ofNat k_) R_.1.1 R_.1.2.1.1 q0 q1_
  have R0_ := rMq_all R_ m0_ f0_
  obtain ⟨h1, R1, F1_, E1_⟩ := turnsMq R0_
  have T1 := m0_.2 _ _ _ T
  have B1 := m0_.2 _ _ _ R_.1.2.1.1
  have c1_ := ycv (mi := 151) (pc := 105) (cm := 147) (lo_ := [(0, .index 338), (1, .int (Int32.ofNat k_)), (2, .index b_)]) (st_ := [.index b_, .index 338]) (as_ := [.index b_]) (s' := []) rfl rfl T1 rfl (xcc_l (List.forall_mem_cons.mpr ⟨xidx_i (bcq_lt T1), List.forall_mem_cons.mpr ⟨rfl, List.forall_mem_cons.mpr ⟨xidx_i (bcq_lt B1), fun q_ hq => absurd hq List.not_mem_nil⟩⟩⟩) (fun t_ ht => absurd ht List.not_mem_nil) (by decide)) E1_
  obtain ⟨h2, m2_, f2_, r2⟩ := xse4 (v1_ := Int32.ofNat k_) R1.1.1 R1.1.2.1.1
  exact ⟨h2, rMq_all R1 m2_ f2_, frb_tr _ _ _ ⟨m0_, fun c_ j_ _ => f0_ c_ j_⟩ (frb_tr _ _ _ F1_ ⟨m2_, fun c_ j_ _ => f2_ c_ j_⟩), fun D_ hD => ld0 D_ (by omega) _ (c1_ D_ (by omega) _ (r2 D_ (by omega)))⟩
theorem seQ (m_ : Nat) (xs : List Int32) {b_ k_ kd : Nat} {l : List Int32} {h_ : xH} (S_ : sds l) (hk : k_ < 8) (hd_ : kd ≤ 4) (o0_ : rkm h_ k_ 0 (Int32.ofNat kd)) (R_ : rMq b_ h_ l) : ∃ h', rMq b_ h' (sdo kd m_ xs l) ∧ frz b_ h_ h' ∧ ∀ D_, 63 ≤ D_ → xrun D_ 151 0 [(0, .index 338), (1, .int (Int32.ofNat k_)), (2, .index b_)] [] h_ (none, h', []) := by
  have e_ : kd = 0 ∨ (kd = 1 ∨ (kd = 2 ∨ (kd = 3 ∨ kd = 4))) := by omega
  have L_ := R_.1.2.2
  rcases e_ with rfl | rfl | rfl | rfl | rfl
  · obtain ⟨h', R', F_, E_⟩ := se0q hk o0_ R_
    exact ⟨h', R', frz_b F_, E_⟩
  · obtain ⟨h', R', F_, E_⟩ := se1q hk o0_ R_
    rw [nay_eq S_ L_] at R'
    exact ⟨h', R', frz_b F_, E_⟩
  · obtain ⟨h', R', F_, E_⟩ := se2q hk o0_ R_
    rw [sec_eq S_ L_] at R'
    exact ⟨h', R', frz_b F_, E_⟩
  · obtain ⟨h', R', F_, E_⟩ := se3q hk o0_ R_
    rw [les_eq S_ L_] at R'
    exact ⟨h', R', frz_b F_, E_⟩
  · obtain ⟨h', R', F_, E_⟩ := se4q hk o0_ R_
    exact ⟨h', R', frz_b F_, E_⟩
section
variable {W_ : Nat → List Int32} {V : Nat → Int32} {h_ : xH}
theorem c_seq {mi pc idx ln p0_ a1_ b1 d1_ k_ b_ : Nat} {l : List Int32} {lo_ : xL} {s' : List Jvm.Term} (hcd : xcd mi pc = some (.invokevirtual idx, ln, [p0_, 151, a1_, b1, d1_])) (hcc : xcc h_.length lo_ s' = true) (K_ : okS W_ V) (H_ : SM W_ V h_) (hk : k_ < 8) (ok_ : okn V k_) (hr : mrC b_) (S_ : snds l) (R_ : rMq b_ h_ l) : ∃ h', (SM W_ V h' ∧ frz b_ h_ h') ∧ (rMq b_ h' (sdo (kdV V k_) (mV_ V k_) (W_ 23) l) ∧ bldD 64 mi pc lo_ (.index b_ :: .int (Int32.ofNat k_) :: .index 338 :: s') h_ (pc + 3) lo_ s' h') := by
  obtain ⟨k1_, x1_⟩ := mrC_s H_.1 hr
  have T : bcq h_ 338 12 26 := bcq_of (n_ := 338) (z_ := (12, 26)) H_.1 rfl
  obtain ⟨⟨a1_, a2⟩, b1_, b2⟩ := rk_b (k_ := k_) K_ hk
  have e0_ := SM_v H_ (rk_in (k_ := k_) (j_ := 0) hk (by omega)).2
  rw [Nat.add_zero, a2] at e0_
  have k4_ : kdV V k_ ≤ 4 := by
    have n5_ : ¬ kdV V k_ = 5 := fun q_ => ok_ (Or.inl q_)
    have n6_ : ¬ kdV V k_ = 6 := fun q_ => ok_ (Or.inr q_)
    omega
  obtain ⟨h', R', F_, r_⟩ := seQ (mV_ V k_) (W_ 23) (sds_s S_) hk k4_ (show rkm h_ k_ 0 (Int32.ofNat (kdV V k_)) by unfold rkm; rw [Nat.add_zero]; exact e0_) R_
  refine ⟨h', ⟨SM_fr H_ F_.1 (fun c2_ j_ hc2 => F_.2 c2_ j_ (fun q_ => by rw [q_, x1_] at hc2; cases hc2) (fun q_ => by rw [q_] at hc2; exact absurd hc2 (by simp [smc])) (fun q_ => by rw [q_] at hc2; exact absurd hc2 (by simp [smc]))), F_⟩, R', ycv (as_ := [.int (Int32.ofNat k_), .index b_]) hcd rfl T rfl hcc r_⟩
theorem ne_q {N_ b_ : Nat} (hN_ : N_ ≤ 8) (K_ : okS W_ V) (hr : mrC b_) {x1_ x2_ : Int32} : ∀ (f_ m_ : Nat) (l : List Int32) (h_ : xH), m_ < 10 ^ f_ → m_ ≤ 9999 → aok N_ m_ (wlf f_ m_) → cuL V (dgl m_ (wlf f_ m_)) → snds l → SM W_ V h_ → rMq b_ h_ l → ∃ h' r_, (SM W_ V h' ∧ frz b_ h_ h') ∧ ((ndk V (W_ 23) (dgl m_ (wlf f_ m_)) (wlf f_ m_) l = some r_ ∧ rMq b_ h' r_) ∧ ∀ D_, 66 ≤ D_ → xrun D_ 158 15 [(4, .int (Int32.ofNat m_)), (0, .index 338), (1, .int x1_), (2, .int x2_), (3, .index b_)] [] h_ (none, h', [])) := by
  intro f_
  have z0 := z0_
  have stop_ : ∀ (f_ : Nat) (l : List Int32) (h_ : xH), SM W_ V h_ → rMq b_ h_ l → ∃ h' r_, (SM W_ V h' ∧ frz b_ h_ h') ∧ ((ndk V (W_ 23) (dgl 0 (wlf f_ 0)) (wlf f_ 0) l = some r_ ∧ rMq b_ h' r_) ∧ ∀ D_, 66 ≤ D_ → xrun D_ 158 15 [(4, .int (Int32.ofNat 0)), (0, .index 338), (1, .int x1_), (2, .int x2_), (3, .index b_)] [] h_ (none, h', [])) := by
    intro f_ l h_ H_ R_
    obtain ⟨h1, m1_, f1_, r1_⟩ := mneX (v1_ := x1_) (v2 := x2_) (v4_ := Int32.ofNat 0) H_.1 R_.1.2.1.1 (by decide)
    rw [wlf_0]
    exact ⟨h1, l, ⟨SM_fr H_ m1_ (fun c_ j_ _ => f1_ c_ j_), m1_, fun c_ j_ _ _ _ => f1_ c_ j_⟩, ⟨rfl, rMq_all R_ m1_ f1_⟩, fun D_ hD => r1_ D_ (by omega)⟩
  induction f_ with
  | zero =>
    intro m_ l h_ hm_ hm2 a_ C_ S_ H_ R_
    have e_ : m_ = 0 := by simpa using hm_
    subst e_
    exact stop_ 0 l h_ H_ R_
  | succ f_ ih_ =>
    intro m_ l h_ hm_ hm2 a_ C_ S_ H_ R_
    by_cases z_ : m_ = 0
    · subst z_
      exact stop_ (f_ + 1) l h_ H_ R_
    rw [wlf_s z_] at a_ C_ ⊢
    obtain ⟨⟨k8_, ek⟩, ⟨e1_, e2_⟩, kN_, ed, a'⟩ := dig_k hN_ hm2 a_
    rw [dgl_lo, cuL_sn] at C_
    obtain ⟨h1, m1_, f1_, ld1⟩ := mneT (v1_ := x1_) (v2 := x2_) (v4_ := Int32.ofNat m_) H_.1 R_.1.2.1.1 (by rw [i32n (by omega)]; omega)
    rw [ek] at ld1
    have H1_ := SM_fr H_ m1_ (fun c_ j_ _ => f1_ c_ j_)
    obtain ⟨h2, ⟨H2_, F2⟩, R2, ld2⟩ := c_seq (mi := 158) (pc := 29) (k_ := m_ % 10 - 1) (lo_ := [(4, .int (Int32.ofNat m_)), (0, .index 338), (1, .int x1_), (2, .int x2_), (3, .index b_)]) (s' := []) rfl (xcc_l (List.forall_mem_cons.mpr ⟨rfl, List.forall_mem_cons.mpr ⟨xidx_i (bcq_lt (bcq_of (n_ := 338) (z_ := (12, 26)) H1_.1 rfl)), List.forall_mem_cons.mpr ⟨rfl, List.forall_mem_cons.mpr ⟨rfl, List.forall_mem_cons.mpr ⟨xidx_i (bcq_lt (m1_.2 _ _ _ R_.1.2.1.1)), fun q_ hq => absurd hq List.not_mem_nil⟩⟩⟩⟩⟩) (fun t_ ht => absurd ht List.not_mem_nil) (Nat.le_of_ble_eq_true rfl)) K_ H1_ k8_ (by have q_ := C_.2; unfold okk at q_; rw [e2_] at q_; exact q_) hr S_ (rMq_all R_ m1_ f1_)
    obtain ⟨h3, m3_, f3_, ld3⟩ := mneN (v1_ := x1_) (v2 := x2_) (v4_ := Int32.ofNat m_) H2_.1 R2.1.2.1.1
    rw [ed] at ld3
    have H3 := SM_fr H2_ m3_ (fun c_ j_ _ => f3_ c_ j_)
    obtain ⟨h4, r_, ⟨H4, F4⟩, ⟨e4_, R4⟩, r4⟩ := ih_ (m_ / 10) _ h3 (by rw [Nat.pow_succ] at hm_; omega) (by omega) a' C_.1 (snds_sdo S_) H3 (rMq_all R2 m3_ f3_)
    have F_ : frz b_ h_ h4 := frz_tr ⟨m1_, fun c_ j_ _ _ _ => f1_ c_ j_⟩ (frz_tr F2 (frz_tr ⟨m3_, fun c_ j_ _ _ _ => f3_ c_ j_⟩ F4))
    refine ⟨h4, r_, ⟨H4, F_⟩, ⟨?_, R4⟩, fun D_ hD => ld1 D_ (by omega) _ (ld2 D_ (by omega) _ (ld3 D_ (by omega) _ (r4 D_ (by omega))))⟩
    have gl : (dgl m_ (wlf f_ (m_ / 10) + 1)).getD (wlf f_ (m_ / 10)) 0 = Int32.ofNat (m_ % 10) - 1 := by
      have e_ := getD_la (L_ := dgl (m_ / 10) (wlf f_ (m_ / 10))) (x_ := Int32.ofNat (m_ % 10) - 1)
      rw [dgl_len] at e_
      rw [dgl_lo]
      exact e_
    show pif (okk V ((dgl m_ (wlf f_ (m_ / 10) + 1)).getD (wlf f_ (m_ / 10)) 0)) (ndk V (W_ 23) (dgl m_ (wlf f_ (m_ / 10) + 1)) (wlf f_ (m_ / 10)) (sdo (kdV V ((dgl m_ (wlf f_ (m_ / 10) + 1)).getD (wlf f_ (m_ / 10)) 0).toInt.toNat) (mV_ V ((dgl m_ (wlf f_ (m_ / 10) + 1)).getD (wlf f_ (m_ / 10)) 0).toInt.toNat) (W_ 23) l)) none = some r_
    rw [gl, pif_t C_.2, dgl_lo, ndk_ap _ _ (by rw [dgl_len]; omega), e2_]
    exact e4_
theorem takeQ {b_ q_ : Nat} {l : List Int32} {h_ : xH} (nb : ¬ b_ = 339) (hq : q_ + 13 ≤ 768) (hs : sHp h_) (kb : bcq h_ b_ 20 13) (hl : l.length ≤ 12) (hz : ∀ j_, j_ < 13 → ∃ y_ : Int32, bpat h_ 339 (q_ + j_) = some (.int y_)) (R_ : rwm h_ 339 q_ 768 l) : ∃ h', rMq b_ h' l ∧ (frb b_ h_ h' ∧ ∀ D_, 60 ≤ D_ → xrun D_ 145 0 [(0, .index 338), (1, .int (Int32.ofNat q_)), (2, .index b_)] [] h_ (none, h', [])) := by
  obtain ⟨h0, m0_, f0_, ld0⟩ := etk (v1_ := Int32.ofNat q_) hs kb
  obtain ⟨h1, F1_, d1_, r1_⟩ := tk_lp nb hq 13 0 h0 (by omega) m0_.1 (m0_.2 _ _ _ kb) (fun j_ hj => by rw [f0_]; exact hz j_ hj) (fun j_ hj => by omega)
  have F_ : frb b_ h_ h1 := frb_tr _ _ _ ⟨m0_, fun c_ j_ _ => f0_ c_ j_⟩ F1_
  refine ⟨h1, ⟨⟨F_.1.1, ⟨F_.1.2 _ _ _ kb, ?_, fun j_ y_ hy => ?_⟩, hl⟩, fun j_ hj => by rw [d1_ j_ hj, f0_]; exact hz j_ hj⟩, F_, fun D_ hD => ld0 D_ hD _ (r1_ D_ hD)⟩
  · rw [d1_ 0 (by omega), f0_]
    exact R_.2.1
  · have hj := (List.getElem?_eq_some_iff.mp hy).1
    rw [d1_ (0 + 1 + j_) (by omega), f0_, show q_ + (0 + 1 + j_) = q_ + 1 + j_ by omega]
    exact R_.2.2 j_ y_ hy
theorem c_takeq {mi pc idx ln p0_ a1_ b1 d1_ b_ c_ : Nat} {lo_ : xL} {s' : List Jvm.Term} (hcd : xcd mi pc = some (.invokevirtual idx, ln, [p0_, 145, a1_, b1, d1_])) (hcc : xcc h_.length lo_ s' = true) (K_ : okS W_ V) (H_ : SM W_ V h_) (hr : mrC b_) (hc_ : c_ < 12) (hz : ∀ j_, j_ < 768 → ∃ y_ : Int32, bpat h_ 339 j_ = some (.int y_)) : ∃ h', (SM W_ V h' ∧ frb b_ h_ h') ∧ (rMq b_ h' (W_ c_) ∧ bldD 61 mi pc lo_ (.index b_ :: .int (Int32.ofNat (34 + 13 * c_)) :: .index 338 :: s') h_ (pc + 3) lo_ s' h') := by
  obtain ⟨k1_, x1_⟩ := mrC_s H_.1 hr
  have Tq : bcq h_ 338 12 26 := bcq_of (n_ := 338) (z_ := (12, 26)) H_.1 rfl
  have Q_ : bcq h_ 339 20 768 := bcq_of (n_ := 339) (z_ := (20, 768)) H_.1 rfl
  have kc_ := K_.1.2.2.1 c_ hc_
  rw [Nat.zero_add] at kc_
  have nb : ¬ b_ = 339 := by rcases hr with rfl | rfl | rfl <;> omega
  obtain ⟨h', R_, F_, r_⟩ := takeQ (b_ := b_) (q_ := 34 + 13 * c_) nb (by omega) H_.1 k1_ kc_.1 (fun j_ hj => hz _ (by omega)) (rwm_q Q_ (by have R_ := SM_w H_ (cl_m hc_); rw [show 35 + 13 * c_ = 34 + 13 * c_ + 1 by omega] at R_; exact R_))
  exact ⟨h', ⟨SM_fr H_ F_.1 (fun c2_ j_ hc2 => F_.2 c2_ j_ (fun q_ => by rw [q_, x1_] at hc2; cases hc2)), F_⟩, R_, ycv (as_ := [.int (Int32.ofNat (34 + 13 * c_)), .index b_]) hcd rfl Tq rfl hcc r_⟩
/-- needs -/
theorem neQ {c_ n_ : Nat} (K_ : okS W_ V) (H_ : SM W_ V h_) (hc_ : c_ < 12) (hn : n_ ≤ 99) (gw : isW (nR V) (Int32.ofNat n_)) (gc_ : cuL V (wyl (Int32.ofNat n_))) (hz : ∀ j_, j_ < 768 → ∃ y_ : Int32, bpat h_ 339 j_ = some (.int y_)) : ∃ h' y_, (SM W_ V h' ∧ frz 342 h_ h') ∧ ((waO W_ V (W_ c_) n_ = some y_ ∧ rMq 342 h' y_) ∧ ∀ D_, 70 ≤ D_ → xrun D_ 158 0 [(0, .index 338), (1, .int (Int32.ofNat c_)), (2, .int (Int32.ofNat n_)), (3, .index 342)] [] h_ (none, h', [])) := by
  obtain ⟨h5, m5_, f5_, ld5⟩ := mneA (v1_ := Int32.ofNat c_) (v2 := Int32.ofNat n_) H_.1 (bcq_of (n_ := 342) (z_ := (20, 13)) H_.1 rfl)
  rw [i34e hc_] at ld5
  have H5 := SM_fr H_ m5_ (fun c_ j_ _ => f5_ c_ j_)
  obtain ⟨h6, ⟨H6, F6⟩, R6, ld6⟩ := c_takeq (mi := 158) (pc := 9) (lo_ := [(0, .index 338), (1, .int (Int32.ofNat c_)), (2, .int (Int32.ofNat n_)), (3, .index 342)]) (b_ := 342) (s' := []) rfl (xcc_l (List.forall_mem_cons.mpr ⟨xidx_i (bcq_lt (bcq_of (n_ := 338) (z_ := (12, 26)) H5.1 rfl)), List.forall_mem_cons.mpr ⟨rfl, List.forall_mem_cons.mpr ⟨rfl, List.forall_mem_cons.mpr ⟨xidx_i (bcq_lt (bcq_of (n_ := 342) (z_ := (20, 13)) H5.1 rfl)), fun q_ hq => absurd hq List.not_mem_nil⟩⟩⟩⟩) (fun t_ ht => absurd ht List.not_mem_nil) (Nat.le_of_ble_eq_true rfl)) K_ H5 (Or.inl rfl) hc_ (fun j_ hj => by rw [f5_]; exact hz j_ hj)
  obtain ⟨h7, m7_, f7_, ld7⟩ := mneB (v1_ := Int32.ofNat c_) (v2 := Int32.ofNat n_) H6.1 (bcq_of (n_ := 342) (z_ := (20, 13)) H6.1 rfl)
  have H7 := SM_fr H6 m7_ (fun c_ j_ _ => f7_ c_ j_)
  have kc_ := K_.1.2.2.1 c_ hc_
  rw [Nat.zero_add] at kc_
  have en : (Int32.ofNat n_).toInt.toNat = n_ := i32t (by omega)
  have g2 := gw.2
  rw [en] at g2
  have gc2 := gc_
  unfold wyl at gc2
  rw [en] at gc2
  obtain ⟨h8, rr, ⟨H8, F8⟩, ⟨e8, R8⟩, r8⟩ := ne_q (b_ := 342) (x1_ := Int32.ofNat c_) (x2_ := Int32.ofNat n_) (nR_le K_).1 K_ (Or.inl rfl) 5 n_ (W_ c_) h7 (by omega) (by omega) g2 gc2 kc_.2 H7 (rMq_all R6 m7_ f7_)
  refine ⟨h8, rr, ⟨H8, frz_tr ⟨m5_, fun c_ j_ _ _ _ => f5_ c_ j_⟩ (frz_tr (frz_b F6) (frz_tr ⟨m7_, fun c_ j_ _ _ _ => f7_ c_ j_⟩ F8))⟩, ⟨?_, R8⟩, fun D_ hD => ld5 D_ (by omega) _ (ld6 D_ (by omega) _ (ld7 D_ (by omega) _ (r8 D_ (by omega))))⟩
  unfold waO
  rw [pif_t ⟨gw, gc_⟩]
  unfold ndW wyl
  rw [en, dgl_len]
  exact e8
end
-- mfE0: 10 steps, 1 ends, 0 returns
def mfE0_L : List (Nat × Nat × Nat) := []
def mfE0_O : yO := []
def mfE0_A : yA := (yZ mfE0_L, [], [], [], [])
def mfE0_C : List xB := []
def mfE0_ss : List yS := [(29, [(4, .int 0), (3, .int 0), (0, .index 338), (1, .arg 1), (2, .int 0)], [], [(338, .int 15, .int 0)], [], [(338, .int 15)])]
def mfE0_rs : List yR := []
theorem mfE0_w : ywa mfE0_A mfE0_ss mfE0_rs = true := by decide +kernel
theorem mfE0_k : yis (yev mfE0_A 3000 60 196 [29] (0, [(0, .index 338), (1, .arg 1), (2, .int 0)], [], mfE0_O, mfE0_C, [])) mfE0_ss mfE0_rs = true := by decide +kernel
def mfE0_r (v1_ : Int32) (k_ : Nat) : Value := bif Nat.beq k_ 1 then .int v1_ else (.int 0)
def mfE0_s (n_ : Nat) : Nat := 0
theorem mfE0 {h_ : xH} {v1_ : Int32} (hs : sHp h_) : ∃ h', ysm h_ h' ∧ (((bpat h' 338 15 = some (.int (0 : Int32))) ∧ (∀ a_ j_ : Nat, ¬ (a_ = 338 ∧ j_ = 15) → bpat h' a_ j_ = bpat h_ a_ j_) ∧ (bldD 60 196 0 [(0, .index 338), (1, .int v1_), (2, .int (0 : Int32))] [] h_ 29 [(4, .int (0 : Int32)), (3, .int (0 : Int32)), (0, .index 338), (1, .int v1_), (2, .int (0 : Int32))] [] h'))) := by
  have hA : yas mfE0_A (mfE0_r v1_) (yg mfE0_s) := ⟨fun q_ hq => absurd hq List.not_mem_nil, fun q_ hq => absurd hq List.not_mem_nil, fun q_ hq => absurd hq List.not_mem_nil, fun n_ hn => yg_lo hn, fun q_ hq => absurd hq List.not_mem_nil⟩
  have Hs : ysh mfE0_A.1 (yg mfE0_s) h_ := ysh_of2 hs (fun q_ hq => absurd hq List.not_mem_nil)
  have Ho : ymem (mfE0_r v1_) (yg mfE0_s) mfE0_O h_ := fun q_ hq => absurd hq List.not_mem_nil
  have HC : ∀ q_ ∈ mfE0_C, xhold (mfE0_r v1_) q_ := fun q_ hq => absurd hq List.not_mem_nil
  rcases yrun (yis_ok mfE0_k) hA Hs Ho HC with ⟨q_, hq, h', K_, G_⟩ | ⟨q_, hq, h', K_, G_⟩
  · have e_ := List.mem_singleton.mp hq
    subst e_
    exact ⟨h', yfr_sm K_.2.2.2 hs K_.1 (ywa_s mfE0_w List.mem_cons_self), ⟨bpat_of (K_.2.1 _ List.mem_cons_self), fun a_ j_ n0_ => yfr_bp K_.2.2.2 (List.forall_mem_cons.mpr ⟨fun e_ => n0_ ⟨e_.1.symm, e_.2.symm⟩, fun q_ hq => absurd hq List.not_mem_nil⟩), G_⟩⟩
  · cases hq
-- mfE1: 13 steps, 1 ends, 0 returns
def mfE1_L : List (Nat × Nat × Nat) := []
def mfE1_O : yO := []
def mfE1_A : yA := (yZ mfE1_L, [], [], [], [])
def mfE1_C : List xB := []
def mfE1_ss : List yS := [(29, [(4, .int 0), (3, .int 9), (0, .index 338), (1, .arg 1), (2, .int 1)], [], [(338, .int 15, .int 0)], [], [(338, .int 15)])]
def mfE1_rs : List yR := []
theorem mfE1_w : ywa mfE1_A mfE1_ss mfE1_rs = true := by decide +kernel
theorem mfE1_k : yis (yev mfE1_A 3000 60 196 [29] (0, [(0, .index 338), (1, .arg 1), (2, .int 1)], [], mfE1_O, mfE1_C, [])) mfE1_ss mfE1_rs = true := by decide +kernel
def mfE1_r (v1_ : Int32) (k_ : Nat) : Value := bif Nat.beq k_ 1 then .int v1_ else (.int 0)
def mfE1_s (n_ : Nat) : Nat := 0
theorem mfE1 {h_ : xH} {v1_ : Int32} (hs : sHp h_) : ∃ h', ysm h_ h' ∧ (((bpat h' 338 15 = some (.int (0 : Int32))) ∧ (∀ a_ j_ : Nat, ¬ (a_ = 338 ∧ j_ = 15) → bpat h' a_ j_ = bpat h_ a_ j_) ∧ (bldD 60 196 0 [(0, .index 338), (1, .int v1_), (2, .int (1 : Int32))] [] h_ 29 [(4, .int (0 : Int32)), (3, .int (9 : Int32)), (0, .index 338), (1, .int v1_), (2, .int (1 : Int32))] [] h'))) := by
  have hA : yas mfE1_A (mfE1_r v1_) (yg mfE1_s) := ⟨fun q_ hq => absurd hq List.not_mem_nil, fun q_ hq => absurd hq List.not_mem_nil, fun q_ hq => absurd hq List.not_mem_nil, fun n_ hn => yg_lo hn, fun q_ hq => absurd hq List.not_mem_nil⟩
  have Hs : ysh mfE1_A.1 (yg mfE1_s) h_ := ysh_of2 hs (fun q_ hq => absurd hq List.not_mem_nil)
  have Ho : ymem (mfE1_r v1_) (yg mfE1_s) mfE1_O h_ := fun q_ hq => absurd hq List.not_mem_nil
  have HC : ∀ q_ ∈ mfE1_C, xhold (mfE1_r v1_) q_ := fun q_ hq => absurd hq List.not_mem_nil
  rcases yrun (yis_ok mfE1_k) hA Hs Ho HC with ⟨q_, hq, h', K_, G_⟩ | ⟨q_, hq, h', K_, G_⟩
  · have e_ := List.mem_singleton.mp hq
    subst e_
    exact ⟨h', yfr_sm K_.2.2.2 hs K_.1 (ywa_s mfE1_w List.mem_cons_self), ⟨bpat_of (K_.2.1 _ List.mem_cons_self), fun a_ j_ n0_ => yfr_bp K_.2.2.2 (List.forall_mem_cons.mpr ⟨fun e_ => n0_ ⟨e_.1.symm, e_.2.symm⟩, fun q_ hq => absurd hq List.not_mem_nil⟩), G_⟩⟩
  · cases hq
-- mfE2: 12 steps, 1 ends, 0 returns
def mfE2_L : List (Nat × Nat × Nat) := []
def mfE2_O : yO := []
def mfE2_A : yA := (yZ mfE2_L, [], [], [], [])
def mfE2_C : List xB := []
def mfE2_ss : List yS := [(29, [(4, .int 0), (3, .int 99), (0, .index 338), (1, .arg 1), (2, .int 2)], [], [(338, .int 15, .int 0)], [], [(338, .int 15)])]
def mfE2_rs : List yR := []
theorem mfE2_w : ywa mfE2_A mfE2_ss mfE2_rs = true := by decide +kernel
theorem mfE2_k : yis (yev mfE2_A 3000 60 196 [29] (0, [(0, .index 338), (1, .arg 1), (2, .int 2)], [], mfE2_O, mfE2_C, [])) mfE2_ss mfE2_rs = true := by decide +kernel
def mfE2_r (v1_ : Int32) (k_ : Nat) : Value := bif Nat.beq k_ 1 then .int v1_ else (.int 0)
def mfE2_s (n_ : Nat) : Nat := 0
theorem mfE2 {h_ : xH} {v1_ : Int32} (hs : sHp h_) : ∃ h', ysm h_ h' ∧ (((bpat h' 338 15 = some (.int (0 : Int32))) ∧ (∀ a_ j_ : Nat, ¬ (a_ = 338 ∧ j_ = 15) → bpat h' a_ j_ = bpat h_ a_ j_) ∧ (bldD 60 196 0 [(0, .index 338), (1, .int v1_), (2, .int (2 : Int32))] [] h_ 29 [(4, .int (0 : Int32)), (3, .int (99 : Int32)), (0, .index 338), (1, .int v1_), (2, .int (2 : Int32))] [] h'))) := by
  have hA : yas mfE2_A (mfE2_r v1_) (yg mfE2_s) := ⟨fun q_ hq => absurd hq List.not_mem_nil, fun q_ hq => absurd hq List.not_mem_nil, fun q_ hq => absurd hq List.not_mem_nil, fun n_ hn => yg_lo hn, fun q_ hq => absurd hq List.not_mem_nil⟩
  have Hs : ysh mfE2_A.1 (yg mfE2_s) h_ := ysh_of2 hs (fun q_ hq => absurd hq List.not_mem_nil)
  have Ho : ymem (mfE2_r v1_) (yg mfE2_s) mfE2_O h_ := fun q_ hq => absurd hq List.not_mem_nil
  have HC : ∀ q_ ∈ mfE2_C, xhold (mfE2_r v1_) q_ := fun q_ hq => absurd hq List.not_mem_nil
  rcases yrun (yis_ok mfE2_k) hA Hs Ho HC with ⟨q_, hq, h', K_, G_⟩ | ⟨q_, hq, h', K_, G_⟩
  · have e_ := List.mem_singleton.mp hq
    subst e_
    exact ⟨h', yfr_sm K_.2.2.2 hs K_.1 (ywa_s mfE2_w List.mem_cons_self), ⟨bpat_of (K_.2.1 _ List.mem_cons_self), fun a_ j_ n0_ => yfr_bp K_.2.2.2 (List.forall_mem_cons.mpr ⟨fun e_ => n0_ ⟨e_.1.symm, e_.2.symm⟩, fun q_ hq => absurd hq List.not_mem_nil⟩), G_⟩⟩
  · cases hq
-- mfoXA: 4 steps, 0 ends, 1 returns
def mfoXA_L : List (Nat × Nat × Nat) := []
def mfoXA_O : yO := []
def mfoXA_A : yA := (yZ mfoXA_L, [], [], [], [])
def mfoXA_C : List xB := [(.le, .arg 4, .arg 3, false)]
def mfoXA_ss : List yS := []
def mfoXA_rs : List yR := [(none, [], [(.le, .arg 4, .arg 3, false)], [])]
theorem mfoXA_w : ywa mfoXA_A mfoXA_ss mfoXA_rs = true := by decide +kernel
theorem mfoXA_k : yis (yev mfoXA_A 3000 60 196 [] (29, [(4, .arg 4), (3, .arg 3), (0, .index 338), (1, .arg 1), (2, .arg 2)], [], mfoXA_O, mfoXA_C, [])) mfoXA_ss mfoXA_rs = true := by decide +kernel
def mfoXA_r (v1_ v2 v3 v4_ : Int32) (k_ : Nat) : Value := bif Nat.beq k_ 1 then .int v1_ else (bif Nat.beq k_ 2 then .int v2 else (bif Nat.beq k_ 3 then .int v3 else (bif Nat.beq k_ 4 then .int v4_ else (.int 0))))
def mfoXA_s (n_ : Nat) : Nat := 0
theorem mfoXA {h_ : xH} {v1_ v2 v3 v4_ : Int32} (hs : sHp h_) (c0_ : v3.toInt < v4_.toInt) : ∃ h', ysm h_ h' ∧ (((∀ a_ j_ : Nat, bpat h' a_ j_ = bpat h_ a_ j_) ∧ (∀ D_, 60 ≤ D_ → xrun D_ 196 29 [(4, .int v4_), (3, .int v3), (0, .index 338), (1, .int v1_), (2, .int v2)] [] h_ (none, h', [])))) := by
  have hA : yas mfoXA_A (mfoXA_r v1_ v2 v3 v4_) (yg mfoXA_s) := ⟨fun q_ hq => absurd hq List.not_mem_nil, fun q_ hq => absurd hq List.not_mem_nil, fun q_ hq => absurd hq List.not_mem_nil, fun n_ hn => yg_lo hn, fun q_ hq => absurd hq List.not_mem_nil⟩
  have Hs : ysh mfoXA_A.1 (yg mfoXA_s) h_ := ysh_of2 hs (fun q_ hq => absurd hq List.not_mem_nil)
  have Ho : ymem (mfoXA_r v1_ v2 v3 v4_) (yg mfoXA_s) mfoXA_O h_ := fun q_ hq => absurd hq List.not_mem_nil
  have HC : ∀ q_ ∈ mfoXA_C, xhold (mfoXA_r v1_ v2 v3 v4_) q_ := List.forall_mem_cons.mpr ⟨xh_leF c0_, fun q_ hq => absurd hq List.not_mem_nil⟩
  rcases yrun (yis_ok mfoXA_k) hA Hs Ho HC with ⟨q_, hq, h', K_, G_⟩ | ⟨q_, hq, h', K_, G_⟩
  · cases hq
  · have e_ := List.mem_singleton.mp hq
    subst e_
    exact ⟨h', yfr_sm K_.2.2.2 hs K_.1 (ywa_r mfoXA_w List.mem_cons_self), ⟨fun a_ j_ => yfr_bp K_.2.2.2 (fun q_ hq => absurd hq List.not_mem_nil), G_⟩⟩
-- mfoWA: 5 steps, 1 ends, 0 returns
def mfoWA_L : List (Nat × Nat × Nat) := []
def mfoWA_O : yO := []
def mfoWA_A : yA := (yZ mfoWA_L, [], [], [], [])
def mfoWA_C : List xB := [(.le, .arg 4, .arg 3, true)]
def mfoWA_ss : List yS := [(38, [(4, .arg 4), (3, .arg 3), (0, .index 338), (1, .arg 1), (2, .arg 2)], [.arg 4, .index 338], [], [(.le, .arg 4, .arg 3, true)], [])]
def mfoWA_rs : List yR := []
theorem mfoWA_w : ywa mfoWA_A mfoWA_ss mfoWA_rs = true := by decide +kernel
theorem mfoWA_k : yis (yev mfoWA_A 3000 60 196 [38] (29, [(4, .arg 4), (3, .arg 3), (0, .index 338), (1, .arg 1), (2, .arg 2)], [], mfoWA_O, mfoWA_C, [])) mfoWA_ss mfoWA_rs = true := by decide +kernel
def mfoWA_r (v1_ v2 v3 v4_ : Int32) (k_ : Nat) : Value := bif Nat.beq k_ 1 then .int v1_ else (bif Nat.beq k_ 2 then .int v2 else (bif Nat.beq k_ 3 then .int v3 else (bif Nat.beq k_ 4 then .int v4_ else (.int 0))))
def mfoWA_s (n_ : Nat) : Nat := 0
theorem mfoWA {h_ : xH} {v1_ v2 v3 v4_ : Int32} (hs : sHp h_) (c0_ : v4_.toInt ≤ v3.toInt) : ∃ h', ysm h_ h' ∧ (((∀ a_ j_ : Nat, bpat h' a_ j_ = bpat h_ a_ j_) ∧ (bldD 60 196 29 [(4, .int v4_), (3, .int v3), (0, .index 338), (1, .int v1_), (2, .int v2)] [] h_ 38 [(4, .int v4_), (3, .int v3), (0, .index 338), (1, .int v1_), (2, .int v2)] [.int v4_, .index 338] h'))) := by
  have hA : yas mfoWA_A (mfoWA_r v1_ v2 v3 v4_) (yg mfoWA_s) := ⟨fun q_ hq => absurd hq List.not_mem_nil, fun q_ hq => absurd hq List.not_mem_nil, fun q_ hq => absurd hq List.not_mem_nil, fun n_ hn => yg_lo hn, fun q_ hq => absurd hq List.not_mem_nil⟩
  have Hs : ysh mfoWA_A.1 (yg mfoWA_s) h_ := ysh_of2 hs (fun q_ hq => absurd hq List.not_mem_nil)
  have Ho : ymem (mfoWA_r v1_ v2 v3 v4_) (yg mfoWA_s) mfoWA_O h_ := fun q_ hq => absurd hq List.not_mem_nil
  have HC : ∀ q_ ∈ mfoWA_C, xhold (mfoWA_r v1_ v2 v3 v4_) q_ := List.forall_mem_cons.mpr ⟨xh_leT c0_, fun q_ hq => absurd hq List.not_mem_nil⟩
  rcases yrun (yis_ok mfoWA_k) hA Hs Ho HC with ⟨q_, hq, h', K_, G_⟩ | ⟨q_, hq, h', K_, G_⟩
  · have e_ := List.mem_singleton.mp hq
    subst e_
    exact ⟨h', yfr_sm K_.2.2.2 hs K_.1 (ywa_s mfoWA_w List.mem_cons_self), ⟨fun a_ j_ => yfr_bp K_.2.2.2 (fun q_ hq => absurd hq List.not_mem_nil), G_⟩⟩
  · cases hq
-- mfoNA: 3 steps, 1 ends, 0 returns
def mfoNA_L : List (Nat × Nat × Nat) := []
def mfoNA_O : yO := []
def mfoNA_A : yA := (yZ mfoNA_L, [], [], [], [])
def mfoNA_C : List xB := []
def mfoNA_ss : List yS := [(29, [(4, .add (.arg 4) (.int 1)), (3, .arg 3), (0, .index 338), (1, .arg 1), (2, .arg 2)], [], [], [], [])]
def mfoNA_rs : List yR := []
theorem mfoNA_w : ywa mfoNA_A mfoNA_ss mfoNA_rs = true := by decide +kernel
theorem mfoNA_k : yis (yev mfoNA_A 3000 60 196 [29] (41, [(4, .arg 4), (3, .arg 3), (0, .index 338), (1, .arg 1), (2, .arg 2)], [.int 0], mfoNA_O, mfoNA_C, [])) mfoNA_ss mfoNA_rs = true := by decide +kernel
def mfoNA_r (v1_ v2 v3 v4_ : Int32) (k_ : Nat) : Value := bif Nat.beq k_ 1 then .int v1_ else (bif Nat.beq k_ 2 then .int v2 else (bif Nat.beq k_ 3 then .int v3 else (bif Nat.beq k_ 4 then .int v4_ else (.int 0))))
def mfoNA_s (n_ : Nat) : Nat := 0
theorem mfoNA {h_ : xH} {v1_ v2 v3 v4_ : Int32} (hs : sHp h_) : ∃ h', ysm h_ h' ∧ (((∀ a_ j_ : Nat, bpat h' a_ j_ = bpat h_ a_ j_) ∧ (bldD 60 196 41 [(4, .int v4_), (3, .int v3), (0, .index 338), (1, .int v1_), (2, .int v2)] [.int (0 : Int32)] h_ 29 [(4, .int (v4_ + (1 : Int32))), (3, .int v3), (0, .index 338), (1, .int v1_), (2, .int v2)] [] h'))) := by
  have hA : yas mfoNA_A (mfoNA_r v1_ v2 v3 v4_) (yg mfoNA_s) := ⟨fun q_ hq => absurd hq List.not_mem_nil, fun q_ hq => absurd hq List.not_mem_nil, fun q_ hq => absurd hq List.not_mem_nil, fun n_ hn => yg_lo hn, fun q_ hq => absurd hq List.not_mem_nil⟩
  have Hs : ysh mfoNA_A.1 (yg mfoNA_s) h_ := ysh_of2 hs (fun q_ hq => absurd hq List.not_mem_nil)
  have Ho : ymem (mfoNA_r v1_ v2 v3 v4_) (yg mfoNA_s) mfoNA_O h_ := fun q_ hq => absurd hq List.not_mem_nil
  have HC : ∀ q_ ∈ mfoNA_C, xhold (mfoNA_r v1_ v2 v3 v4_) q_ := fun q_ hq => absurd hq List.not_mem_nil
  rcases yrun (yis_ok mfoNA_k) hA Hs Ho HC with ⟨q_, hq, h', K_, G_⟩ | ⟨q_, hq, h', K_, G_⟩
  · have e_ := List.mem_singleton.mp hq
    subst e_
    exact ⟨h', yfr_sm K_.2.2.2 hs K_.1 (ywa_s mfoNA_w List.mem_cons_self), ⟨fun a_ j_ => yfr_bp K_.2.2.2 (fun q_ hq => absurd hq List.not_mem_nil), G_⟩⟩
  · cases hq
-- mfoUA: 3 steps, 1 ends, 0 returns
def mfoUA_L : List (Nat × Nat × Nat) := []
def mfoUA_O : yO := []
def mfoUA_A : yA := (yZ mfoUA_L, [], [], [], [])
def mfoUA_C : List xB := []
def mfoUA_ss : List yS := [(47, [(4, .arg 4), (3, .arg 3), (0, .index 338), (1, .arg 1), (2, .arg 2)], [.arg 4, .index 338], [], [], [])]
def mfoUA_rs : List yR := []
theorem mfoUA_w : ywa mfoUA_A mfoUA_ss mfoUA_rs = true := by decide +kernel
theorem mfoUA_k : yis (yev mfoUA_A 3000 60 196 [47] (41, [(4, .arg 4), (3, .arg 3), (0, .index 338), (1, .arg 1), (2, .arg 2)], [.int 1], mfoUA_O, mfoUA_C, [])) mfoUA_ss mfoUA_rs = true := by decide +kernel
def mfoUA_r (v1_ v2 v3 v4_ : Int32) (k_ : Nat) : Value := bif Nat.beq k_ 1 then .int v1_ else (bif Nat.beq k_ 2 then .int v2 else (bif Nat.beq k_ 3 then .int v3 else (bif Nat.beq k_ 4 then .int v4_ else (.int 0))))
def mfoUA_s (n_ : Nat) : Nat := 0
theorem mfoUA {h_ : xH} {v1_ v2 v3 v4_ : Int32} (hs : sHp h_) : ∃ h', ysm h_ h' ∧ (((∀ a_ j_ : Nat, bpat h' a_ j_ = bpat h_ a_ j_) ∧ (bldD 60 196 41 [(4, .int v4_), (3, .int v3), (0, .index 338), (1, .int v1_), (2, .int v2)] [.int (1 : Int32)] h_ 47 [(4, .int v4_), (3, .int v3), (0, .index 338), (1, .int v1_), (2, .int v2)] [.int v4_, .index 338] h'))) := by
  have hA : yas mfoUA_A (mfoUA_r v1_ v2 v3 v4_) (yg mfoUA_s) := ⟨fun q_ hq => absurd hq List.not_mem_nil, fun q_ hq => absurd hq List.not_mem_nil, fun q_ hq => absurd hq List.not_mem_nil, fun n_ hn => yg_lo hn, fun q_ hq => absurd hq List.not_mem_nil⟩
  have Hs : ysh mfoUA_A.1 (yg mfoUA_s) h_ := ysh_of2 hs (fun q_ hq => absurd hq List.not_mem_nil)
  have Ho : ymem (mfoUA_r v1_ v2 v3 v4_) (yg mfoUA_s) mfoUA_O h_ := fun q_ hq => absurd hq List.not_mem_nil
  have HC : ∀ q_ ∈ mfoUA_C, xhold (mfoUA_r v1_ v2 v3 v4_) q_ := fun q_ hq => absurd hq List.not_mem_nil
  rcases yrun (yis_ok mfoUA_k) hA Hs Ho HC with ⟨q_, hq, h', K_, G_⟩ | ⟨q_, hq, h', K_, G_⟩
  · have e_ := List.mem_singleton.mp hq
    subst e_
    exact ⟨h', yfr_sm K_.2.2.2 hs K_.1 (ywa_s mfoUA_w List.mem_cons_self), ⟨fun a_ j_ => yfr_bp K_.2.2.2 (fun q_ hq => absurd hq List.not_mem_nil), G_⟩⟩
  · cases hq
-- mfoMA: 3 steps, 1 ends, 0 returns
def mfoMA_L : List (Nat × Nat × Nat) := []
def mfoMA_O : yO := []
def mfoMA_A : yA := (yZ mfoMA_L, [], [], [], [])
def mfoMA_C : List xB := []
def mfoMA_ss : List yS := [(29, [(4, .add (.arg 4) (.int 1)), (3, .arg 3), (0, .index 338), (1, .arg 1), (2, .arg 2)], [], [], [], [])]
def mfoMA_rs : List yR := []
theorem mfoMA_w : ywa mfoMA_A mfoMA_ss mfoMA_rs = true := by decide +kernel
theorem mfoMA_k : yis (yev mfoMA_A 3000 60 196 [29] (50, [(4, .arg 4), (3, .arg 3), (0, .index 338), (1, .arg 1), (2, .arg 2)], [.int 0], mfoMA_O, mfoMA_C, [])) mfoMA_ss mfoMA_rs = true := by decide +kernel
def mfoMA_r (v1_ v2 v3 v4_ : Int32) (k_ : Nat) : Value := bif Nat.beq k_ 1 then .int v1_ else (bif Nat.beq k_ 2 then .int v2 else (bif Nat.beq k_ 3 then .int v3 else (bif Nat.beq k_ 4 then .int v4_ else (.int 0))))
def mfoMA_s (n_ : Nat) : Nat := 0
theorem mfoMA {h_ : xH} {v1_ v2 v3 v4_ : Int32} (hs : sHp h_) : ∃ h', ysm h_ h' ∧ (((∀ a_ j_ : Nat, bpat h' a_ j_ = bpat h_ a_ j_) ∧ (bldD 60 196 50 [(4, .int v4_), (3, .int v3), (0, .index 338), (1, .int v1_), (2, .int v2)] [.int (0 : Int32)] h_ 29 [(4, .int (v4_ + (1 : Int32))), (3, .int v3), (0, .index 338), (1, .int v1_), (2, .int v2)] [] h'))) := by
  have hA : yas mfoMA_A (mfoMA_r v1_ v2 v3 v4_) (yg mfoMA_s) := ⟨fun q_ hq => absurd hq List.not_mem_nil, fun q_ hq => absurd hq List.not_mem_nil, fun q_ hq => absurd hq List.not_mem_nil, fun n_ hn => yg_lo hn, fun q_ hq => absurd hq List.not_mem_nil⟩
  have Hs : ysh mfoMA_A.1 (yg mfoMA_s) h_ := ysh_of2 hs (fun q_ hq => absurd hq List.not_mem_nil)
  have Ho : ymem (mfoMA_r v1_ v2 v3 v4_) (yg mfoMA_s) mfoMA_O h_ := fun q_ hq => absurd hq List.not_mem_nil
  have HC : ∀ q_ ∈ mfoMA_C, xhold (mfoMA_r v1_ v2 v3 v4_) q_ := fun q_ hq => absurd hq List.not_mem_nil
  rcases yrun (yis_ok mfoMA_k) hA Hs Ho HC with ⟨q_, hq, h', K_, G_⟩ | ⟨q_, hq, h', K_, G_⟩
  · have e_ := List.mem_singleton.mp hq
    subst e_
    exact ⟨h', yfr_sm K_.2.2.2 hs K_.1 (ywa_s mfoMA_w List.mem_cons_self), ⟨fun a_ j_ => yfr_bp K_.2.2.2 (fun q_ hq => absurd hq List.not_mem_nil), G_⟩⟩
  · cases hq
-- mfoPA: 6 steps, 1 ends, 0 returns
def mfoPA_L : List (Nat × Nat × Nat) := []
def mfoPA_O : yO := [(338, .int 4, .index 342)]
def mfoPA_A : yA := (yZ mfoPA_L, [], [], [], [])
def mfoPA_C : List xB := []
def mfoPA_ss : List yS := [(61, [(4, .arg 4), (3, .arg 3), (0, .index 338), (1, .arg 1), (2, .arg 2)], [.index 342, .arg 4, .arg 1, .index 338], [(338, .int 4, .index 342)], [], [])]
def mfoPA_rs : List yR := []
theorem mfoPA_w : ywa mfoPA_A mfoPA_ss mfoPA_rs = true := by decide +kernel
theorem mfoPA_k : yis (yev mfoPA_A 3000 60 196 [61] (50, [(4, .arg 4), (3, .arg 3), (0, .index 338), (1, .arg 1), (2, .arg 2)], [.int 1], mfoPA_O, mfoPA_C, [])) mfoPA_ss mfoPA_rs = true := by decide +kernel
def mfoPA_r (v1_ v2 v3 v4_ : Int32) (k_ : Nat) : Value := bif Nat.beq k_ 1 then .int v1_ else (bif Nat.beq k_ 2 then .int v2 else (bif Nat.beq k_ 3 then .int v3 else (bif Nat.beq k_ 4 then .int v4_ else (.int 0))))
def mfoPA_s (n_ : Nat) : Nat := 0
theorem mfoPA {h_ : xH} {v1_ v2 v3 v4_ : Int32} (hs : sHp h_) : ∃ h', ysm h_ h' ∧ (((∀ a_ j_ : Nat, bpat h' a_ j_ = bpat h_ a_ j_) ∧ (bldD 60 196 50 [(4, .int v4_), (3, .int v3), (0, .index 338), (1, .int v1_), (2, .int v2)] [.int (1 : Int32)] h_ 61 [(4, .int v4_), (3, .int v3), (0, .index 338), (1, .int v1_), (2, .int v2)] [.index 342, .int v4_, .int v1_, .index 338] h'))) := by
  have hA : yas mfoPA_A (mfoPA_r v1_ v2 v3 v4_) (yg mfoPA_s) := ⟨fun q_ hq => absurd hq List.not_mem_nil, fun q_ hq => absurd hq List.not_mem_nil, fun q_ hq => absurd hq List.not_mem_nil, fun n_ hn => yg_lo hn, fun q_ hq => absurd hq List.not_mem_nil⟩
  have Hs : ysh mfoPA_A.1 (yg mfoPA_s) h_ := ysh_of2 hs (fun q_ hq => absurd hq List.not_mem_nil)
  have Ho : ymem (mfoPA_r v1_ v2 v3 v4_) (yg mfoPA_s) mfoPA_O h_ := List.forall_mem_cons.mpr ⟨bpat_some (fxr_at hs.2 (show fxk fxl 338 4 = some 342 by decide +kernel)), fun q_ hq => absurd hq List.not_mem_nil⟩
  have HC : ∀ q_ ∈ mfoPA_C, xhold (mfoPA_r v1_ v2 v3 v4_) q_ := fun q_ hq => absurd hq List.not_mem_nil
  rcases yrun (yis_ok mfoPA_k) hA Hs Ho HC with ⟨q_, hq, h', K_, G_⟩ | ⟨q_, hq, h', K_, G_⟩
  · have e_ := List.mem_singleton.mp hq
    subst e_
    exact ⟨h', yfr_sm K_.2.2.2 hs K_.1 (ywa_s mfoPA_w List.mem_cons_self), ⟨fun a_ j_ => yfr_bp K_.2.2.2 (fun q_ hq => absurd hq List.not_mem_nil), G_⟩⟩
  · cases hq
-- mfoQA: 4 steps, 1 ends, 0 returns
def mfoQA_L : List (Nat × Nat × Nat) := []
def mfoQA_O : yO := []
def mfoQA_A : yA := (yZ mfoQA_L, [], [], [], [])
def mfoQA_C : List xB := []
def mfoQA_ss : List yS := [(70, [(6, .int 0), (5, .int 1), (4, .arg 4), (3, .arg 3), (0, .index 338), (1, .arg 1), (2, .arg 2)], [], [], [], [])]
def mfoQA_rs : List yR := []
theorem mfoQA_w : ywa mfoQA_A mfoQA_ss mfoQA_rs = true := by decide +kernel
theorem mfoQA_k : yis (yev mfoQA_A 3000 60 196 [70] (64, [(4, .arg 4), (3, .arg 3), (0, .index 338), (1, .arg 1), (2, .arg 2)], [], mfoQA_O, mfoQA_C, [])) mfoQA_ss mfoQA_rs = true := by decide +kernel
def mfoQA_r (v1_ v2 v3 v4_ : Int32) (k_ : Nat) : Value := bif Nat.beq k_ 1 then .int v1_ else (bif Nat.beq k_ 2 then .int v2 else (bif Nat.beq k_ 3 then .int v3 else (bif Nat.beq k_ 4 then .int v4_ else (.int 0))))
def mfoQA_s (n_ : Nat) : Nat := 0
theorem mfoQA {h_ : xH} {v1_ v2 v3 v4_ : Int32} (hs : sHp h_) : ∃ h', ysm h_ h' ∧ (((∀ a_ j_ : Nat, bpat h' a_ j_ = bpat h_ a_ j_) ∧ (bldD 60 196 64 [(4, .int v4_), (3, .int v3), (0, .index 338), (1, .int v1_), (2, .int v2)] [] h_ 70 [(6, .int (0 : Int32)), (5, .int (1 : Int32)), (4, .int v4_), (3, .int v3), (0, .index 338), (1, .int v1_), (2, .int v2)] [] h'))) := by
  have hA : yas mfoQA_A (mfoQA_r v1_ v2 v3 v4_) (yg mfoQA_s) := ⟨fun q_ hq => absurd hq List.not_mem_nil, fun q_ hq => absurd hq List.not_mem_nil, fun q_ hq => absurd hq List.not_mem_nil, fun n_ hn => yg_lo hn, fun q_ hq => absurd hq List.not_mem_nil⟩
  have Hs : ysh mfoQA_A.1 (yg mfoQA_s) h_ := ysh_of2 hs (fun q_ hq => absurd hq List.not_mem_nil)
  have Ho : ymem (mfoQA_r v1_ v2 v3 v4_) (yg mfoQA_s) mfoQA_O h_ := fun q_ hq => absurd hq List.not_mem_nil
  have HC : ∀ q_ ∈ mfoQA_C, xhold (mfoQA_r v1_ v2 v3 v4_) q_ := fun q_ hq => absurd hq List.not_mem_nil
  rcases yrun (yis_ok mfoQA_k) hA Hs Ho HC with ⟨q_, hq, h', K_, G_⟩ | ⟨q_, hq, h', K_, G_⟩
  · have e_ := List.mem_singleton.mp hq
    subst e_
    exact ⟨h', yfr_sm K_.2.2.2 hs K_.1 (ywa_s mfoQA_w List.mem_cons_self), ⟨fun a_ j_ => yfr_bp K_.2.2.2 (fun q_ hq => absurd hq List.not_mem_nil), G_⟩⟩
  · cases hq
-- mfmXA: 6 steps, 1 ends, 0 returns
def mfmXA_L : List (Nat × Nat × Nat) := []
def mfmXA_O : yO := [(338, .int 15, .arg 300)]
def mfmXA_A : yA := (yZ mfmXA_L, [], [], [], [])
def mfmXA_C : List xB := [(.lt, .arg 6, .arg 300, false)]
def mfmXA_ss : List yS := [(163, [(6, .int 0), (5, .arg 5), (4, .arg 4), (3, .arg 3), (0, .index 338), (1, .arg 1), (2, .arg 2)], [], [(338, .int 15, .arg 300)], [(.lt, .arg 6, .arg 300, false)], [])]
def mfmXA_rs : List yR := []
theorem mfmXA_w : ywa mfmXA_A mfmXA_ss mfmXA_rs = true := by decide +kernel
theorem mfmXA_k : yis (yev mfmXA_A 3000 60 196 [163] (70, [(6, .arg 6), (5, .arg 5), (4, .arg 4), (3, .arg 3), (0, .index 338), (1, .arg 1), (2, .arg 2)], [], mfmXA_O, mfmXA_C, [])) mfmXA_ss mfmXA_rs = true := by decide +kernel
def mfmXA_r (v1_ v2 v3 v4_ v5 v6 v300 : Int32) (k_ : Nat) : Value := bif Nat.beq k_ 1 then .int v1_ else (bif Nat.beq k_ 2 then .int v2 else (bif Nat.beq k_ 3 then .int v3 else (bif Nat.beq k_ 4 then .int v4_ else (bif Nat.beq k_ 5 then .int v5 else (bif Nat.beq k_ 6 then .int v6 else (bif Nat.beq k_ 300 then .int v300 else (.int 0)))))))
def mfmXA_s (n_ : Nat) : Nat := 0
theorem mfmXA {h_ : xH} {v1_ v2 v3 v4_ v5 v6 v300 : Int32} (hs : sHp h_) (o0_ : bpat h_ 338 15 = some (.int v300)) (c0_ : v300.toInt ≤ v6.toInt) : ∃ h', ysm h_ h' ∧ (((∀ a_ j_ : Nat, bpat h' a_ j_ = bpat h_ a_ j_) ∧ (bldD 60 196 70 [(6, .int v6), (5, .int v5), (4, .int v4_), (3, .int v3), (0, .index 338), (1, .int v1_), (2, .int v2)] [] h_ 163 [(6, .int (0 : Int32)), (5, .int v5), (4, .int v4_), (3, .int v3), (0, .index 338), (1, .int v1_), (2, .int v2)] [] h'))) := by
  have hA : yas mfmXA_A (mfmXA_r v1_ v2 v3 v4_ v5 v6 v300) (yg mfmXA_s) := ⟨fun q_ hq => absurd hq List.not_mem_nil, fun q_ hq => absurd hq List.not_mem_nil, fun q_ hq => absurd hq List.not_mem_nil, fun n_ hn => yg_lo hn, fun q_ hq => absurd hq List.not_mem_nil⟩
  have Hs : ysh mfmXA_A.1 (yg mfmXA_s) h_ := ysh_of2 hs (fun q_ hq => absurd hq List.not_mem_nil)
  have Ho : ymem (mfmXA_r v1_ v2 v3 v4_ v5 v6 v300) (yg mfmXA_s) mfmXA_O h_ := List.forall_mem_cons.mpr ⟨bpat_some o0_, fun q_ hq => absurd hq List.not_mem_nil⟩
  have HC : ∀ q_ ∈ mfmXA_C, xhold (mfmXA_r v1_ v2 v3 v4_ v5 v6 v300) q_ := List.forall_mem_cons.mpr ⟨xh_ltF c0_, fun q_ hq => absurd hq List.not_mem_nil⟩
  rcases yrun (yis_ok mfmXA_k) hA Hs Ho HC with ⟨q_, hq, h', K_, G_⟩ | ⟨q_, hq, h', K_, G_⟩
  · have e_ := List.mem_singleton.mp hq
    subst e_
    exact ⟨h', yfr_sm K_.2.2.2 hs K_.1 (ywa_s mfmXA_w List.mem_cons_self), ⟨fun a_ j_ => yfr_bp K_.2.2.2 (fun q_ hq => absurd hq List.not_mem_nil), G_⟩⟩
  · cases hq
-- mfmZA: 8 steps, 1 ends, 0 returns
def mfmZA_L : List (Nat × Nat × Nat) := []
def mfmZA_O : yO := [(338, .int 15, .arg 300)]
def mfmZA_A : yA := (yZ mfmZA_L, [], [], [], [])
def mfmZA_C : List xB := [(.lt, .arg 6, .arg 300, true)]
def mfmZA_ss : List yS := [(163, [(6, .int 0), (5, .int 0), (4, .arg 4), (3, .arg 3), (0, .index 338), (1, .arg 1), (2, .arg 2)], [], [(338, .int 15, .arg 300)], [(.lt, .arg 6, .arg 300, true)], [])]
def mfmZA_rs : List yR := []
theorem mfmZA_w : ywa mfmZA_A mfmZA_ss mfmZA_rs = true := by decide +kernel
theorem mfmZA_k : yis (yev mfmZA_A 3000 60 196 [163] (70, [(6, .arg 6), (5, .int 0), (4, .arg 4), (3, .arg 3), (0, .index 338), (1, .arg 1), (2, .arg 2)], [], mfmZA_O, mfmZA_C, [])) mfmZA_ss mfmZA_rs = true := by decide +kernel
def mfmZA_r (v1_ v2 v3 v4_ v6 v300 : Int32) (k_ : Nat) : Value := bif Nat.beq k_ 1 then .int v1_ else (bif Nat.beq k_ 2 then .int v2 else (bif Nat.beq k_ 3 then .int v3 else (bif Nat.beq k_ 4 then .int v4_ else (bif Nat.beq k_ 6 then .int v6 else (bif Nat.beq k_ 300 then .int v300 else (.int 0))))))
def mfmZA_s (n_ : Nat) : Nat := 0
theorem mfmZA {h_ : xH} {v1_ v2 v3 v4_ v6 v300 : Int32} (hs : sHp h_) (o0_ : bpat h_ 338 15 = some (.int v300)) (c0_ : v6.toInt < v300.toInt) : ∃ h', ysm h_ h' ∧ (((∀ a_ j_ : Nat, bpat h' a_ j_ = bpat h_ a_ j_) ∧ (bldD 60 196 70 [(6, .int v6), (5, .int (0 : Int32)), (4, .int v4_), (3, .int v3), (0, .index 338), (1, .int v1_), (2, .int v2)] [] h_ 163 [(6, .int (0 : Int32)), (5, .int (0 : Int32)), (4, .int v4_), (3, .int v3), (0, .index 338), (1, .int v1_), (2, .int v2)] [] h'))) := by
  have hA : yas mfmZA_A (mfmZA_r v1_ v2 v3 v4_ v6 v300) (yg mfmZA_s) := ⟨fun q_ hq => absurd hq List.not_mem_nil, fun q_ hq => absurd hq List.not_mem_nil, fun q_ hq => absurd hq List.not_mem_nil, fun n_ hn => yg_lo hn, fun q_ hq => absurd hq List.not_mem_nil⟩
  have Hs : ysh mfmZA_A.1 (yg mfmZA_s) h_ := ysh_of2 hs (fun q_ hq => absurd hq List.not_mem_nil)
  have Ho : ymem (mfmZA_r v1_ v2 v3 v4_ v6 v300) (yg mfmZA_s) mfmZA_O h_ := List.forall_mem_cons.mpr ⟨bpat_some o0_, fun q_ hq => absurd hq List.not_mem_nil⟩
  have HC : ∀ q_ ∈ mfmZA_C, xhold (mfmZA_r v1_ v2 v3 v4_ v6 v300) q_ := List.forall_mem_cons.mpr ⟨xh_ltT c0_, fun q_ hq => absurd hq List.not_mem_nil⟩
  rcases yrun (yis_ok mfmZA_k) hA Hs Ho HC with ⟨q_, hq, h', K_, G_⟩ | ⟨q_, hq, h', K_, G_⟩
  · have e_ := List.mem_singleton.mp hq
    subst e_
    exact ⟨h', yfr_sm K_.2.2.2 hs K_.1 (ywa_s mfmZA_w List.mem_cons_self), ⟨fun a_ j_ => yfr_bp K_.2.2.2 (fun q_ hq => absurd hq List.not_mem_nil), G_⟩⟩
  · cases hq
-- mfmTA: 10 steps, 1 ends, 0 returns
def mfmTA_L : List (Nat × Nat × Nat) := []
def mfmTA_O : yO := [(338, .int 15, .arg 300)]
def mfmTA_A : yA := (yZ mfmTA_L, [], [], [], [])
def mfmTA_C : List xB := [(.lt, .arg 6, .arg 300, true)]
def mfmTA_ss : List yS := [(90, [(8, .int 0), (7, .int 1), (6, .arg 6), (5, .int 1), (4, .arg 4), (3, .arg 3), (0, .index 338), (1, .arg 1), (2, .arg 2)], [], [(338, .int 15, .arg 300)], [(.lt, .arg 6, .arg 300, true)], [])]
def mfmTA_rs : List yR := []
theorem mfmTA_w : ywa mfmTA_A mfmTA_ss mfmTA_rs = true := by decide +kernel
theorem mfmTA_k : yis (yev mfmTA_A 3000 60 196 [90] (70, [(6, .arg 6), (5, .int 1), (4, .arg 4), (3, .arg 3), (0, .index 338), (1, .arg 1), (2, .arg 2)], [], mfmTA_O, mfmTA_C, [])) mfmTA_ss mfmTA_rs = true := by decide +kernel
def mfmTA_r (v1_ v2 v3 v4_ v6 v300 : Int32) (k_ : Nat) : Value := bif Nat.beq k_ 1 then .int v1_ else (bif Nat.beq k_ 2 then .int v2 else (bif Nat.beq k_ 3 then .int v3 else (bif Nat.beq k_ 4 then .int v4_ else (bif Nat.beq k_ 6 then .int v6 else (bif Nat.beq k_ 300 then .int v300 else (.int 0))))))
def mfmTA_s (n_ : Nat) : Nat := 0
theorem mfmTA {h_ : xH} {v1_ v2 v3 v4_ v6 v300 : Int32} (hs : sHp h_) (o0_ : bpat h_ 338 15 = some (.int v300)) (c0_ : v6.toInt < v300.toInt) : ∃ h', ysm h_ h' ∧ (((∀ a_ j_ : Nat, bpat h' a_ j_ = bpat h_ a_ j_) ∧ (bldD 60 196 70 [(6, .int v6), (5, .int (1 : Int32)), (4, .int v4_), (3, .int v3), (0, .index 338), (1, .int v1_), (2, .int v2)] [] h_ 90 [(8, .int (0 : Int32)), (7, .int (1 : Int32)), (6, .int v6), (5, .int (1 : Int32)), (4, .int v4_), (3, .int v3), (0, .index 338), (1, .int v1_), (2, .int v2)] [] h'))) := by
  have hA : yas mfmTA_A (mfmTA_r v1_ v2 v3 v4_ v6 v300) (yg mfmTA_s) := ⟨fun q_ hq => absurd hq List.not_mem_nil, fun q_ hq => absurd hq List.not_mem_nil, fun q_ hq => absurd hq List.not_mem_nil, fun n_ hn => yg_lo hn, fun q_ hq => absurd hq List.not_mem_nil⟩
  have Hs : ysh mfmTA_A.1 (yg mfmTA_s) h_ := ysh_of2 hs (fun q_ hq => absurd hq List.not_mem_nil)
  have Ho : ymem (mfmTA_r v1_ v2 v3 v4_ v6 v300) (yg mfmTA_s) mfmTA_O h_ := List.forall_mem_cons.mpr ⟨bpat_some o0_, fun q_ hq => absurd hq List.not_mem_nil⟩
  have HC : ∀ q_ ∈ mfmTA_C, xhold (mfmTA_r v1_ v2 v3 v4_ v6 v300) q_ := List.forall_mem_cons.mpr ⟨xh_ltT c0_, fun q_ hq => absurd hq List.not_mem_nil⟩
  rcases yrun (yis_ok mfmTA_k) hA Hs Ho HC with ⟨q_, hq, h', K_, G_⟩ | ⟨q_, hq, h', K_, G_⟩
  · have e_ := List.mem_singleton.mp hq
    subst e_
    exact ⟨h', yfr_sm K_.2.2.2 hs K_.1 (ywa_s mfmTA_w List.mem_cons_self), ⟨fun a_ j_ => yfr_bp K_.2.2.2 (fun q_ hq => absurd hq List.not_mem_nil), G_⟩⟩
  · cases hq
-- mfcTA: 20 steps, 1 ends, 0 returns
def mfcTA_L : List (Nat × Nat × Nat) := []
def mfcTA_O : yO := [(338, .int 14, .index 348), (338, .int 15, .arg 300), (338, .int 4, .index 342), (342, .arg 6, .arg 301)]
def mfcTA_A : yA := (yZ mfcTA_L, [(.add (.mul (.int 13) (.arg 300)) (.arg 6), 1040), (.arg 6, 13)], [], [], [])
def mfcTA_C : List xB := [(.lt, .arg 6, .int 13, true)]
def mfcTA_ss : List yS := [(163, [(6, .add (.arg 6) (.int 1)), (5, .int 1), (4, .arg 4), (3, .arg 3), (0, .index 338), (1, .arg 1), (2, .arg 2)], [], [(348, .add (.mul (.int 13) (.arg 300)) (.arg 6), .arg 301), (338, .int 14, .index 348), (338, .int 15, .arg 300), (338, .int 4, .index 342), (342, .arg 6, .arg 301)], [(.lt, .arg 6, .int 13, true)], [(348, .add (.mul (.int 13) (.arg 300)) (.arg 6))])]
def mfcTA_rs : List yR := []
theorem mfcTA_w : ywa mfcTA_A mfcTA_ss mfcTA_rs = true := by decide +kernel
theorem mfcTA_k : yis (yev mfcTA_A 3000 60 196 [163] (163, [(6, .arg 6), (5, .int 1), (4, .arg 4), (3, .arg 3), (0, .index 338), (1, .arg 1), (2, .arg 2)], [], mfcTA_O, mfcTA_C, [])) mfcTA_ss mfcTA_rs = true := by decide +kernel
def mfcTA_r (v1_ v2 v3 v4_ v6 v300 v301 : Int32) (k_ : Nat) : Value := bif Nat.beq k_ 1 then .int v1_ else (bif Nat.beq k_ 2 then .int v2 else (bif Nat.beq k_ 3 then .int v3 else (bif Nat.beq k_ 4 then .int v4_ else (bif Nat.beq k_ 6 then .int v6 else (bif Nat.beq k_ 300 then .int v300 else (bif Nat.beq k_ 301 then .int v301 else (.int 0)))))))
def mfcTA_s (n_ : Nat) : Nat := 0
theorem mfcTA {h_ : xH} {v1_ v2 v3 v4_ v6 v300 v301 : Int32} (hs : sHp h_) (o0_ : bpat h_ 338 15 = some (.int v300)) (o1 : bpat h_ 342 (v6).toInt.toNat = some (.int v301)) (b0 : 0 ≤ ((((13 : Int32) * v300) + v6)).toInt ∧ ((((13 : Int32) * v300) + v6)).toInt < 1040) (b1 : 0 ≤ (v6).toInt ∧ (v6).toInt < 13) (c0_ : v6.toInt < (13 : Int32).toInt) : ∃ h', ysm h_ h' ∧ (((bpat h' 348 ((((13 : Int32) * v300) + v6)).toInt.toNat = some (.int v301)) ∧ (∀ a_ j_ : Nat, ¬ (a_ = 348 ∧ j_ = ((((13 : Int32) * v300) + v6)).toInt.toNat) → bpat h' a_ j_ = bpat h_ a_ j_) ∧ (bldD 60 196 163 [(6, .int v6), (5, .int (1 : Int32)), (4, .int v4_), (3, .int v3), (0, .index 338), (1, .int v1_), (2, .int v2)] [] h_ 163 [(6, .int (v6 + (1 : Int32))), (5, .int (1 : Int32)), (4, .int v4_), (3, .int v3), (0, .index 338), (1, .int v1_), (2, .int v2)] [] h'))) := by
  have hA : yas mfcTA_A (mfcTA_r v1_ v2 v3 v4_ v6 v300 v301) (yg mfcTA_s) := ⟨List.forall_mem_cons.mpr ⟨b0, List.forall_mem_cons.mpr ⟨b1, fun q_ hq => absurd hq List.not_mem_nil⟩⟩, fun q_ hq => absurd hq List.not_mem_nil, fun q_ hq => absurd hq List.not_mem_nil, fun n_ hn => yg_lo hn, fun q_ hq => absurd hq List.not_mem_nil⟩
  have Hs : ysh mfcTA_A.1 (yg mfcTA_s) h_ := ysh_of2 hs (fun q_ hq => absurd hq List.not_mem_nil)
  have Ho : ymem (mfcTA_r v1_ v2 v3 v4_ v6 v300 v301) (yg mfcTA_s) mfcTA_O h_ := List.forall_mem_cons.mpr ⟨bpat_some (fxr_at hs.2 (show fxk fxl 338 14 = some 348 by decide +kernel)), List.forall_mem_cons.mpr ⟨bpat_some o0_, List.forall_mem_cons.mpr ⟨bpat_some (fxr_at hs.2 (show fxk fxl 338 4 = some 342 by decide +kernel)), List.forall_mem_cons.mpr ⟨bpat_some o1, fun q_ hq => absurd hq List.not_mem_nil⟩⟩⟩⟩
  have HC : ∀ q_ ∈ mfcTA_C, xhold (mfcTA_r v1_ v2 v3 v4_ v6 v300 v301) q_ := List.forall_mem_cons.mpr ⟨xh_ltT c0_, fun q_ hq => absurd hq List.not_mem_nil⟩
  rcases yrun (yis_ok mfcTA_k) hA Hs Ho HC with ⟨q_, hq, h', K_, G_⟩ | ⟨q_, hq, h', K_, G_⟩
  · have e_ := List.mem_singleton.mp hq
    subst e_
    exact ⟨h', yfr_sm K_.2.2.2 hs K_.1 (ywa_s mfcTA_w List.mem_cons_self), ⟨bpat_of (K_.2.1 _ List.mem_cons_self), fun a_ j_ n0_ => yfr_bp K_.2.2.2 (List.forall_mem_cons.mpr ⟨fun e_ => n0_ ⟨e_.1.symm, e_.2.symm⟩, fun q_ hq => absurd hq List.not_mem_nil⟩), G_⟩⟩
  · cases hq
-- mfcXA: 14 steps, 1 ends, 0 returns
def mfcXA_L : List (Nat × Nat × Nat) := []
def mfcXA_O : yO := [(338, .int 15, .arg 300)]
def mfcXA_A : yA := (yZ mfcXA_L, [], [], [], [])
def mfcXA_C : List xB := [(.lt, .arg 6, .int 13, false)]
def mfcXA_ss : List yS := [(29, [(4, .add (.arg 4) (.int 1)), (6, .arg 6), (5, .int 1), (3, .arg 3), (0, .index 338), (1, .arg 1), (2, .arg 2)], [], [(338, .int 15, .add (.arg 300) (.int 1))], [(.lt, .arg 6, .int 13, false)], [(338, .int 15)])]
def mfcXA_rs : List yR := []
theorem mfcXA_w : ywa mfcXA_A mfcXA_ss mfcXA_rs = true := by decide +kernel
theorem mfcXA_k : yis (yev mfcXA_A 3000 60 196 [29] (163, [(6, .arg 6), (5, .int 1), (4, .arg 4), (3, .arg 3), (0, .index 338), (1, .arg 1), (2, .arg 2)], [], mfcXA_O, mfcXA_C, [])) mfcXA_ss mfcXA_rs = true := by decide +kernel
def mfcXA_r (v1_ v2 v3 v4_ v6 v300 : Int32) (k_ : Nat) : Value := bif Nat.beq k_ 1 then .int v1_ else (bif Nat.beq k_ 2 then .int v2 else (bif Nat.beq k_ 3 then .int v3 else (bif Nat.beq k_ 4 then .int v4_ else (bif Nat.beq k_ 6 then .int v6 else (bif Nat.beq k_ 300 then .int v300 else (.int 0))))))
def mfcXA_s (n_ : Nat) : Nat := 0
theorem mfcXA {h_ : xH} {v1_ v2 v3 v4_ v6 v300 : Int32} (hs : sHp h_) (o0_ : bpat h_ 338 15 = some (.int v300)) (c0_ : (13 : Int32).toInt ≤ v6.toInt) : ∃ h', ysm h_ h' ∧ (((bpat h' 338 15 = some (.int (v300 + (1 : Int32)))) ∧ (∀ a_ j_ : Nat, ¬ (a_ = 338 ∧ j_ = 15) → bpat h' a_ j_ = bpat h_ a_ j_) ∧ (bldD 60 196 163 [(6, .int v6), (5, .int (1 : Int32)), (4, .int v4_), (3, .int v3), (0, .index 338), (1, .int v1_), (2, .int v2)] [] h_ 29 [(4, .int (v4_ + (1 : Int32))), (6, .int v6), (5, .int (1 : Int32)), (3, .int v3), (0, .index 338), (1, .int v1_), (2, .int v2)] [] h'))) := by
  have hA : yas mfcXA_A (mfcXA_r v1_ v2 v3 v4_ v6 v300) (yg mfcXA_s) := ⟨fun q_ hq => absurd hq List.not_mem_nil, fun q_ hq => absurd hq List.not_mem_nil, fun q_ hq => absurd hq List.not_mem_nil, fun n_ hn => yg_lo hn, fun q_ hq => absurd hq List.not_mem_nil⟩
  have Hs : ysh mfcXA_A.1 (yg mfcXA_s) h_ := ysh_of2 hs (fun q_ hq => absurd hq List.not_mem_nil)
  have Ho : ymem (mfcXA_r v1_ v2 v3 v4_ v6 v300) (yg mfcXA_s) mfcXA_O h_ := List.forall_mem_cons.mpr ⟨bpat_some o0_, fun q_ hq => absurd hq List.not_mem_nil⟩
  have HC : ∀ q_ ∈ mfcXA_C, xhold (mfcXA_r v1_ v2 v3 v4_ v6 v300) q_ := List.forall_mem_cons.mpr ⟨xh_ltF c0_, fun q_ hq => absurd hq List.not_mem_nil⟩
  rcases yrun (yis_ok mfcXA_k) hA Hs Ho HC with ⟨q_, hq, h', K_, G_⟩ | ⟨q_, hq, h', K_, G_⟩
  · have e_ := List.mem_singleton.mp hq
    subst e_
    exact ⟨h', yfr_sm K_.2.2.2 hs K_.1 (ywa_s mfcXA_w List.mem_cons_self), ⟨bpat_of (K_.2.1 _ List.mem_cons_self), fun a_ j_ n0_ => yfr_bp K_.2.2.2 (List.forall_mem_cons.mpr ⟨fun e_ => n0_ ⟨e_.1.symm, e_.2.symm⟩, fun q_ hq => absurd hq List.not_mem_nil⟩), G_⟩⟩
  · cases hq
-- mfcZA: 15 steps, 1 ends, 0 returns
def mfcZA_L : List (Nat × Nat × Nat) := []
def mfcZA_O : yO := [(338, .int 15, .arg 300)]
def mfcZA_A : yA := (yZ mfcZA_L, [], [], [], [])
def mfcZA_C : List xB := []
def mfcZA_ss : List yS := [(29, [(4, .add (.arg 4) (.int 1)), (6, .int 0), (5, .int 0), (3, .arg 3), (0, .index 338), (1, .arg 1), (2, .arg 2)], [], [(338, .int 15, .add (.arg 300) (.int 0))], [], [(338, .int 15)])]
def mfcZA_rs : List yR := []
theorem mfcZA_w : ywa mfcZA_A mfcZA_ss mfcZA_rs = true := by decide +kernel
theorem mfcZA_k : yis (yev mfcZA_A 3000 60 196 [29] (163, [(6, .int 0), (5, .int 0), (4, .arg 4), (3, .arg 3), (0, .index 338), (1, .arg 1), (2, .arg 2)], [], mfcZA_O, mfcZA_C, [])) mfcZA_ss mfcZA_rs = true := by decide +kernel
def mfcZA_r (v1_ v2 v3 v4_ v300 : Int32) (k_ : Nat) : Value := bif Nat.beq k_ 1 then .int v1_ else (bif Nat.beq k_ 2 then .int v2 else (bif Nat.beq k_ 3 then .int v3 else (bif Nat.beq k_ 4 then .int v4_ else (bif Nat.beq k_ 300 then .int v300 else (.int 0)))))
def mfcZA_s (n_ : Nat) : Nat := 0
theorem mfcZA {h_ : xH} {v1_ v2 v3 v4_ v300 : Int32} (hs : sHp h_) (o0_ : bpat h_ 338 15 = some (.int v300)) : ∃ h', ysm h_ h' ∧ (((bpat h' 338 15 = some (.int (v300 + (0 : Int32)))) ∧ (∀ a_ j_ : Nat, ¬ (a_ = 338 ∧ j_ = 15) → bpat h' a_ j_ = bpat h_ a_ j_) ∧ (bldD 60 196 163 [(6, .int (0 : Int32)), (5, .int (0 : Int32)), (4, .int v4_), (3, .int v3), (0, .index 338), (1, .int v1_), (2, .int v2)] [] h_ 29 [(4, .int (v4_ + (1 : Int32))), (6, .int (0 : Int32)), (5, .int (0 : Int32)), (3, .int v3), (0, .index 338), (1, .int v1_), (2, .int v2)] [] h'))) := by
  have hA : yas mfcZA_A (mfcZA_r v1_ v2 v3 v4_ v300) (yg mfcZA_s) := ⟨fun q_ hq => absurd hq List.not_mem_nil, fun q_ hq => absurd hq List.not_mem_nil, fun q_ hq => absurd hq List.not_mem_nil, fun n_ hn => yg_lo hn, fun q_ hq => absurd hq List.not_mem_nil⟩
  have Hs : ysh mfcZA_A.1 (yg mfcZA_s) h_ := ysh_of2 hs (fun q_ hq => absurd hq List.not_mem_nil)
  have Ho : ymem (mfcZA_r v1_ v2 v3 v4_ v300) (yg mfcZA_s) mfcZA_O h_ := List.forall_mem_cons.mpr ⟨bpat_some o0_, fun q_ hq => absurd hq List.not_mem_nil⟩
  have HC : ∀ q_ ∈ mfcZA_C, xhold (mfcZA_r v1_ v2 v3 v4_ v300) q_ := fun q_ hq => absurd hq List.not_mem_nil
  rcases yrun (yis_ok mfcZA_k) hA Hs Ho HC with ⟨q_, hq, h', K_, G_⟩ | ⟨q_, hq, h', K_, G_⟩
  · have e_ := List.mem_singleton.mp hq
    subst e_
    exact ⟨h', yfr_sm K_.2.2.2 hs K_.1 (ywa_s mfcZA_w List.mem_cons_self), ⟨bpat_of (K_.2.1 _ List.mem_cons_self), fun a_ j_ n0_ => yfr_bp K_.2.2.2 (List.forall_mem_cons.mpr ⟨fun e_ => n0_ ⟨e_.1.symm, e_.2.symm⟩, fun q_ hq => absurd hq List.not_mem_nil⟩), G_⟩⟩
  · cases hq
-- mfoXB: 4 steps, 0 ends, 1 returns
def mfoXB_L : List (Nat × Nat × Nat) := []
def mfoXB_O : yO := []
def mfoXB_A : yA := (yZ mfoXB_L, [], [], [], [])
def mfoXB_C : List xB := [(.le, .arg 4, .arg 3, false)]
def mfoXB_ss : List yS := []
def mfoXB_rs : List yR := [(none, [], [(.le, .arg 4, .arg 3, false)], [])]
theorem mfoXB_w : ywa mfoXB_A mfoXB_ss mfoXB_rs = true := by decide +kernel
theorem mfoXB_k : yis (yev mfoXB_A 3000 60 196 [] (29, [(4, .arg 4), (6, .arg 6), (5, .arg 5), (3, .arg 3), (0, .index 338), (1, .arg 1), (2, .arg 2)], [], mfoXB_O, mfoXB_C, [])) mfoXB_ss mfoXB_rs = true := by decide +kernel
def mfoXB_r (v1_ v2 v3 v4_ v5 v6 : Int32) (k_ : Nat) : Value := bif Nat.beq k_ 1 then .int v1_ else (bif Nat.beq k_ 2 then .int v2 else (bif Nat.beq k_ 3 then .int v3 else (bif Nat.beq k_ 4 then .int v4_ else (bif Nat.beq k_ 5 then .int v5 else (bif Nat.beq k_ 6 then .int v6 else (.int 0))))))
def mfoXB_s (n_ : Nat) : Nat := 0
theorem mfoXB {h_ : xH} {v1_ v2 v3 v4_ v5 v6 : Int32} (hs : sHp h_) (c0_ : v3.toInt < v4_.toInt) : ∃ h', ysm h_ h' ∧ (((∀ a_ j_ : Nat, bpat h' a_ j_ = bpat h_ a_ j_) ∧ (∀ D_, 60 ≤ D_ → xrun D_ 196 29 [(4, .int v4_), (6, .int v6), (5, .int v5), (3, .int v3), (0, .index 338), (1, .int v1_), (2, .int v2)] [] h_ (none, h', [])))) := by
  have hA : yas mfoXB_A (mfoXB_r v1_ v2 v3 v4_ v5 v6) (yg mfoXB_s) := ⟨fun q_ hq => absurd hq List.not_mem_nil, fun q_ hq => absurd hq List.not_mem_nil, fun q_ hq => absurd hq List.not_mem_nil, fun n_ hn => yg_lo hn, fun q_ hq => absurd hq List.not_mem_nil⟩
  have Hs : ysh mfoXB_A.1 (yg mfoXB_s) h_ := ysh_of2 hs (fun q_ hq => absurd hq List.not_mem_nil)
  have Ho : ymem (mfoXB_r v1_ v2 v3 v4_ v5 v6) (yg mfoXB_s) mfoXB_O h_ := fun q_ hq => absurd hq List.not_mem_nil
  have HC : ∀ q_ ∈ mfoXB_C, xhold (mfoXB_r v1_ v2 v3 v4_ v5 v6) q_ := List.forall_mem_cons.mpr ⟨xh_leF c0_, fun q_ hq => absurd hq List.not_mem_nil⟩
  rcases yrun (yis_ok mfoXB_k) hA Hs Ho HC with ⟨q_, hq, h', K_, G_⟩ | ⟨q_, hq, h', K_, G_⟩
  · cases hq
  · have e_ := List.mem_singleton.mp hq
    subst e_
    exact ⟨h', yfr_sm K_.2.2.2 hs K_.1 (ywa_r mfoXB_w List.mem_cons_self), ⟨fun a_ j_ => yfr_bp K_.2.2.2 (fun q_ hq => absurd hq List.not_mem_nil), G_⟩⟩
-- mfoWB: 5 steps, 1 ends, 0 returns
def mfoWB_L : List (Nat × Nat × Nat) := []
def mfoWB_O : yO := []
def mfoWB_A : yA := (yZ mfoWB_L, [], [], [], [])
def mfoWB_C : List xB := [(.le, .arg 4, .arg 3, true)]
def mfoWB_ss : List yS := [(38, [(4, .arg 4), (6, .arg 6), (5, .arg 5), (3, .arg 3), (0, .index 338), (1, .arg 1), (2, .arg 2)], [.arg 4, .index 338], [], [(.le, .arg 4, .arg 3, true)], [])]
def mfoWB_rs : List yR := []
theorem mfoWB_w : ywa mfoWB_A mfoWB_ss mfoWB_rs = true := by decide +kernel
theorem mfoWB_k : yis (yev mfoWB_A 3000 60 196 [38] (29, [(4, .arg 4), (6, .arg 6), (5, .arg 5), (3, .arg 3), (0, .index 338), (1, .arg 1), (2, .arg 2)], [], mfoWB_O, mfoWB_C, [])) mfoWB_ss mfoWB_rs = true := by decide +kernel
def mfoWB_r (v1_ v2 v3 v4_ v5 v6 : Int32) (k_ : Nat) : Value := bif Nat.beq k_ 1 then .int v1_ else (bif Nat.beq k_ 2 then .int v2 else (bif Nat.beq k_ 3 then .int v3 else (bif Nat.beq k_ 4 then .int v4_ else (bif Nat.beq k_ 5 then .int v5 else (bif Nat.beq k_ 6 then .int v6 else (.int 0))))))
def mfoWB_s (n_ : Nat) : Nat := 0
theorem mfoWB {h_ : xH} {v1_ v2 v3 v4_ v5 v6 : Int32} (hs : sHp h_) (c0_ : v4_.toInt ≤ v3.toInt) : ∃ h', ysm h_ h' ∧ (((∀ a_ j_ : Nat, bpat h' a_ j_ = bpat h_ a_ j_) ∧ (bldD 60 196 29 [(4, .int v4_), (6, .int v6), (5, .int v5), (3, .int v3), (0, .index 338), (1, .int v1_), (2, .int v2)] [] h_ 38 [(4, .int v4_), (6, .int v6), (5, .int v5), (3, .int v3), (0, .index 338), (1, .int v1_), (2, .int v2)] [.int v4_, .index 338] h'))) := by
  have hA : yas mfoWB_A (mfoWB_r v1_ v2 v3 v4_ v5 v6) (yg mfoWB_s) := ⟨fun q_ hq => absurd hq List.not_mem_nil, fun q_ hq => absurd hq List.not_mem_nil, fun q_ hq => absurd hq List.not_mem_nil, fun n_ hn => yg_lo hn, fun q_ hq => absurd hq List.not_mem_nil⟩
  have Hs : ysh mfoWB_A.1 (yg mfoWB_s) h_ := ysh_of2 hs (fun q_ hq => absurd hq List.not_mem_nil)
  have Ho : ymem (mfoWB_r v1_ v2 v3 v4_ v5 v6) (yg mfoWB_s) mfoWB_O h_ := fun q_ hq => absurd hq List.not_mem_nil
  have HC : ∀ q_ ∈ mfoWB_C, xhold (mfoWB_r v1_ v2 v3 v4_ v5 v6) q_ := List.forall_mem_cons.mpr ⟨xh_leT c0_, fun q_ hq => absurd hq List.not_mem_nil⟩
  rcases yrun (yis_ok mfoWB_k) hA Hs Ho HC with ⟨q_, hq, h', K_, G_⟩ | ⟨q_, hq, h', K_, G_⟩
  · have e_ := List.mem_singleton.mp hq
    subst e_
    exact ⟨h', yfr_sm K_.2.2.2 hs K_.1 (ywa_s mfoWB_w List.mem_cons_self), ⟨fun a_ j_ => yfr_bp K_.2.2.2 (fun q_ hq => absurd hq List.not_mem_nil), G_⟩⟩
  · cases hq
-- mfoNB: 3 steps, 1 ends, 0 returns
def mfoNB_L : List (Nat × Nat × Nat) := []
def mfoNB_O : yO := []
def mfoNB_A : yA := (yZ mfoNB_L, [], [], [], [])
def mfoNB_C : List xB := []
def mfoNB_ss : List yS := [(29, [(4, .add (.arg 4) (.int 1)), (6, .arg 6), (5, .arg 5), (3, .arg 3), (0, .index 338), (1, .arg 1), (2, .arg 2)], [], [], [], [])]
def mfoNB_rs : List yR := []
theorem mfoNB_w : ywa mfoNB_A mfoNB_ss mfoNB_rs = true := by decide +kernel
theorem mfoNB_k : yis (yev mfoNB_A 3000 60 196 [29] (41, [(4, .arg 4), (6, .arg 6), (5, .arg 5), (3, .arg 3), (0, .index 338), (1, .arg 1), (2, .arg 2)], [.int 0], mfoNB_O, mfoNB_C, [])) mfoNB_ss mfoNB_rs = true := by decide +kernel
def mfoNB_r (v1_ v2 v3 v4_ v5 v6 : Int32) (k_ : Nat) : Value := bif Nat.beq k_ 1 then .int v1_ else (bif Nat.beq k_ 2 then .int v2 else (bif Nat.beq k_ 3 then .int v3 else (bif Nat.beq k_ 4 then .int v4_ else (bif Nat.beq k_ 5 then .int v5 else (bif Nat.beq k_ 6 then .int v6 else (.int 0))))))
def mfoNB_s (n_ : Nat) : Nat := 0
theorem mfoNB {h_ : xH} {v1_ v2 v3 v4_ v5 v6 : Int32} (hs : sHp h_) : ∃ h', ysm h_ h' ∧ (((∀ a_ j_ : Nat, bpat h' a_ j_ = bpat h_ a_ j_) ∧ (bldD 60 196 41 [(4, .int v4_), (6, .int v6), (5, .int v5), (3, .int v3), (0, .index 338), (1, .int v1_), (2, .int v2)] [.int (0 : Int32)] h_ 29 [(4, .int (v4_ + (1 : Int32))), (6, .int v6), (5, .int v5), (3, .int v3), (0, .index 338), (1, .int v1_), (2, .int v2)] [] h'))) := by
  have hA : yas mfoNB_A (mfoNB_r v1_ v2 v3 v4_ v5 v6) (yg mfoNB_s) := ⟨fun q_ hq => absurd hq List.not_mem_nil, fun q_ hq => absurd hq List.not_mem_nil, fun q_ hq => absurd hq List.not_mem_nil, fun n_ hn => yg_lo hn, fun q_ hq => absurd hq List.not_mem_nil⟩
  have Hs : ysh mfoNB_A.1 (yg mfoNB_s) h_ := ysh_of2 hs (fun q_ hq => absurd hq List.not_mem_nil)
  have Ho : ymem (mfoNB_r v1_ v2 v3 v4_ v5 v6) (yg mfoNB_s) mfoNB_O h_ := fun q_ hq => absurd hq List.not_mem_nil
  have HC : ∀ q_ ∈ mfoNB_C, xhold (mfoNB_r v1_ v2 v3 v4_ v5 v6) q_ := fun q_ hq => absurd hq List.not_mem_nil
  rcases yrun (yis_ok mfoNB_k) hA Hs Ho HC with ⟨q_, hq, h', K_, G_⟩ | ⟨q_, hq, h', K_, G_⟩
  · have e_ := List.mem_singleton.mp hq
    subst e_
    exact ⟨h', yfr_sm K_.2.2.2 hs K_.1 (ywa_s mfoNB_w List.mem_cons_self), ⟨fun a_ j_ => yfr_bp K_.2.2.2 (fun q_ hq => absurd hq List.not_mem_nil), G_⟩⟩
  · cases hq
-- mfoUB: 3 steps, 1 ends, 0 returns
def mfoUB_L : List (Nat × Nat × Nat) := []
def mfoUB_O : yO := []
def mfoUB_A : yA := (yZ mfoUB_L, [], [], [], [])
def mfoUB_C : List xB := []
def mfoUB_ss : List yS := [(47, [(4, .arg 4), (6, .arg 6), (5, .arg 5), (3, .arg 3), (0, .index 338), (1, .arg 1), (2, .arg 2)], [.arg 4, .index 338], [], [], [])]
def mfoUB_rs : List yR := []
theorem mfoUB_w : ywa mfoUB_A mfoUB_ss mfoUB_rs = true := by decide +kernel
theorem mfoUB_k : yis (yev mfoUB_A 3000 60 196 [47] (41, [(4, .arg 4), (6, .arg 6), (5, .arg 5), (3, .arg 3), (0, .index 338), (1, .arg 1), (2, .arg 2)], [.int 1], mfoUB_O, mfoUB_C, [])) mfoUB_ss mfoUB_rs = true := by decide +kernel
def mfoUB_r (v1_ v2 v3 v4_ v5 v6 : Int32) (k_ : Nat) : Value := bif Nat.beq k_ 1 then .int v1_ else (bif Nat.beq k_ 2 then .int v2 else (bif Nat.beq k_ 3 then .int v3 else (bif Nat.beq k_ 4 then .int v4_ else (bif Nat.beq k_ 5 then .int v5 else (bif Nat.beq k_ 6 then .int v6 else (.int 0))))))
def mfoUB_s (n_ : Nat) : Nat := 0
theorem mfoUB {h_ : xH} {v1_ v2 v3 v4_ v5 v6 : Int32} (hs : sHp h_) : ∃ h', ysm h_ h' ∧ (((∀ a_ j_ : Nat, bpat h' a_ j_ = bpat h_ a_ j_) ∧ (bldD 60 196 41 [(4, .int v4_), (6, .int v6), (5, .int v5), (3, .int v3), (0, .index 338), (1, .int v1_), (2, .int v2)] [.int (1 : Int32)] h_ 47 [(4, .int v4_), (6, .int v6), (5, .int v5), (3, .int v3), (0, .index 338), (1, .int v1_), (2, .int v2)] [.int v4_, .index 338] h'))) := by
  have hA : yas mfoUB_A (mfoUB_r v1_ v2 v3 v4_ v5 v6) (yg mfoUB_s) := ⟨fun q_ hq => absurd hq List.not_mem_nil, fun q_ hq => absurd hq List.not_mem_nil, fun q_ hq => absurd hq List.not_mem_nil, fun n_ hn => yg_lo hn, fun q_ hq => absurd hq List.not_mem_nil⟩
  have Hs : ysh mfoUB_A.1 (yg mfoUB_s) h_ := ysh_of2 hs (fun q_ hq => absurd hq List.not_mem_nil)
  have Ho : ymem (mfoUB_r v1_ v2 v3 v4_ v5 v6) (yg mfoUB_s) mfoUB_O h_ := fun q_ hq => absurd hq List.not_mem_nil
  have HC : ∀ q_ ∈ mfoUB_C, xhold (mfoUB_r v1_ v2 v3 v4_ v5 v6) q_ := fun q_ hq => absurd hq List.not_mem_nil
  rcases yrun (yis_ok mfoUB_k) hA Hs Ho HC with ⟨q_, hq, h', K_, G_⟩ | ⟨q_, hq, h', K_, G_⟩
  · have e_ := List.mem_singleton.mp hq
    subst e_
    exact ⟨h', yfr_sm K_.2.2.2 hs K_.1 (ywa_s mfoUB_w List.mem_cons_self), ⟨fun a_ j_ => yfr_bp K_.2.2.2 (fun q_ hq => absurd hq List.not_mem_nil), G_⟩⟩
  · cases hq
-- mfoMB: 3 steps, 1 ends, 0 returns
def mfoMB_L : List (Nat × Nat × Nat) := []
def mfoMB_O : yO := []
def mfoMB_A : yA := (yZ mfoMB_L, [], [], [], [])
def mfoMB_C : List xB := []
def mfoMB_ss : List yS := [(29, [(4, .add (.arg 4) (.int 1)), (6, .arg 6), (5, .arg 5), (3, .arg 3), (0, .index 338), (1, .arg 1), (2, .arg 2)], [], [], [], [])]
def mfoMB_rs : List yR := []
theorem mfoMB_w : ywa mfoMB_A mfoMB_ss mfoMB_rs = true := by decide +kernel
theorem mfoMB_k : yis (yev mfoMB_A 3000 60 196 [29] (50, [(4, .arg 4), (6, .arg 6), (5, .arg 5), (3, .arg 3), (0, .index 338), (1, .arg 1), (2, .arg 2)], [.int 0], mfoMB_O, mfoMB_C, [])) mfoMB_ss mfoMB_rs = true := by decide +kernel
def mfoMB_r (v1_ v2 v3 v4_ v5 v6 : Int32) (k_ : Nat) : Value := bif Nat.beq k_ 1 then .int v1_ else (bif Nat.beq k_ 2 then .int v2 else (bif Nat.beq k_ 3 then .int v3 else (bif Nat.beq k_ 4 then .int v4_ else (bif Nat.beq k_ 5 then .int v5 else (bif Nat.beq k_ 6 then .int v6 else (.int 0))))))
def mfoMB_s (n_ : Nat) : Nat := 0
theorem mfoMB {h_ : xH} {v1_ v2 v3 v4_ v5 v6 : Int32} (hs : sHp h_) : ∃ h', ysm h_ h' ∧ (((∀ a_ j_ : Nat, bpat h' a_ j_ = bpat h_ a_ j_) ∧ (bldD 60 196 50 [(4, .int v4_), (6, .int v6), (5, .int v5), (3, .int v3), (0, .index 338), (1, .int v1_), (2, .int v2)] [.int (0 : Int32)] h_ 29 [(4, .int (v4_ + (1 : Int32))), (6, .int v6), (5, .int v5), (3, .int v3), (0, .index 338), (1, .int v1_), (2, .int v2)] [] h'))) := by
  have hA : yas mfoMB_A (mfoMB_r v1_ v2 v3 v4_ v5 v6) (yg mfoMB_s) := ⟨fun q_ hq => absurd hq List.not_mem_nil, fun q_ hq => absurd hq List.not_mem_nil, fun q_ hq => absurd hq List.not_mem_nil, fun n_ hn => yg_lo hn, fun q_ hq => absurd hq List.not_mem_nil⟩
  have Hs : ysh mfoMB_A.1 (yg mfoMB_s) h_ := ysh_of2 hs (fun q_ hq => absurd hq List.not_mem_nil)
  have Ho : ymem (mfoMB_r v1_ v2 v3 v4_ v5 v6) (yg mfoMB_s) mfoMB_O h_ := fun q_ hq => absurd hq List.not_mem_nil
  have HC : ∀ q_ ∈ mfoMB_C, xhold (mfoMB_r v1_ v2 v3 v4_ v5 v6) q_ := fun q_ hq => absurd hq List.not_mem_nil
  rcases yrun (yis_ok mfoMB_k) hA Hs Ho HC with ⟨q_, hq, h', K_, G_⟩ | ⟨q_, hq, h', K_, G_⟩
  · have e_ := List.mem_singleton.mp hq
    subst e_
    exact ⟨h', yfr_sm K_.2.2.2 hs K_.1 (ywa_s mfoMB_w List.mem_cons_self), ⟨fun a_ j_ => yfr_bp K_.2.2.2 (fun q_ hq => absurd hq List.not_mem_nil), G_⟩⟩
  · cases hq
-- mfoPB: 6 steps, 1 ends, 0 returns
def mfoPB_L : List (Nat × Nat × Nat) := []
def mfoPB_O : yO := [(338, .int 4, .index 342)]
def mfoPB_A : yA := (yZ mfoPB_L, [], [], [], [])
def mfoPB_C : List xB := []
def mfoPB_ss : List yS := [(61, [(4, .arg 4), (6, .arg 6), (5, .arg 5), (3, .arg 3), (0, .index 338), (1, .arg 1), (2, .arg 2)], [.index 342, .arg 4, .arg 1, .index 338], [(338, .int 4, .index 342)], [], [])]
def mfoPB_rs : List yR := []
theorem mfoPB_w : ywa mfoPB_A mfoPB_ss mfoPB_rs = true := by decide +kernel
theorem mfoPB_k : yis (yev mfoPB_A 3000 60 196 [61] (50, [(4, .arg 4), (6, .arg 6), (5, .arg 5), (3, .arg 3), (0, .index 338), (1, .arg 1), (2, .arg 2)], [.int 1], mfoPB_O, mfoPB_C, [])) mfoPB_ss mfoPB_rs = true := by decide +kernel
def mfoPB_r (v1_ v2 v3 v4_ v5 v6 : Int32) (k_ : Nat) : Value := bif Nat.beq k_ 1 then .int v1_ else (bif Nat.beq k_ 2 then .int v2 else (bif Nat.beq k_ 3 then .int v3 else (bif Nat.beq k_ 4 then .int v4_ else (bif Nat.beq k_ 5 then .int v5 else (bif Nat.beq k_ 6 then .int v6 else (.int 0))))))
def mfoPB_s (n_ : Nat) : Nat := 0
theorem mfoPB {h_ : xH} {v1_ v2 v3 v4_ v5 v6 : Int32} (hs : sHp h_) : ∃ h', ysm h_ h' ∧ (((∀ a_ j_ : Nat, bpat h' a_ j_ = bpat h_ a_ j_) ∧ (bldD 60 196 50 [(4, .int v4_), (6, .int v6), (5, .int v5), (3, .int v3), (0, .index 338), (1, .int v1_), (2, .int v2)] [.int (1 : Int32)] h_ 61 [(4, .int v4_), (6, .int v6), (5, .int v5), (3, .int v3), (0, .index 338), (1, .int v1_), (2, .int v2)] [.index 342, .int v4_, .int v1_, .index 338] h'))) := by
  have hA : yas mfoPB_A (mfoPB_r v1_ v2 v3 v4_ v5 v6) (yg mfoPB_s) := ⟨fun q_ hq => absurd hq List.not_mem_nil, fun q_ hq => absurd hq List.not_mem_nil, fun q_ hq => absurd hq List.not_mem_nil, fun n_ hn => yg_lo hn, fun q_ hq => absurd hq List.not_mem_nil⟩
  have Hs : ysh mfoPB_A.1 (yg mfoPB_s) h_ := ysh_of2 hs (fun q_ hq => absurd hq List.not_mem_nil)
  have Ho : ymem (mfoPB_r v1_ v2 v3 v4_ v5 v6) (yg mfoPB_s) mfoPB_O h_ := List.forall_mem_cons.mpr ⟨bpat_some (fxr_at hs.2 (show fxk fxl 338 4 = some 342 by decide +kernel)), fun q_ hq => absurd hq List.not_mem_nil⟩
  have HC : ∀ q_ ∈ mfoPB_C, xhold (mfoPB_r v1_ v2 v3 v4_ v5 v6) q_ := fun q_ hq => absurd hq List.not_mem_nil
  rcases yrun (yis_ok mfoPB_k) hA Hs Ho HC with ⟨q_, hq, h', K_, G_⟩ | ⟨q_, hq, h', K_, G_⟩
  · have e_ := List.mem_singleton.mp hq
    subst e_
    exact ⟨h', yfr_sm K_.2.2.2 hs K_.1 (ywa_s mfoPB_w List.mem_cons_self), ⟨fun a_ j_ => yfr_bp K_.2.2.2 (fun q_ hq => absurd hq List.not_mem_nil), G_⟩⟩
  · cases hq
-- mfoQB: 4 steps, 1 ends, 0 returns
def mfoQB_L : List (Nat × Nat × Nat) := []
def mfoQB_O : yO := []
def mfoQB_A : yA := (yZ mfoQB_L, [], [], [], [])
def mfoQB_C : List xB := []
def mfoQB_ss : List yS := [(70, [(6, .int 0), (5, .int 1), (4, .arg 4), (3, .arg 3), (0, .index 338), (1, .arg 1), (2, .arg 2)], [], [], [], [])]
def mfoQB_rs : List yR := []
theorem mfoQB_w : ywa mfoQB_A mfoQB_ss mfoQB_rs = true := by decide +kernel
theorem mfoQB_k : yis (yev mfoQB_A 3000 60 196 [70] (64, [(4, .arg 4), (6, .arg 6), (5, .arg 5), (3, .arg 3), (0, .index 338), (1, .arg 1), (2, .arg 2)], [], mfoQB_O, mfoQB_C, [])) mfoQB_ss mfoQB_rs = true := by decide +kernel
def mfoQB_r (v1_ v2 v3 v4_ v5 v6 : Int32) (k_ : Nat) : Value := bif Nat.beq k_ 1 then .int v1_ else (bif Nat.beq k_ 2 then .int v2 else (bif Nat.beq k_ 3 then .int v3 else (bif Nat.beq k_ 4 then .int v4_ else (bif Nat.beq k_ 5 then .int v5 else (bif Nat.beq k_ 6 then .int v6 else (.int 0))))))
def mfoQB_s (n_ : Nat) : Nat := 0
theorem mfoQB {h_ : xH} {v1_ v2 v3 v4_ v5 v6 : Int32} (hs : sHp h_) : ∃ h', ysm h_ h' ∧ (((∀ a_ j_ : Nat, bpat h' a_ j_ = bpat h_ a_ j_) ∧ (bldD 60 196 64 [(4, .int v4_), (6, .int v6), (5, .int v5), (3, .int v3), (0, .index 338), (1, .int v1_), (2, .int v2)] [] h_ 70 [(6, .int (0 : Int32)), (5, .int (1 : Int32)), (4, .int v4_), (3, .int v3), (0, .index 338), (1, .int v1_), (2, .int v2)] [] h'))) := by
  have hA : yas mfoQB_A (mfoQB_r v1_ v2 v3 v4_ v5 v6) (yg mfoQB_s) := ⟨fun q_ hq => absurd hq List.not_mem_nil, fun q_ hq => absurd hq List.not_mem_nil, fun q_ hq => absurd hq List.not_mem_nil, fun n_ hn => yg_lo hn, fun q_ hq => absurd hq List.not_mem_nil⟩
  have Hs : ysh mfoQB_A.1 (yg mfoQB_s) h_ := ysh_of2 hs (fun q_ hq => absurd hq List.not_mem_nil)
  have Ho : ymem (mfoQB_r v1_ v2 v3 v4_ v5 v6) (yg mfoQB_s) mfoQB_O h_ := fun q_ hq => absurd hq List.not_mem_nil
  have HC : ∀ q_ ∈ mfoQB_C, xhold (mfoQB_r v1_ v2 v3 v4_ v5 v6) q_ := fun q_ hq => absurd hq List.not_mem_nil
  rcases yrun (yis_ok mfoQB_k) hA Hs Ho HC with ⟨q_, hq, h', K_, G_⟩ | ⟨q_, hq, h', K_, G_⟩
  · have e_ := List.mem_singleton.mp hq
    subst e_
    exact ⟨h', yfr_sm K_.2.2.2 hs K_.1 (ywa_s mfoQB_w List.mem_cons_self), ⟨fun a_ j_ => yfr_bp K_.2.2.2 (fun q_ hq => absurd hq List.not_mem_nil), G_⟩⟩
  · cases hq
-- mfmXB: 6 steps, 1 ends, 0 returns
def mfmXB_L : List (Nat × Nat × Nat) := []
def mfmXB_O : yO := [(338, .int 15, .arg 300)]
def mfmXB_A : yA := (yZ mfmXB_L, [], [], [], [])
def mfmXB_C : List xB := [(.lt, .arg 6, .arg 300, false)]
def mfmXB_ss : List yS := [(163, [(6, .int 0), (5, .arg 5), (8, .arg 8), (7, .arg 7), (4, .arg 4), (3, .arg 3), (0, .index 338), (1, .arg 1), (2, .arg 2)], [], [(338, .int 15, .arg 300)], [(.lt, .arg 6, .arg 300, false)], [])]
def mfmXB_rs : List yR := []
theorem mfmXB_w : ywa mfmXB_A mfmXB_ss mfmXB_rs = true := by decide +kernel
theorem mfmXB_k : yis (yev mfmXB_A 3000 60 196 [163] (70, [(6, .arg 6), (5, .arg 5), (8, .arg 8), (7, .arg 7), (4, .arg 4), (3, .arg 3), (0, .index 338), (1, .arg 1), (2, .arg 2)], [], mfmXB_O, mfmXB_C, [])) mfmXB_ss mfmXB_rs = true := by decide +kernel
def mfmXB_r (v1_ v2 v3 v4_ v5 v6 v7 v8 v300 : Int32) (k_ : Nat) : Value := bif Nat.beq k_ 1 then .int v1_ else (bif Nat.beq k_ 2 then .int v2 else (bif Nat.beq k_ 3 then .int v3 else (bif Nat.beq k_ 4 then .int v4_ else (bif Nat.beq k_ 5 then .int v5 else (bif Nat.beq k_ 6 then .int v6 else (bif Nat.beq k_ 7 then .int v7 else (bif Nat.beq k_ 8 then .int v8 else (bif Nat.beq k_ 300 then .int v300 else (.int 0)))))))))
def mfmXB_s (n_ : Nat) : Nat := 0
theorem mfmXB {h_ : xH} {v1_ v2 v3 v4_ v5 v6 v7 v8 v300 : Int32} (hs : sHp h_) (o0_ : bpat h_ 338 15 = some (.int v300)) (c0_ : v300.toInt ≤ v6.toInt) : ∃ h', ysm h_ h' ∧ (((∀ a_ j_ : Nat, bpat h' a_ j_ = bpat h_ a_ j_) ∧ (bldD 60 196 70 [(6, .int v6), (5, .int v5), (8, .int v8), (7, .int v7), (4, .int v4_), (3, .int v3), (0, .index 338), (1, .int v1_), (2, .int v2)] [] h_ 163 [(6, .int (0 : Int32)), (5, .int v5), (8, .int v8), (7, .int v7), (4, .int v4_), (3, .int v3), (0, .index 338), (1, .int v1_), (2, .int v2)] [] h'))) := by
  have hA : yas mfmXB_A (mfmXB_r v1_ v2 v3 v4_ v5 v6 v7 v8 v300) (yg mfmXB_s) := ⟨fun q_ hq => absurd hq List.not_mem_nil, fun q_ hq => absurd hq List.not_mem_nil, fun q_ hq => absurd hq List.not_mem_nil, fun n_ hn => yg_lo hn, fun q_ hq => absurd hq List.not_mem_nil⟩
  have Hs : ysh mfmXB_A.1 (yg mfmXB_s) h_ := ysh_of2 hs (fun q_ hq => absurd hq List.not_mem_nil)
  have Ho : ymem (mfmXB_r v1_ v2 v3 v4_ v5 v6 v7 v8 v300) (yg mfmXB_s) mfmXB_O h_ := List.forall_mem_cons.mpr ⟨bpat_some o0_, fun q_ hq => absurd hq List.not_mem_nil⟩
  have HC : ∀ q_ ∈ mfmXB_C, xhold (mfmXB_r v1_ v2 v3 v4_ v5 v6 v7 v8 v300) q_ := List.forall_mem_cons.mpr ⟨xh_ltF c0_, fun q_ hq => absurd hq List.not_mem_nil⟩
  rcases yrun (yis_ok mfmXB_k) hA Hs Ho HC with ⟨q_, hq, h', K_, G_⟩ | ⟨q_, hq, h', K_, G_⟩
  · have e_ := List.mem_singleton.mp hq
    subst e_
    exact ⟨h', yfr_sm K_.2.2.2 hs K_.1 (ywa_s mfmXB_w List.mem_cons_self), ⟨fun a_ j_ => yfr_bp K_.2.2.2 (fun q_ hq => absurd hq List.not_mem_nil), G_⟩⟩
  · cases hq
-- mfmZB: 8 steps, 1 ends, 0 returns
def mfmZB_L : List (Nat × Nat × Nat) := []
def mfmZB_O : yO := [(338, .int 15, .arg 300)]
def mfmZB_A : yA := (yZ mfmZB_L, [], [], [], [])
def mfmZB_C : List xB := [(.lt, .arg 6, .arg 300, true)]
def mfmZB_ss : List yS := [(163, [(6, .int 0), (5, .int 0), (8, .arg 8), (7, .arg 7), (4, .arg 4), (3, .arg 3), (0, .index 338), (1, .arg 1), (2, .arg 2)], [], [(338, .int 15, .arg 300)], [(.lt, .arg 6, .arg 300, true)], [])]
def mfmZB_rs : List yR := []
theorem mfmZB_w : ywa mfmZB_A mfmZB_ss mfmZB_rs = true := by decide +kernel
theorem mfmZB_k : yis (yev mfmZB_A 3000 60 196 [163] (70, [(6, .arg 6), (5, .int 0), (8, .arg 8), (7, .arg 7), (4, .arg 4), (3, .arg 3), (0, .index 338), (1, .arg 1), (2, .arg 2)], [], mfmZB_O, mfmZB_C, [])) mfmZB_ss mfmZB_rs = true := by decide +kernel
def mfmZB_r (v1_ v2 v3 v4_ v6 v7 v8 v300 : Int32) (k_ : Nat) : Value := bif Nat.beq k_ 1 then .int v1_ else (bif Nat.beq k_ 2 then .int v2 else (bif Nat.beq k_ 3 then .int v3 else (bif Nat.beq k_ 4 then .int v4_ else (bif Nat.beq k_ 6 then .int v6 else (bif Nat.beq k_ 7 then .int v7 else (bif Nat.beq k_ 8 then .int v8 else (bif Nat.beq k_ 300 then .int v300 else (.int 0))))))))
def mfmZB_s (n_ : Nat) : Nat := 0
theorem mfmZB {h_ : xH} {v1_ v2 v3 v4_ v6 v7 v8 v300 : Int32} (hs : sHp h_) (o0_ : bpat h_ 338 15 = some (.int v300)) (c0_ : v6.toInt < v300.toInt) : ∃ h', ysm h_ h' ∧ (((∀ a_ j_ : Nat, bpat h' a_ j_ = bpat h_ a_ j_) ∧ (bldD 60 196 70 [(6, .int v6), (5, .int (0 : Int32)), (8, .int v8), (7, .int v7), (4, .int v4_), (3, .int v3), (0, .index 338), (1, .int v1_), (2, .int v2)] [] h_ 163 [(6, .int (0 : Int32)), (5, .int (0 : Int32)), (8, .int v8), (7, .int v7), (4, .int v4_), (3, .int v3), (0, .index 338), (1, .int v1_), (2, .int v2)] [] h'))) := by
  have hA : yas mfmZB_A (mfmZB_r v1_ v2 v3 v4_ v6 v7 v8 v300) (yg mfmZB_s) := ⟨fun q_ hq => absurd hq List.not_mem_nil, fun q_ hq => absurd hq List.not_mem_nil, fun q_ hq => absurd hq List.not_mem_nil, fun n_ hn => yg_lo hn, fun q_ hq => absurd hq List.not_mem_nil⟩
  have Hs : ysh mfmZB_A.1 (yg mfmZB_s) h_ := ysh_of2 hs (fun q_ hq => absurd hq List.not_mem_nil)
  have Ho : ymem (mfmZB_r v1_ v2 v3 v4_ v6 v7 v8 v300) (yg mfmZB_s) mfmZB_O h_ := List.forall_mem_cons.mpr ⟨bpat_some o0_, fun q_ hq => absurd hq List.not_mem_nil⟩
  have HC : ∀ q_ ∈ mfmZB_C, xhold (mfmZB_r v1_ v2 v3 v4_ v6 v7 v8 v300) q_ := List.forall_mem_cons.mpr ⟨xh_ltT c0_, fun q_ hq => absurd hq List.not_mem_nil⟩
  rcases yrun (yis_ok mfmZB_k) hA Hs Ho HC with ⟨q_, hq, h', K_, G_⟩ | ⟨q_, hq, h', K_, G_⟩
  · have e_ := List.mem_singleton.mp hq
    subst e_
    exact ⟨h', yfr_sm K_.2.2.2 hs K_.1 (ywa_s mfmZB_w List.mem_cons_self), ⟨fun a_ j_ => yfr_bp K_.2.2.2 (fun q_ hq => absurd hq List.not_mem_nil), G_⟩⟩
  · cases hq
-- mfmTB: 10 steps, 1 ends, 0 returns
def mfmTB_L : List (Nat × Nat × Nat) := []
def mfmTB_O : yO := [(338, .int 15, .arg 300)]
def mfmTB_A : yA := (yZ mfmTB_L, [], [], [], [])
def mfmTB_C : List xB := [(.lt, .arg 6, .arg 300, true)]
def mfmTB_ss : List yS := [(90, [(8, .int 0), (7, .int 1), (6, .arg 6), (5, .int 1), (4, .arg 4), (3, .arg 3), (0, .index 338), (1, .arg 1), (2, .arg 2)], [], [(338, .int 15, .arg 300)], [(.lt, .arg 6, .arg 300, true)], [])]
def mfmTB_rs : List yR := []
theorem mfmTB_w : ywa mfmTB_A mfmTB_ss mfmTB_rs = true := by decide +kernel
theorem mfmTB_k : yis (yev mfmTB_A 3000 60 196 [90] (70, [(6, .arg 6), (5, .int 1), (8, .arg 8), (7, .arg 7), (4, .arg 4), (3, .arg 3), (0, .index 338), (1, .arg 1), (2, .arg 2)], [], mfmTB_O, mfmTB_C, [])) mfmTB_ss mfmTB_rs = true := by decide +kernel
def mfmTB_r (v1_ v2 v3 v4_ v6 v7 v8 v300 : Int32) (k_ : Nat) : Value := bif Nat.beq k_ 1 then .int v1_ else (bif Nat.beq k_ 2 then .int v2 else (bif Nat.beq k_ 3 then .int v3 else (bif Nat.beq k_ 4 then .int v4_ else (bif Nat.beq k_ 6 then .int v6 else (bif Nat.beq k_ 7 then .int v7 else (bif Nat.beq k_ 8 then .int v8 else (bif Nat.beq k_ 300 then .int v300 else (.int 0))))))))
def mfmTB_s (n_ : Nat) : Nat := 0
theorem mfmTB {h_ : xH} {v1_ v2 v3 v4_ v6 v7 v8 v300 : Int32} (hs : sHp h_) (o0_ : bpat h_ 338 15 = some (.int v300)) (c0_ : v6.toInt < v300.toInt) : ∃ h', ysm h_ h' ∧ (((∀ a_ j_ : Nat, bpat h' a_ j_ = bpat h_ a_ j_) ∧ (bldD 60 196 70 [(6, .int v6), (5, .int (1 : Int32)), (8, .int v8), (7, .int v7), (4, .int v4_), (3, .int v3), (0, .index 338), (1, .int v1_), (2, .int v2)] [] h_ 90 [(8, .int (0 : Int32)), (7, .int (1 : Int32)), (6, .int v6), (5, .int (1 : Int32)), (4, .int v4_), (3, .int v3), (0, .index 338), (1, .int v1_), (2, .int v2)] [] h'))) := by
  have hA : yas mfmTB_A (mfmTB_r v1_ v2 v3 v4_ v6 v7 v8 v300) (yg mfmTB_s) := ⟨fun q_ hq => absurd hq List.not_mem_nil, fun q_ hq => absurd hq List.not_mem_nil, fun q_ hq => absurd hq List.not_mem_nil, fun n_ hn => yg_lo hn, fun q_ hq => absurd hq List.not_mem_nil⟩
  have Hs : ysh mfmTB_A.1 (yg mfmTB_s) h_ := ysh_of2 hs (fun q_ hq => absurd hq List.not_mem_nil)
  have Ho : ymem (mfmTB_r v1_ v2 v3 v4_ v6 v7 v8 v300) (yg mfmTB_s) mfmTB_O h_ := List.forall_mem_cons.mpr ⟨bpat_some o0_, fun q_ hq => absurd hq List.not_mem_nil⟩
  have HC : ∀ q_ ∈ mfmTB_C, xhold (mfmTB_r v1_ v2 v3 v4_ v6 v7 v8 v300) q_ := List.forall_mem_cons.mpr ⟨xh_ltT c0_, fun q_ hq => absurd hq List.not_mem_nil⟩
  rcases yrun (yis_ok mfmTB_k) hA Hs Ho HC with ⟨q_, hq, h', K_, G_⟩ | ⟨q_, hq, h', K_, G_⟩
  · have e_ := List.mem_singleton.mp hq
    subst e_
    exact ⟨h', yfr_sm K_.2.2.2 hs K_.1 (ywa_s mfmTB_w List.mem_cons_self), ⟨fun a_ j_ => yfr_bp K_.2.2.2 (fun q_ hq => absurd hq List.not_mem_nil), G_⟩⟩
  · cases hq
-- mfcTB: 20 steps, 1 ends, 0 returns
def mfcTB_L : List (Nat × Nat × Nat) := []
def mfcTB_O : yO := [(338, .int 14, .index 348), (338, .int 15, .arg 300), (338, .int 4, .index 342), (342, .arg 6, .arg 301)]
def mfcTB_A : yA := (yZ mfcTB_L, [(.add (.mul (.int 13) (.arg 300)) (.arg 6), 1040), (.arg 6, 13)], [], [], [])
def mfcTB_C : List xB := [(.lt, .arg 6, .int 13, true)]
def mfcTB_ss : List yS := [(163, [(6, .add (.arg 6) (.int 1)), (5, .int 1), (8, .arg 8), (7, .arg 7), (4, .arg 4), (3, .arg 3), (0, .index 338), (1, .arg 1), (2, .arg 2)], [], [(348, .add (.mul (.int 13) (.arg 300)) (.arg 6), .arg 301), (338, .int 14, .index 348), (338, .int 15, .arg 300), (338, .int 4, .index 342), (342, .arg 6, .arg 301)], [(.lt, .arg 6, .int 13, true)], [(348, .add (.mul (.int 13) (.arg 300)) (.arg 6))])]
def mfcTB_rs : List yR := []
theorem mfcTB_w : ywa mfcTB_A mfcTB_ss mfcTB_rs = true := by decide +kernel
theorem mfcTB_k : yis (yev mfcTB_A 3000 60 196 [163] (163, [(6, .arg 6), (5, .int 1), (8, .arg 8), (7, .arg 7), (4, .arg 4), (3, .arg 3), (0, .index 338), (1, .arg 1), (2, .arg 2)], [], mfcTB_O, mfcTB_C, [])) mfcTB_ss mfcTB_rs = true := by decide +kernel
def mfcTB_r (v1_ v2 v3 v4_ v6 v7 v8 v300 v301 : Int32) (k_ : Nat) : Value := bif Nat.beq k_ 1 then .int v1_ else (bif Nat.beq k_ 2 then .int v2 else (bif Nat.beq k_ 3 then .int v3 else (bif Nat.beq k_ 4 then .int v4_ else (bif Nat.beq k_ 6 then .int v6 else (bif Nat.beq k_ 7 then .int v7 else (bif Nat.beq k_ 8 then .int v8 else (bif Nat.beq k_ 300 then .int v300 else (bif Nat.beq k_ 301 then .int v301 else (.int 0)))))))))
def mfcTB_s (n_ : Nat) : Nat := 0
theorem mfcTB {h_ : xH} {v1_ v2 v3 v4_ v6 v7 v8 v300 v301 : Int32} (hs : sHp h_) (o0_ : bpat h_ 338 15 = some (.int v300)) (o1 : bpat h_ 342 (v6).toInt.toNat = some (.int v301)) (b0 : 0 ≤ ((((13 : Int32) * v300) + v6)).toInt ∧ ((((13 : Int32) * v300) + v6)).toInt < 1040) (b1 : 0 ≤ (v6).toInt ∧ (v6).toInt < 13) (c0_ : v6.toInt < (13 : Int32).toInt) : ∃ h', ysm h_ h' ∧ (((bpat h' 348 ((((13 : Int32) * v300) + v6)).toInt.toNat = some (.int v301)) ∧ (∀ a_ j_ : Nat, ¬ (a_ = 348 ∧ j_ = ((((13 : Int32) * v300) + v6)).toInt.toNat) → bpat h' a_ j_ = bpat h_ a_ j_) ∧ (bldD 60 196 163 [(6, .int v6), (5, .int (1 : Int32)), (8, .int v8), (7, .int v7), (4, .int v4_), (3, .int v3), (0, .index 338), (1, .int v1_), (2, .int v2)] [] h_ 163 [(6, .int (v6 + (1 : Int32))), (5, .int (1 : Int32)), (8, .int v8), (7, .int v7), (4, .int v4_), (3, .int v3), (0, .index 338), (1, .int v1_), (2, .int v2)] [] h'))) := by
  have hA : yas mfcTB_A (mfcTB_r v1_ v2 v3 v4_ v6 v7 v8 v300 v301) (yg mfcTB_s) := ⟨List.forall_mem_cons.mpr ⟨b0, List.forall_mem_cons.mpr ⟨b1, fun q_ hq => absurd hq List.not_mem_nil⟩⟩, fun q_ hq => absurd hq List.not_mem_nil, fun q_ hq => absurd hq List.not_mem_nil, fun n_ hn => yg_lo hn, fun q_ hq => absurd hq List.not_mem_nil⟩
  have Hs : ysh mfcTB_A.1 (yg mfcTB_s) h_ := ysh_of2 hs (fun q_ hq => absurd hq List.not_mem_nil)
  have Ho : ymem (mfcTB_r v1_ v2 v3 v4_ v6 v7 v8 v300 v301) (yg mfcTB_s) mfcTB_O h_ := List.forall_mem_cons.mpr ⟨bpat_some (fxr_at hs.2 (show fxk fxl 338 14 = some 348 by decide +kernel)), List.forall_mem_cons.mpr ⟨bpat_some o0_, List.forall_mem_cons.mpr ⟨bpat_some (fxr_at hs.2 (show fxk fxl 338 4 = some 342 by decide +kernel)), List.forall_mem_cons.mpr ⟨bpat_some o1, fun q_ hq => absurd hq List.not_mem_nil⟩⟩⟩⟩
  have HC : ∀ q_ ∈ mfcTB_C, xhold (mfcTB_r v1_ v2 v3 v4_ v6 v7 v8 v300 v301) q_ := List.forall_mem_cons.mpr ⟨xh_ltT c0_, fun q_ hq => absurd hq List.not_mem_nil⟩
  rcases yrun (yis_ok mfcTB_k) hA Hs Ho HC with ⟨q_, hq, h', K_, G_⟩ | ⟨q_, hq, h', K_, G_⟩
  · have e_ := List.mem_singleton.mp hq
    subst e_
    exact ⟨h', yfr_sm K_.2.2.2 hs K_.1 (ywa_s mfcTB_w List.mem_cons_self), ⟨bpat_of (K_.2.1 _ List.mem_cons_self), fun a_ j_ n0_ => yfr_bp K_.2.2.2 (List.forall_mem_cons.mpr ⟨fun e_ => n0_ ⟨e_.1.symm, e_.2.symm⟩, fun q_ hq => absurd hq List.not_mem_nil⟩), G_⟩⟩
  · cases hq
-- mfcXB: 14 steps, 1 ends, 0 returns
def mfcXB_L : List (Nat × Nat × Nat) := []
def mfcXB_O : yO := [(338, .int 15, .arg 300)]
def mfcXB_A : yA := (yZ mfcXB_L, [], [], [], [])
def mfcXB_C : List xB := [(.lt, .arg 6, .int 13, false)]
def mfcXB_ss : List yS := [(29, [(4, .add (.arg 4) (.int 1)), (6, .arg 6), (5, .int 1), (8, .arg 8), (7, .arg 7), (3, .arg 3), (0, .index 338), (1, .arg 1), (2, .arg 2)], [], [(338, .int 15, .add (.arg 300) (.int 1))], [(.lt, .arg 6, .int 13, false)], [(338, .int 15)])]
def mfcXB_rs : List yR := []
theorem mfcXB_w : ywa mfcXB_A mfcXB_ss mfcXB_rs = true := by decide +kernel
theorem mfcXB_k : yis (yev mfcXB_A 3000 60 196 [29] (163, [(6, .arg 6), (5, .int 1), (8, .arg 8), (7, .arg 7), (4, .arg 4), (3, .arg 3), (0, .index 338), (1, .arg 1), (2, .arg 2)], [], mfcXB_O, mfcXB_C, [])) mfcXB_ss mfcXB_rs = true := by decide +kernel
def mfcXB_r (v1_ v2 v3 v4_ v6 v7 v8 v300 : Int32) (k_ : Nat) : Value := bif Nat.beq k_ 1 then .int v1_ else (bif Nat.beq k_ 2 then .int v2 else (bif Nat.beq k_ 3 then .int v3 else (bif Nat.beq k_ 4 then .int v4_ else (bif Nat.beq k_ 6 then .int v6 else (bif Nat.beq k_ 7 then .int v7 else (bif Nat.beq k_ 8 then .int v8 else (bif Nat.beq k_ 300 then .int v300 else (.int 0))))))))
def mfcXB_s (n_ : Nat) : Nat := 0
theorem mfcXB {h_ : xH} {v1_ v2 v3 v4_ v6 v7 v8 v300 : Int32} (hs : sHp h_) (o0_ : bpat h_ 338 15 = some (.int v300)) (c0_ : (13 : Int32).toInt ≤ v6.toInt) : ∃ h', ysm h_ h' ∧ (((bpat h' 338 15 = some (.int (v300 + (1 : Int32)))) ∧ (∀ a_ j_ : Nat, ¬ (a_ = 338 ∧ j_ = 15) → bpat h' a_ j_ = bpat h_ a_ j_) ∧ (bldD 60 196 163 [(6, .int v6), (5, .int (1 : Int32)), (8, .int v8), (7, .int v7), (4, .int v4_), (3, .int v3), (0, .index 338), (1, .int v1_), (2, .int v2)] [] h_ 29 [(4, .int (v4_ + (1 : Int32))), (6, .int v6), (5, .int (1 : Int32)), (8, .int v8), (7, .int v7), (3, .int v3), (0, .index 338), (1, .int v1_), (2, .int v2)] [] h'))) := by
  have hA : yas mfcXB_A (mfcXB_r v1_ v2 v3 v4_ v6 v7 v8 v300) (yg mfcXB_s) := ⟨fun q_ hq => absurd hq List.not_mem_nil, fun q_ hq => absurd hq List.not_mem_nil, fun q_ hq => absurd hq List.not_mem_nil, fun n_ hn => yg_lo hn, fun q_ hq => absurd hq List.not_mem_nil⟩
  have Hs : ysh mfcXB_A.1 (yg mfcXB_s) h_ := ysh_of2 hs (fun q_ hq => absurd hq List.not_mem_nil)
  have Ho : ymem (mfcXB_r v1_ v2 v3 v4_ v6 v7 v8 v300) (yg mfcXB_s) mfcXB_O h_ := List.forall_mem_cons.mpr ⟨bpat_some o0_, fun q_ hq => absurd hq List.not_mem_nil⟩
  have HC : ∀ q_ ∈ mfcXB_C, xhold (mfcXB_r v1_ v2 v3 v4_ v6 v7 v8 v300) q_ := List.forall_mem_cons.mpr ⟨xh_ltF c0_, fun q_ hq => absurd hq List.not_mem_nil⟩
  rcases yrun (yis_ok mfcXB_k) hA Hs Ho HC with ⟨q_, hq, h', K_, G_⟩ | ⟨q_, hq, h', K_, G_⟩
  · have e_ := List.mem_singleton.mp hq
    subst e_
    exact ⟨h', yfr_sm K_.2.2.2 hs K_.1 (ywa_s mfcXB_w List.mem_cons_self), ⟨bpat_of (K_.2.1 _ List.mem_cons_self), fun a_ j_ n0_ => yfr_bp K_.2.2.2 (List.forall_mem_cons.mpr ⟨fun e_ => n0_ ⟨e_.1.symm, e_.2.symm⟩, fun q_ hq => absurd hq List.not_mem_nil⟩), G_⟩⟩
  · cases hq
-- mfcZB: 15 steps, 1 ends, 0 returns
def mfcZB_L : List (Nat × Nat × Nat) := []
def mfcZB_O : yO := [(338, .int 15, .arg 300)]
def mfcZB_A : yA := (yZ mfcZB_L, [], [], [], [])
def mfcZB_C : List xB := []
def mfcZB_ss : List yS := [(29, [(4, .add (.arg 4) (.int 1)), (6, .int 0), (5, .int 0), (8, .arg 8), (7, .arg 7), (3, .arg 3), (0, .index 338), (1, .arg 1), (2, .arg 2)], [], [(338, .int 15, .add (.arg 300) (.int 0))], [], [(338, .int 15)])]
def mfcZB_rs : List yR := []
theorem mfcZB_w : ywa mfcZB_A mfcZB_ss mfcZB_rs = true := by decide +kernel
theorem mfcZB_k : yis (yev mfcZB_A 3000 60 196 [29] (163, [(6, .int 0), (5, .int 0), (8, .arg 8), (7, .arg 7), (4, .arg 4), (3, .arg 3), (0, .index 338), (1, .arg 1), (2, .arg 2)], [], mfcZB_O, mfcZB_C, [])) mfcZB_ss mfcZB_rs = true := by decide +kernel
def mfcZB_r (v1_ v2 v3 v4_ v7 v8 v300 : Int32) (k_ : Nat) : Value := bif Nat.beq k_ 1 then .int v1_ else (bif Nat.beq k_ 2 then .int v2 else (bif Nat.beq k_ 3 then .int v3 else (bif Nat.beq k_ 4 then .int v4_ else (bif Nat.beq k_ 7 then .int v7 else (bif Nat.beq k_ 8 then .int v8 else (bif Nat.beq k_ 300 then .int v300 else (.int 0)))))))
def mfcZB_s (n_ : Nat) : Nat := 0
theorem mfcZB {h_ : xH} {v1_ v2 v3 v4_ v7 v8 v300 : Int32} (hs : sHp h_) (o0_ : bpat h_ 338 15 = some (.int v300)) : ∃ h', ysm h_ h' ∧ (((bpat h' 338 15 = some (.int (v300 + (0 : Int32)))) ∧ (∀ a_ j_ : Nat, ¬ (a_ = 338 ∧ j_ = 15) → bpat h' a_ j_ = bpat h_ a_ j_) ∧ (bldD 60 196 163 [(6, .int (0 : Int32)), (5, .int (0 : Int32)), (8, .int v8), (7, .int v7), (4, .int v4_), (3, .int v3), (0, .index 338), (1, .int v1_), (2, .int v2)] [] h_ 29 [(4, .int (v4_ + (1 : Int32))), (6, .int (0 : Int32)), (5, .int (0 : Int32)), (8, .int v8), (7, .int v7), (3, .int v3), (0, .index 338), (1, .int v1_), (2, .int v2)] [] h'))) := by
  have hA : yas mfcZB_A (mfcZB_r v1_ v2 v3 v4_ v7 v8 v300) (yg mfcZB_s) := ⟨fun q_ hq => absurd hq List.not_mem_nil, fun q_ hq => absurd hq List.not_mem_nil, fun q_ hq => absurd hq List.not_mem_nil, fun n_ hn => yg_lo hn, fun q_ hq => absurd hq List.not_mem_nil⟩
  have Hs : ysh mfcZB_A.1 (yg mfcZB_s) h_ := ysh_of2 hs (fun q_ hq => absurd hq List.not_mem_nil)
  have Ho : ymem (mfcZB_r v1_ v2 v3 v4_ v7 v8 v300) (yg mfcZB_s) mfcZB_O h_ := List.forall_mem_cons.mpr ⟨bpat_some o0_, fun q_ hq => absurd hq List.not_mem_nil⟩
  have HC : ∀ q_ ∈ mfcZB_C, xhold (mfcZB_r v1_ v2 v3 v4_ v7 v8 v300) q_ := fun q_ hq => absurd hq List.not_mem_nil
  rcases yrun (yis_ok mfcZB_k) hA Hs Ho HC with ⟨q_, hq, h', K_, G_⟩ | ⟨q_, hq, h', K_, G_⟩
  · have e_ := List.mem_singleton.mp hq
    subst e_
    exact ⟨h', yfr_sm K_.2.2.2 hs K_.1 (ywa_s mfcZB_w List.mem_cons_self), ⟨bpat_of (K_.2.1 _ List.mem_cons_self), fun a_ j_ n0_ => yfr_bp K_.2.2.2 (List.forall_mem_cons.mpr ⟨fun e_ => n0_ ⟨e_.1.symm, e_.2.symm⟩, fun q_ hq => absurd hq List.not_mem_nil⟩), G_⟩⟩
  · cases hq
-- mfoXC: 4 steps, 0 ends, 1 returns
def mfoXC_L : List (Nat × Nat × Nat) := []
def mfoXC_O : yO := []
def mfoXC_A : yA := (yZ mfoXC_L, [], [], [], [])
def mfoXC_C : List xB := [(.le, .arg 4, .arg 3, false)]
def mfoXC_ss : List yS := []
def mfoXC_rs : List yR := [(none, [], [(.le, .arg 4, .arg 3, false)], [])]
theorem mfoXC_w : ywa mfoXC_A mfoXC_ss mfoXC_rs = true := by decide +kernel
theorem mfoXC_k : yis (yev mfoXC_A 3000 60 196 [] (29, [(4, .arg 4), (6, .arg 6), (5, .arg 5), (8, .arg 8), (7, .arg 7), (3, .arg 3), (0, .index 338), (1, .arg 1), (2, .arg 2)], [], mfoXC_O, mfoXC_C, [])) mfoXC_ss mfoXC_rs = true := by decide +kernel
def mfoXC_r (v1_ v2 v3 v4_ v5 v6 v7 v8 : Int32) (k_ : Nat) : Value := bif Nat.beq k_ 1 then .int v1_ else (bif Nat.beq k_ 2 then .int v2 else (bif Nat.beq k_ 3 then .int v3 else (bif Nat.beq k_ 4 then .int v4_ else (bif Nat.beq k_ 5 then .int v5 else (bif Nat.beq k_ 6 then .int v6 else (bif Nat.beq k_ 7 then .int v7 else (bif Nat.beq k_ 8 then .int v8 else (.int 0))))))))
def mfoXC_s (n_ : Nat) : Nat := 0
theorem mfoXC {h_ : xH} {v1_ v2 v3 v4_ v5 v6 v7 v8 : Int32} (hs : sHp h_) (c0_ : v3.toInt < v4_.toInt) : ∃ h', ysm h_ h' ∧ (((∀ a_ j_ : Nat, bpat h' a_ j_ = bpat h_ a_ j_) ∧ (∀ D_, 60 ≤ D_ → xrun D_ 196 29 [(4, .int v4_), (6, .int v6), (5, .int v5), (8, .int v8), (7, .int v7), (3, .int v3), (0, .index 338), (1, .int v1_), (2, .int v2)] [] h_ (none, h', [])))) := by
  have hA : yas mfoXC_A (mfoXC_r v1_ v2 v3 v4_ v5 v6 v7 v8) (yg mfoXC_s) := ⟨fun q_ hq => absurd hq List.not_mem_nil, fun q_ hq => absurd hq List.not_mem_nil, fun q_ hq => absurd hq List.not_mem_nil, fun n_ hn => yg_lo hn, fun q_ hq => absurd hq List.not_mem_nil⟩
  have Hs : ysh mfoXC_A.1 (yg mfoXC_s) h_ := ysh_of2 hs (fun q_ hq => absurd hq List.not_mem_nil)
  have Ho : ymem (mfoXC_r v1_ v2 v3 v4_ v5 v6 v7 v8) (yg mfoXC_s) mfoXC_O h_ := fun q_ hq => absurd hq List.not_mem_nil
  have HC : ∀ q_ ∈ mfoXC_C, xhold (mfoXC_r v1_ v2 v3 v4_ v5 v6 v7 v8) q_ := List.forall_mem_cons.mpr ⟨xh_leF c0_, fun q_ hq => absurd hq List.not_mem_nil⟩
  rcases yrun (yis_ok mfoXC_k) hA Hs Ho HC with ⟨q_, hq, h', K_, G_⟩ | ⟨q_, hq, h', K_, G_⟩
  · cases hq
  · have e_ := List.mem_singleton.mp hq
    subst e_
    exact ⟨h', yfr_sm K_.2.2.2 hs K_.1 (ywa_r mfoXC_w List.mem_cons_self), ⟨fun a_ j_ => yfr_bp K_.2.2.2 (fun q_ hq => absurd hq List.not_mem_nil), G_⟩⟩
-- mfoWC: 5 steps, 1 ends, 0 returns
def mfoWC_L : List (Nat × Nat × Nat) := []
def mfoWC_O : yO := []
def mfoWC_A : yA := (yZ mfoWC_L, [], [], [], [])
def mfoWC_C : List xB := [(.le, .arg 4, .arg 3, true)]
def mfoWC_ss : List yS := [(38, [(4, .arg 4), (6, .arg 6), (5, .arg 5), (8, .arg 8), (7, .arg 7), (3, .arg 3), (0, .index 338), (1, .arg 1), (2, .arg 2)], [.arg 4, .index 338], [], [(.le, .arg 4, .arg 3, true)], [])]
def mfoWC_rs : List yR := []
theorem mfoWC_w : ywa mfoWC_A mfoWC_ss mfoWC_rs = true := by decide +kernel
theorem mfoWC_k : yis (yev mfoWC_A 3000 60 196 [38] (29, [(4, .arg 4), (6, .arg 6), (5, .arg 5), (8, .arg 8), (7, .arg 7), (3, .arg 3), (0, .index 338), (1, .arg 1), (2, .arg 2)], [], mfoWC_O, mfoWC_C, [])) mfoWC_ss mfoWC_rs = true := by decide +kernel
def mfoWC_r (v1_ v2 v3 v4_ v5 v6 v7 v8 : Int32) (k_ : Nat) : Value := bif Nat.beq k_ 1 then .int v1_ else (bif Nat.beq k_ 2 then .int v2 else (bif Nat.beq k_ 3 then .int v3 else (bif Nat.beq k_ 4 then .int v4_ else (bif Nat.beq k_ 5 then .int v5 else (bif Nat.beq k_ 6 then .int v6 else (bif Nat.beq k_ 7 then .int v7 else (bif Nat.beq k_ 8 then .int v8 else (.int 0))))))))
def mfoWC_s (n_ : Nat) : Nat := 0
theorem mfoWC {h_ : xH} {v1_ v2 v3 v4_ v5 v6 v7 v8 : Int32} (hs : sHp h_) (c0_ : v4_.toInt ≤ v3.toInt) : ∃ h', ysm h_ h' ∧ (((∀ a_ j_ : Nat, bpat h' a_ j_ = bpat h_ a_ j_) ∧ (bldD 60 196 29 [(4, .int v4_), (6, .int v6), (5, .int v5), (8, .int v8), (7, .int v7), (3, .int v3), (0, .index 338), (1, .int v1_), (2, .int v2)] [] h_ 38 [(4, .int v4_), (6, .int v6), (5, .int v5), (8, .int v8), (7, .int v7), (3, .int v3), (0, .index 338), (1, .int v1_), (2, .int v2)] [.int v4_, .index 338] h'))) := by
  have hA : yas mfoWC_A (mfoWC_r v1_ v2 v3 v4_ v5 v6 v7 v8) (yg mfoWC_s) := ⟨fun q_ hq => absurd hq List.not_mem_nil, fun q_ hq => absurd hq List.not_mem_nil, fun q_ hq => absurd hq List.not_mem_nil, fun n_ hn => yg_lo hn, fun q_ hq => absurd hq List.not_mem_nil⟩
  have Hs : ysh mfoWC_A.1 (yg mfoWC_s) h_ := ysh_of2 hs (fun q_ hq => absurd hq List.not_mem_nil)
  have Ho : ymem (mfoWC_r v1_ v2 v3 v4_ v5 v6 v7 v8) (yg mfoWC_s) mfoWC_O h_ := fun q_ hq => absurd hq List.not_mem_nil
  have HC : ∀ q_ ∈ mfoWC_C, xhold (mfoWC_r v1_ v2 v3 v4_ v5 v6 v7 v8) q_ := List.forall_mem_cons.mpr ⟨xh_leT c0_, fun q_ hq => absurd hq List.not_mem_nil⟩
  rcases yrun (yis_ok mfoWC_k) hA Hs Ho HC with ⟨q_, hq, h', K_, G_⟩ | ⟨q_, hq, h', K_, G_⟩
  · have e_ := List.mem_singleton.mp hq
    subst e_
    exact ⟨h', yfr_sm K_.2.2.2 hs K_.1 (ywa_s mfoWC_w List.mem_cons_self), ⟨fun a_ j_ => yfr_bp K_.2.2.2 (fun q_ hq => absurd hq List.not_mem_nil), G_⟩⟩
  · cases hq
-- mfoNC: 3 steps, 1 ends, 0 returns
def mfoNC_L : List (Nat × Nat × Nat) := []
def mfoNC_O : yO := []
def mfoNC_A : yA := (yZ mfoNC_L, [], [], [], [])
def mfoNC_C : List xB := []
def mfoNC_ss : List yS := [(29, [(4, .add (.arg 4) (.int 1)), (6, .arg 6), (5, .arg 5), (8, .arg 8), (7, .arg 7), (3, .arg 3), (0, .index 338), (1, .arg 1), (2, .arg 2)], [], [], [], [])]
def mfoNC_rs : List yR := []
theorem mfoNC_w : ywa mfoNC_A mfoNC_ss mfoNC_rs = true := by decide +kernel
theorem mfoNC_k : yis (yev mfoNC_A 3000 60 196 [29] (41, [(4, .arg 4), (6, .arg 6), (5, .arg 5), (8, .arg 8), (7, .arg 7), (3, .arg 3), (0, .index 338), (1, .arg 1), (2, .arg 2)], [.int 0], mfoNC_O, mfoNC_C, [])) mfoNC_ss mfoNC_rs = true := by decide +kernel
def mfoNC_r (v1_ v2 v3 v4_ v5 v6 v7 v8 : Int32) (k_ : Nat) : Value := bif Nat.beq k_ 1 then .int v1_ else (bif Nat.beq k_ 2 then .int v2 else (bif Nat.beq k_ 3 then .int v3 else (bif Nat.beq k_ 4 then .int v4_ else (bif Nat.beq k_ 5 then .int v5 else (bif Nat.beq k_ 6 then .int v6 else (bif Nat.beq k_ 7 then .int v7 else (bif Nat.beq k_ 8 then .int v8 else (.int 0))))))))
def mfoNC_s (n_ : Nat) : Nat := 0
theorem mfoNC {h_ : xH} {v1_ v2 v3 v4_ v5 v6 v7 v8 : Int32} (hs : sHp h_) : ∃ h', ysm h_ h' ∧ (((∀ a_ j_ : Nat, bpat h' a_ j_ = bpat h_ a_ j_) ∧ (bldD 60 196 41 [(4, .int v4_), (6, .int v6), (5, .int v5), (8, .int v8), (7, .int v7), (3, .int v3), (0, .index 338), (1, .int v1_), (2, .int v2)] [.int (0 : Int32)] h_ 29 [(4, .int (v4_ + (1 : Int32))), (6, .int v6), (5, .int v5), (8, .int v8), (7, .int v7), (3, .int v3), (0, .index 338), (1, .int v1_), (2, .int v2)] [] h'))) := by
  have hA : yas mfoNC_A (mfoNC_r v1_ v2 v3 v4_ v5 v6 v7 v8) (yg mfoNC_s) := ⟨fun q_ hq => absurd hq List.not_mem_nil, fun q_ hq => absurd hq List.not_mem_nil, fun q_ hq => absurd hq List.not_mem_nil, fun n_ hn => yg_lo hn, fun q_ hq => absurd hq List.not_mem_nil⟩
  have Hs : ysh mfoNC_A.1 (yg mfoNC_s) h_ := ysh_of2 hs (fun q_ hq => absurd hq List.not_mem_nil)
  have Ho : ymem (mfoNC_r v1_ v2 v3 v4_ v5 v6 v7 v8) (yg mfoNC_s) mfoNC_O h_ := fun q_ hq => absurd hq List.not_mem_nil
  have HC : ∀ q_ ∈ mfoNC_C, xhold (mfoNC_r v1_ v2 v3 v4_ v5 v6 v7 v8) q_ := fun q_ hq => absurd hq List.not_mem_nil
  rcases yrun (yis_ok mfoNC_k) hA Hs Ho HC with ⟨q_, hq, h', K_, G_⟩ | ⟨q_, hq, h', K_, G_⟩
  · have e_ := List.mem_singleton.mp hq
    subst e_
    exact ⟨h', yfr_sm K_.2.2.2 hs K_.1 (ywa_s mfoNC_w List.mem_cons_self), ⟨fun a_ j_ => yfr_bp K_.2.2.2 (fun q_ hq => absurd hq List.not_mem_nil), G_⟩⟩
  · cases hq
-- mfoUC: 3 steps, 1 ends, 0 returns
def mfoUC_L : List (Nat × Nat × Nat) := []
def mfoUC_O : yO := []
def mfoUC_A : yA := (yZ mfoUC_L, [], [], [], [])
def mfoUC_C : List xB := []
def mfoUC_ss : List yS := [(47, [(4, .arg 4), (6, .arg 6), (5, .arg 5), (8, .arg 8), (7, .arg 7), (3, .arg 3), (0, .index 338), (1, .arg 1), (2, .arg 2)], [.arg 4, .index 338], [], [], [])]
def mfoUC_rs : List yR := []
theorem mfoUC_w : ywa mfoUC_A mfoUC_ss mfoUC_rs = true := by decide +kernel
theorem mfoUC_k : yis (yev mfoUC_A 3000 60 196 [47] (41, [(4, .arg 4), (6, .arg 6), (5, .arg 5), (8, .arg 8), (7, .arg 7), (3, .arg 3), (0, .index 338), (1, .arg 1), (2, .arg 2)], [.int 1], mfoUC_O, mfoUC_C, [])) mfoUC_ss mfoUC_rs = true := by decide +kernel
def mfoUC_r (v1_ v2 v3 v4_ v5 v6 v7 v8 : Int32) (k_ : Nat) : Value := bif Nat.beq k_ 1 then .int v1_ else (bif Nat.beq k_ 2 then .int v2 else (bif Nat.beq k_ 3 then .int v3 else (bif Nat.beq k_ 4 then .int v4_ else (bif Nat.beq k_ 5 then .int v5 else (bif Nat.beq k_ 6 then .int v6 else (bif Nat.beq k_ 7 then .int v7 else (bif Nat.beq k_ 8 then .int v8 else (.int 0))))))))
def mfoUC_s (n_ : Nat) : Nat := 0
theorem mfoUC {h_ : xH} {v1_ v2 v3 v4_ v5 v6 v7 v8 : Int32} (hs : sHp h_) : ∃ h', ysm h_ h' ∧ (((∀ a_ j_ : Nat, bpat h' a_ j_ = bpat h_ a_ j_) ∧ (bldD 60 196 41 [(4, .int v4_), (6, .int v6), (5, .int v5), (8, .int v8), (7, .int v7), (3, .int v3), (0, .index 338), (1, .int v1_), (2, .int v2)] [.int (1 : Int32)] h_ 47 [(4, .int v4_), (6, .int v6), (5, .int v5), (8, .int v8), (7, .int v7), (3, .int v3), (0, .index 338), (1, .int v1_), (2, .int v2)] [.int v4_, .index 338] h'))) := by
  have hA : yas mfoUC_A (mfoUC_r v1_ v2 v3 v4_ v5 v6 v7 v8) (yg mfoUC_s) := ⟨fun q_ hq => absurd hq List.not_mem_nil, fun q_ hq => absurd hq List.not_mem_nil, fun q_ hq => absurd hq List.not_mem_nil, fun n_ hn => yg_lo hn, fun q_ hq => absurd hq List.not_mem_nil⟩
  have Hs : ysh mfoUC_A.1 (yg mfoUC_s) h_ := ysh_of2 hs (fun q_ hq => absurd hq List.not_mem_nil)
  have Ho : ymem (mfoUC_r v1_ v2 v3 v4_ v5 v6 v7 v8) (yg mfoUC_s) mfoUC_O h_ := fun q_ hq => absurd hq List.not_mem_nil
  have HC : ∀ q_ ∈ mfoUC_C, xhold (mfoUC_r v1_ v2 v3 v4_ v5 v6 v7 v8) q_ := fun q_ hq => absurd hq List.not_mem_nil
  rcases yrun (yis_ok mfoUC_k) hA Hs Ho HC with ⟨q_, hq, h', K_, G_⟩ | ⟨q_, hq, h', K_, G_⟩
  · have e_ := List.mem_singleton.mp hq
    subst e_
    exact ⟨h', yfr_sm K_.2.2.2 hs K_.1 (ywa_s mfoUC_w List.mem_cons_self), ⟨fun a_ j_ => yfr_bp K_.2.2.2 (fun q_ hq => absurd hq List.not_mem_nil), G_⟩⟩
  · cases hq
-- mfoMC: 3 steps, 1 ends, 0 returns
def mfoMC_L : List (Nat × Nat × Nat) := []
def mfoMC_O : yO := []
def mfoMC_A : yA := (yZ mfoMC_L, [], [], [], [])
def mfoMC_C : List xB := []
def mfoMC_ss : List yS := [(29, [(4, .add (.arg 4) (.int 1)), (6, .arg 6), (5, .arg 5), (8, .arg 8), (7, .arg 7), (3, .arg 3), (0, .index 338), (1, .arg 1), (2, .arg 2)], [], [], [], [])]
def mfoMC_rs : List yR := []
theorem mfoMC_w : ywa mfoMC_A mfoMC_ss mfoMC_rs = true := by decide +kernel
theorem mfoMC_k : yis (yev mfoMC_A 3000 60 196 [29] (50, [(4, .arg 4), (6, .arg 6), (5, .arg 5), (8, .arg 8), (7, .arg 7), (3, .arg 3), (0, .index 338), (1, .arg 1), (2, .arg 2)], [.int 0], mfoMC_O, mfoMC_C, [])) mfoMC_ss mfoMC_rs = true := by decide +kernel
def mfoMC_r (v1_ v2 v3 v4_ v5 v6 v7 v8 : Int32) (k_ : Nat) : Value := bif Nat.beq k_ 1 then .int v1_ else (bif Nat.beq k_ 2 then .int v2 else (bif Nat.beq k_ 3 then .int v3 else (bif Nat.beq k_ 4 then .int v4_ else (bif Nat.beq k_ 5 then .int v5 else (bif Nat.beq k_ 6 then .int v6 else (bif Nat.beq k_ 7 then .int v7 else (bif Nat.beq k_ 8 then .int v8 else (.int 0))))))))
def mfoMC_s (n_ : Nat) : Nat := 0
theorem mfoMC {h_ : xH} {v1_ v2 v3 v4_ v5 v6 v7 v8 : Int32} (hs : sHp h_) : ∃ h', ysm h_ h' ∧ (((∀ a_ j_ : Nat, bpat h' a_ j_ = bpat h_ a_ j_) ∧ (bldD 60 196 50 [(4, .int v4_), (6, .int v6), (5, .int v5), (8, .int v8), (7, .int v7), (3, .int v3), (0, .index 338), (1, .int v1_), (2, .int v2)] [.int (0 : Int32)] h_ 29 [(4, .int (v4_ + (1 : Int32))), (6, .int v6), (5, .int v5), (8, .int v8), (7, .int v7), (3, .int v3), (0, .index 338), (1, .int v1_), (2, .int v2)] [] h'))) := by
  have hA : yas mfoMC_A (mfoMC_r v1_ v2 v3 v4_ v5 v6 v7 v8) (yg mfoMC_s) := ⟨fun q_ hq => absurd hq List.not_mem_nil, fun q_ hq => absurd hq List.not_mem_nil, fun q_ hq => absurd hq List.not_mem_nil, fun n_ hn => yg_lo hn, fun q_ hq => absurd hq List.not_mem_nil⟩
  have Hs : ysh mfoMC_A.1 (yg mfoMC_s) h_ := ysh_of2 hs (fun q_ hq => absurd hq List.not_mem_nil)
  have Ho : ymem (mfoMC_r v1_ v2 v3 v4_ v5 v6 v7 v8) (yg mfoMC_s) mfoMC_O h_ := fun q_ hq => absurd hq List.not_mem_nil
  have HC : ∀ q_ ∈ mfoMC_C, xhold (mfoMC_r v1_ v2 v3 v4_ v5 v6 v7 v8) q_ := fun q_ hq => absurd hq List.not_mem_nil
  rcases yrun (yis_ok mfoMC_k) hA Hs Ho HC with ⟨q_, hq, h', K_, G_⟩ | ⟨q_, hq, h', K_, G_⟩
  · have e_ := List.mem_singleton.mp hq
    subst e_
    exact ⟨h', yfr_sm K_.2.2.2 hs K_.1 (ywa_s mfoMC_w List.mem_cons_self), ⟨fun a_ j_ => yfr_bp K_.2.2.2 (fun q_ hq => absurd hq List.not_mem_nil), G_⟩⟩
  · cases hq
-- mfoPC: 6 steps, 1 ends, 0 returns
def mfoPC_L : List (Nat × Nat × Nat) := []
def mfoPC_O : yO := [(338, .int 4, .index 342)]
def mfoPC_A : yA := (yZ mfoPC_L, [], [], [], [])
def mfoPC_C : List xB := []
def mfoPC_ss : List yS := [(61, [(4, .arg 4), (6, .arg 6), (5, .arg 5), (8, .arg 8), (7, .arg 7), (3, .arg 3), (0, .index 338), (1, .arg 1), (2, .arg 2)], [.index 342, .arg 4, .arg 1, .index 338], [(338, .int 4, .index 342)], [], [])]
def mfoPC_rs : List yR := []
theorem mfoPC_w : ywa mfoPC_A mfoPC_ss mfoPC_rs = true := by decide +kernel
theorem mfoPC_k : yis (yev mfoPC_A 3000 60 196 [61] (50, [(4, .arg 4), (6, .arg 6), (5, .arg 5), (8, .arg 8), (7, .arg 7), (3, .arg 3), (0, .index 338), (1, .arg 1), (2, .arg 2)], [.int 1], mfoPC_O, mfoPC_C, [])) mfoPC_ss mfoPC_rs = true := by decide +kernel
def mfoPC_r (v1_ v2 v3 v4_ v5 v6 v7 v8 : Int32) (k_ : Nat) : Value := bif Nat.beq k_ 1 then .int v1_ else (bif Nat.beq k_ 2 then .int v2 else (bif Nat.beq k_ 3 then .int v3 else (bif Nat.beq k_ 4 then .int v4_ else (bif Nat.beq k_ 5 then .int v5 else (bif Nat.beq k_ 6 then .int v6 else (bif Nat.beq k_ 7 then .int v7 else (bif Nat.beq k_ 8 then .int v8 else (.int 0))))))))
def mfoPC_s (n_ : Nat) : Nat := 0
theorem mfoPC {h_ : xH} {v1_ v2 v3 v4_ v5 v6 v7 v8 : Int32} (hs : sHp h_) : ∃ h', ysm h_ h' ∧ (((∀ a_ j_ : Nat, bpat h' a_ j_ = bpat h_ a_ j_) ∧ (bldD 60 196 50 [(4, .int v4_), (6, .int v6), (5, .int v5), (8, .int v8), (7, .int v7), (3, .int v3), (0, .index 338), (1, .int v1_), (2, .int v2)] [.int (1 : Int32)] h_ 61 [(4, .int v4_), (6, .int v6), (5, .int v5), (8, .int v8), (7, .int v7), (3, .int v3), (0, .index 338), (1, .int v1_), (2, .int v2)] [.index 342, .int v4_, .int v1_, .index 338] h'))) := by
  have hA : yas mfoPC_A (mfoPC_r v1_ v2 v3 v4_ v5 v6 v7 v8) (yg mfoPC_s) := ⟨fun q_ hq => absurd hq List.not_mem_nil, fun q_ hq => absurd hq List.not_mem_nil, fun q_ hq => absurd hq List.not_mem_nil, fun n_ hn => yg_lo hn, fun q_ hq => absurd hq List.not_mem_nil⟩
  have Hs : ysh mfoPC_A.1 (yg mfoPC_s) h_ := ysh_of2 hs (fun q_ hq => absurd hq List.not_mem_nil)
  have Ho : ymem (mfoPC_r v1_ v2 v3 v4_ v5 v6 v7 v8) (yg mfoPC_s) mfoPC_O h_ := List.forall_mem_cons.mpr ⟨bpat_some (fxr_at hs.2 (show fxk fxl 338 4 = some 342 by decide +kernel)), fun q_ hq => absurd hq List.not_mem_nil⟩
  have HC : ∀ q_ ∈ mfoPC_C, xhold (mfoPC_r v1_ v2 v3 v4_ v5 v6 v7 v8) q_ := fun q_ hq => absurd hq List.not_mem_nil
  rcases yrun (yis_ok mfoPC_k) hA Hs Ho HC with ⟨q_, hq, h', K_, G_⟩ | ⟨q_, hq, h', K_, G_⟩
  · have e_ := List.mem_singleton.mp hq
    subst e_
    exact ⟨h', yfr_sm K_.2.2.2 hs K_.1 (ywa_s mfoPC_w List.mem_cons_self), ⟨fun a_ j_ => yfr_bp K_.2.2.2 (fun q_ hq => absurd hq List.not_mem_nil), G_⟩⟩
  · cases hq
-- mfoQC: 4 steps, 1 ends, 0 returns
def mfoQC_L : List (Nat × Nat × Nat) := []
def mfoQC_O : yO := []
def mfoQC_A : yA := (yZ mfoQC_L, [], [], [], [])
def mfoQC_C : List xB := []
def mfoQC_ss : List yS := [(70, [(6, .int 0), (5, .int 1), (4, .arg 4), (8, .arg 8), (7, .arg 7), (3, .arg 3), (0, .index 338), (1, .arg 1), (2, .arg 2)], [], [], [], [])]
def mfoQC_rs : List yR := []
theorem mfoQC_w : ywa mfoQC_A mfoQC_ss mfoQC_rs = true := by decide +kernel
theorem mfoQC_k : yis (yev mfoQC_A 3000 60 196 [70] (64, [(4, .arg 4), (6, .arg 6), (5, .arg 5), (8, .arg 8), (7, .arg 7), (3, .arg 3), (0, .index 338), (1, .arg 1), (2, .arg 2)], [], mfoQC_O, mfoQC_C, [])) mfoQC_ss mfoQC_rs = true := by decide +kernel
def mfoQC_r (v1_ v2 v3 v4_ v5 v6 v7 v8 : Int32) (k_ : Nat) : Value := bif Nat.beq k_ 1 then .int v1_ else (bif Nat.beq k_ 2 then .int v2 else (bif Nat.beq k_ 3 then .int v3 else (bif Nat.beq k_ 4 then .int v4_ else (bif Nat.beq k_ 5 then .int v5 else (bif Nat.beq k_ 6 then .int v6 else (bif Nat.beq k_ 7 then .int v7 else (bif Nat.beq k_ 8 then .int v8 else (.int 0))))))))
def mfoQC_s (n_ : Nat) : Nat := 0
theorem mfoQC {h_ : xH} {v1_ v2 v3 v4_ v5 v6 v7 v8 : Int32} (hs : sHp h_) : ∃ h', ysm h_ h' ∧ (((∀ a_ j_ : Nat, bpat h' a_ j_ = bpat h_ a_ j_) ∧ (bldD 60 196 64 [(4, .int v4_), (6, .int v6), (5, .int v5), (8, .int v8), (7, .int v7), (3, .int v3), (0, .index 338), (1, .int v1_), (2, .int v2)] [] h_ 70 [(6, .int (0 : Int32)), (5, .int (1 : Int32)), (4, .int v4_), (8, .int v8), (7, .int v7), (3, .int v3), (0, .index 338), (1, .int v1_), (2, .int v2)] [] h'))) := by
  have hA : yas mfoQC_A (mfoQC_r v1_ v2 v3 v4_ v5 v6 v7 v8) (yg mfoQC_s) := ⟨fun q_ hq => absurd hq List.not_mem_nil, fun q_ hq => absurd hq List.not_mem_nil, fun q_ hq => absurd hq List.not_mem_nil, fun n_ hn => yg_lo hn, fun q_ hq => absurd hq List.not_mem_nil⟩
  have Hs : ysh mfoQC_A.1 (yg mfoQC_s) h_ := ysh_of2 hs (fun q_ hq => absurd hq List.not_mem_nil)
  have Ho : ymem (mfoQC_r v1_ v2 v3 v4_ v5 v6 v7 v8) (yg mfoQC_s) mfoQC_O h_ := fun q_ hq => absurd hq List.not_mem_nil
  have HC : ∀ q_ ∈ mfoQC_C, xhold (mfoQC_r v1_ v2 v3 v4_ v5 v6 v7 v8) q_ := fun q_ hq => absurd hq List.not_mem_nil
  rcases yrun (yis_ok mfoQC_k) hA Hs Ho HC with ⟨q_, hq, h', K_, G_⟩ | ⟨q_, hq, h', K_, G_⟩
  · have e_ := List.mem_singleton.mp hq
    subst e_
    exact ⟨h', yfr_sm K_.2.2.2 hs K_.1 (ywa_s mfoQC_w List.mem_cons_self), ⟨fun a_ j_ => yfr_bp K_.2.2.2 (fun q_ hq => absurd hq List.not_mem_nil), G_⟩⟩
  · cases hq
-- mfmXC: 6 steps, 1 ends, 0 returns
def mfmXC_L : List (Nat × Nat × Nat) := []
def mfmXC_O : yO := [(338, .int 15, .arg 300)]
def mfmXC_A : yA := (yZ mfmXC_L, [], [], [], [])
def mfmXC_C : List xB := [(.lt, .arg 6, .arg 300, false)]
def mfmXC_ss : List yS := [(163, [(6, .int 0), (5, .arg 5), (4, .arg 4), (8, .arg 8), (7, .arg 7), (3, .arg 3), (0, .index 338), (1, .arg 1), (2, .arg 2)], [], [(338, .int 15, .arg 300)], [(.lt, .arg 6, .arg 300, false)], [])]
def mfmXC_rs : List yR := []
theorem mfmXC_w : ywa mfmXC_A mfmXC_ss mfmXC_rs = true := by decide +kernel
theorem mfmXC_k : yis (yev mfmXC_A 3000 60 196 [163] (70, [(6, .arg 6), (5, .arg 5), (4, .arg 4), (8, .arg 8), (7, .arg 7), (3, .arg 3), (0, .index 338), (1, .arg 1), (2, .arg 2)], [], mfmXC_O, mfmXC_C, [])) mfmXC_ss mfmXC_rs = true := by decide +kernel
def mfmXC_r (v1_ v2 v3 v4_ v5 v6 v7 v8 v300 : Int32) (k_ : Nat) : Value := bif Nat.beq k_ 1 then .int v1_ else (bif Nat.beq k_ 2 then .int v2 else (bif Nat.beq k_ 3 then .int v3 else (bif Nat.beq k_ 4 then .int v4_ else (bif Nat.beq k_ 5 then .int v5 else (bif Nat.beq k_ 6 then .int v6 else (bif Nat.beq k_ 7 then .int v7 else (bif Nat.beq k_ 8 then .int v8 else (bif Nat.beq k_ 300 then .int v300 else (.int 0)))))))))
def mfmXC_s (n_ : Nat) : Nat := 0
theorem mfmXC {h_ : xH} {v1_ v2 v3 v4_ v5 v6 v7 v8 v300 : Int32} (hs : sHp h_) (o0_ : bpat h_ 338 15 = some (.int v300)) (c0_ : v300.toInt ≤ v6.toInt) : ∃ h', ysm h_ h' ∧ (((∀ a_ j_ : Nat, bpat h' a_ j_ = bpat h_ a_ j_) ∧ (bldD 60 196 70 [(6, .int v6), (5, .int v5), (4, .int v4_), (8, .int v8), (7, .int v7), (3, .int v3), (0, .index 338), (1, .int v1_), (2, .int v2)] [] h_ 163 [(6, .int (0 : Int32)), (5, .int v5), (4, .int v4_), (8, .int v8), (7, .int v7), (3, .int v3), (0, .index 338), (1, .int v1_), (2, .int v2)] [] h'))) := by
  have hA : yas mfmXC_A (mfmXC_r v1_ v2 v3 v4_ v5 v6 v7 v8 v300) (yg mfmXC_s) := ⟨fun q_ hq => absurd hq List.not_mem_nil, fun q_ hq => absurd hq List.not_mem_nil, fun q_ hq => absurd hq List.not_mem_nil, fun n_ hn => yg_lo hn, fun q_ hq => absurd hq List.not_mem_nil⟩
  have Hs : ysh mfmXC_A.1 (yg mfmXC_s) h_ := ysh_of2 hs (fun q_ hq => absurd hq List.not_mem_nil)
  have Ho : ymem (mfmXC_r v1_ v2 v3 v4_ v5 v6 v7 v8 v300) (yg mfmXC_s) mfmXC_O h_ := List.forall_mem_cons.mpr ⟨bpat_some o0_, fun q_ hq => absurd hq List.not_mem_nil⟩
  have HC : ∀ q_ ∈ mfmXC_C, xhold (mfmXC_r v1_ v2 v3 v4_ v5 v6 v7 v8 v300) q_ := List.forall_mem_cons.mpr ⟨xh_ltF c0_, fun q_ hq => absurd hq List.not_mem_nil⟩
  rcases yrun (yis_ok mfmXC_k) hA Hs Ho HC with ⟨q_, hq, h', K_, G_⟩ | ⟨q_, hq, h', K_, G_⟩
  · have e_ := List.mem_singleton.mp hq
    subst e_
    exact ⟨h', yfr_sm K_.2.2.2 hs K_.1 (ywa_s mfmXC_w List.mem_cons_self), ⟨fun a_ j_ => yfr_bp K_.2.2.2 (fun q_ hq => absurd hq List.not_mem_nil), G_⟩⟩
  · cases hq
-- mfmZC: 8 steps, 1 ends, 0 returns
def mfmZC_L : List (Nat × Nat × Nat) := []
def mfmZC_O : yO := [(338, .int 15, .arg 300)]
def mfmZC_A : yA := (yZ mfmZC_L, [], [], [], [])
def mfmZC_C : List xB := [(.lt, .arg 6, .arg 300, true)]
def mfmZC_ss : List yS := [(163, [(6, .int 0), (5, .int 0), (4, .arg 4), (8, .arg 8), (7, .arg 7), (3, .arg 3), (0, .index 338), (1, .arg 1), (2, .arg 2)], [], [(338, .int 15, .arg 300)], [(.lt, .arg 6, .arg 300, true)], [])]
def mfmZC_rs : List yR := []
theorem mfmZC_w : ywa mfmZC_A mfmZC_ss mfmZC_rs = true := by decide +kernel
theorem mfmZC_k : yis (yev mfmZC_A 3000 60 196 [163] (70, [(6, .arg 6), (5, .int 0), (4, .arg 4), (8, .arg 8), (7, .arg 7), (3, .arg 3), (0, .index 338), (1, .arg 1), (2, .arg 2)], [], mfmZC_O, mfmZC_C, [])) mfmZC_ss mfmZC_rs = true := by decide +kernel
def mfmZC_r (v1_ v2 v3 v4_ v6 v7 v8 v300 : Int32) (k_ : Nat) : Value := bif Nat.beq k_ 1 then .int v1_ else (bif Nat.beq k_ 2 then .int v2 else (bif Nat.beq k_ 3 then .int v3 else (bif Nat.beq k_ 4 then .int v4_ else (bif Nat.beq k_ 6 then .int v6 else (bif Nat.beq k_ 7 then .int v7 else (bif Nat.beq k_ 8 then .int v8 else (bif Nat.beq k_ 300 then .int v300 else (.int 0))))))))
def mfmZC_s (n_ : Nat) : Nat := 0
theorem mfmZC {h_ : xH} {v1_ v2 v3 v4_ v6 v7 v8 v300 : Int32} (hs : sHp h_) (o0_ : bpat h_ 338 15 = some (.int v300)) (c0_ : v6.toInt < v300.toInt) : ∃ h', ysm h_ h' ∧ (((∀ a_ j_ : Nat, bpat h' a_ j_ = bpat h_ a_ j_) ∧ (bldD 60 196 70 [(6, .int v6), (5, .int (0 : Int32)), (4, .int v4_), (8, .int v8), (7, .int v7), (3, .int v3), (0, .index 338), (1, .int v1_), (2, .int v2)] [] h_ 163 [(6, .int (0 : Int32)), (5, .int (0 : Int32)), (4, .int v4_), (8, .int v8), (7, .int v7), (3, .int v3), (0, .index 338), (1, .int v1_), (2, .int v2)] [] h'))) := by
  have hA : yas mfmZC_A (mfmZC_r v1_ v2 v3 v4_ v6 v7 v8 v300) (yg mfmZC_s) := ⟨fun q_ hq => absurd hq List.not_mem_nil, fun q_ hq => absurd hq List.not_mem_nil, fun q_ hq => absurd hq List.not_mem_nil, fun n_ hn => yg_lo hn, fun q_ hq => absurd hq List.not_mem_nil⟩
  have Hs : ysh mfmZC_A.1 (yg mfmZC_s) h_ := ysh_of2 hs (fun q_ hq => absurd hq List.not_mem_nil)
  have Ho : ymem (mfmZC_r v1_ v2 v3 v4_ v6 v7 v8 v300) (yg mfmZC_s) mfmZC_O h_ := List.forall_mem_cons.mpr ⟨bpat_some o0_, fun q_ hq => absurd hq List.not_mem_nil⟩
  have HC : ∀ q_ ∈ mfmZC_C, xhold (mfmZC_r v1_ v2 v3 v4_ v6 v7 v8 v300) q_ := List.forall_mem_cons.mpr ⟨xh_ltT c0_, fun q_ hq => absurd hq List.not_mem_nil⟩
  rcases yrun (yis_ok mfmZC_k) hA Hs Ho HC with ⟨q_, hq, h', K_, G_⟩ | ⟨q_, hq, h', K_, G_⟩
  · have e_ := List.mem_singleton.mp hq
    subst e_
    exact ⟨h', yfr_sm K_.2.2.2 hs K_.1 (ywa_s mfmZC_w List.mem_cons_self), ⟨fun a_ j_ => yfr_bp K_.2.2.2 (fun q_ hq => absurd hq List.not_mem_nil), G_⟩⟩
  · cases hq
-- mfmTC: 10 steps, 1 ends, 0 returns
def mfmTC_L : List (Nat × Nat × Nat) := []
def mfmTC_O : yO := [(338, .int 15, .arg 300)]
def mfmTC_A : yA := (yZ mfmTC_L, [], [], [], [])
def mfmTC_C : List xB := [(.lt, .arg 6, .arg 300, true)]
def mfmTC_ss : List yS := [(90, [(8, .int 0), (7, .int 1), (6, .arg 6), (5, .int 1), (4, .arg 4), (3, .arg 3), (0, .index 338), (1, .arg 1), (2, .arg 2)], [], [(338, .int 15, .arg 300)], [(.lt, .arg 6, .arg 300, true)], [])]
def mfmTC_rs : List yR := []
theorem mfmTC_w : ywa mfmTC_A mfmTC_ss mfmTC_rs = true := by decide +kernel
theorem mfmTC_k : yis (yev mfmTC_A 3000 60 196 [90] (70, [(6, .arg 6), (5, .int 1), (4, .arg 4), (8, .arg 8), (7, .arg 7), (3, .arg 3), (0, .index 338), (1, .arg 1), (2, .arg 2)], [], mfmTC_O, mfmTC_C, [])) mfmTC_ss mfmTC_rs = true := by decide +kernel
def mfmTC_r (v1_ v2 v3 v4_ v6 v7 v8 v300 : Int32) (k_ : Nat) : Value := bif Nat.beq k_ 1 then .int v1_ else (bif Nat.beq k_ 2 then .int v2 else (bif Nat.beq k_ 3 then .int v3 else (bif Nat.beq k_ 4 then .int v4_ else (bif Nat.beq k_ 6 then .int v6 else (bif Nat.beq k_ 7 then .int v7 else (bif Nat.beq k_ 8 then .int v8 else (bif Nat.beq k_ 300 then .int v300 else (.int 0))))))))
def mfmTC_s (n_ : Nat) : Nat := 0
theorem mfmTC {h_ : xH} {v1_ v2 v3 v4_ v6 v7 v8 v300 : Int32} (hs : sHp h_) (o0_ : bpat h_ 338 15 = some (.int v300)) (c0_ : v6.toInt < v300.toInt) : ∃ h', ysm h_ h' ∧ (((∀ a_ j_ : Nat, bpat h' a_ j_ = bpat h_ a_ j_) ∧ (bldD 60 196 70 [(6, .int v6), (5, .int (1 : Int32)), (4, .int v4_), (8, .int v8), (7, .int v7), (3, .int v3), (0, .index 338), (1, .int v1_), (2, .int v2)] [] h_ 90 [(8, .int (0 : Int32)), (7, .int (1 : Int32)), (6, .int v6), (5, .int (1 : Int32)), (4, .int v4_), (3, .int v3), (0, .index 338), (1, .int v1_), (2, .int v2)] [] h'))) := by
  have hA : yas mfmTC_A (mfmTC_r v1_ v2 v3 v4_ v6 v7 v8 v300) (yg mfmTC_s) := ⟨fun q_ hq => absurd hq List.not_mem_nil, fun q_ hq => absurd hq List.not_mem_nil, fun q_ hq => absurd hq List.not_mem_nil, fun n_ hn => yg_lo hn, fun q_ hq => absurd hq List.not_mem_nil⟩
  have Hs : ysh mfmTC_A.1 (yg mfmTC_s) h_ := ysh_of2 hs (fun q_ hq => absurd hq List.not_mem_nil)
  have Ho : ymem (mfmTC_r v1_ v2 v3 v4_ v6 v7 v8 v300) (yg mfmTC_s) mfmTC_O h_ := List.forall_mem_cons.mpr ⟨bpat_some o0_, fun q_ hq => absurd hq List.not_mem_nil⟩
  have HC : ∀ q_ ∈ mfmTC_C, xhold (mfmTC_r v1_ v2 v3 v4_ v6 v7 v8 v300) q_ := List.forall_mem_cons.mpr ⟨xh_ltT c0_, fun q_ hq => absurd hq List.not_mem_nil⟩
  rcases yrun (yis_ok mfmTC_k) hA Hs Ho HC with ⟨q_, hq, h', K_, G_⟩ | ⟨q_, hq, h', K_, G_⟩
  · have e_ := List.mem_singleton.mp hq
    subst e_
    exact ⟨h', yfr_sm K_.2.2.2 hs K_.1 (ywa_s mfmTC_w List.mem_cons_self), ⟨fun a_ j_ => yfr_bp K_.2.2.2 (fun q_ hq => absurd hq List.not_mem_nil), G_⟩⟩
  · cases hq
-- mfcTC: 20 steps, 1 ends, 0 returns
def mfcTC_L : List (Nat × Nat × Nat) := []
def mfcTC_O : yO := [(338, .int 14, .index 348), (338, .int 15, .arg 300), (338, .int 4, .index 342), (342, .arg 6, .arg 301)]
def mfcTC_A : yA := (yZ mfcTC_L, [(.add (.mul (.int 13) (.arg 300)) (.arg 6), 1040), (.arg 6, 13)], [], [], [])
def mfcTC_C : List xB := [(.lt, .arg 6, .int 13, true)]
def mfcTC_ss : List yS := [(163, [(6, .add (.arg 6) (.int 1)), (5, .int 1), (4, .arg 4), (8, .arg 8), (7, .arg 7), (3, .arg 3), (0, .index 338), (1, .arg 1), (2, .arg 2)], [], [(348, .add (.mul (.int 13) (.arg 300)) (.arg 6), .arg 301), (338, .int 14, .index 348), (338, .int 15, .arg 300), (338, .int 4, .index 342), (342, .arg 6, .arg 301)], [(.lt, .arg 6, .int 13, true)], [(348, .add (.mul (.int 13) (.arg 300)) (.arg 6))])]
def mfcTC_rs : List yR := []
theorem mfcTC_w : ywa mfcTC_A mfcTC_ss mfcTC_rs = true := by decide +kernel
theorem mfcTC_k : yis (yev mfcTC_A 3000 60 196 [163] (163, [(6, .arg 6), (5, .int 1), (4, .arg 4), (8, .arg 8), (7, .arg 7), (3, .arg 3), (0, .index 338), (1, .arg 1), (2, .arg 2)], [], mfcTC_O, mfcTC_C, [])) mfcTC_ss mfcTC_rs = true := by decide +kernel
def mfcTC_r (v1_ v2 v3 v4_ v6 v7 v8 v300 v301 : Int32) (k_ : Nat) : Value := bif Nat.beq k_ 1 then .int v1_ else (bif Nat.beq k_ 2 then .int v2 else (bif Nat.beq k_ 3 then .int v3 else (bif Nat.beq k_ 4 then .int v4_ else (bif Nat.beq k_ 6 then .int v6 else (bif Nat.beq k_ 7 then .int v7 else (bif Nat.beq k_ 8 then .int v8 else (bif Nat.beq k_ 300 then .int v300 else (bif Nat.beq k_ 301 then .int v301 else (.int 0)))))))))
def mfcTC_s (n_ : Nat) : Nat := 0
theorem mfcTC {h_ : xH} {v1_ v2 v3 v4_ v6 v7 v8 v300 v301 : Int32} (hs : sHp h_) (o0_ : bpat h_ 338 15 = some (.int v300)) (o1 : bpat h_ 342 (v6).toInt.toNat = some (.int v301)) (b0 : 0 ≤ ((((13 : Int32) * v300) + v6)).toInt ∧ ((((13 : Int32) * v300) + v6)).toInt < 1040) (b1 : 0 ≤ (v6).toInt ∧ (v6).toInt < 13) (c0_ : v6.toInt < (13 : Int32).toInt) : ∃ h', ysm h_ h' ∧ (((bpat h' 348 ((((13 : Int32) * v300) + v6)).toInt.toNat = some (.int v301)) ∧ (∀ a_ j_ : Nat, ¬ (a_ = 348 ∧ j_ = ((((13 : Int32) * v300) + v6)).toInt.toNat) → bpat h' a_ j_ = bpat h_ a_ j_) ∧ (bldD 60 196 163 [(6, .int v6), (5, .int (1 : Int32)), (4, .int v4_), (8, .int v8), (7, .int v7), (3, .int v3), (0, .index 338), (1, .int v1_), (2, .int v2)] [] h_ 163 [(6, .int (v6 + (1 : Int32))), (5, .int (1 : Int32)), (4, .int v4_), (8, .int v8), (7, .int v7), (3, .int v3), (0, .index 338), (1, .int v1_), (2, .int v2)] [] h'))) := by
  have hA : yas mfcTC_A (mfcTC_r v1_ v2 v3 v4_ v6 v7 v8 v300 v301) (yg mfcTC_s) := ⟨List.forall_mem_cons.mpr ⟨b0, List.forall_mem_cons.mpr ⟨b1, fun q_ hq => absurd hq List.not_mem_nil⟩⟩, fun q_ hq => absurd hq List.not_mem_nil, fun q_ hq => absurd hq List.not_mem_nil, fun n_ hn => yg_lo hn, fun q_ hq => absurd hq List.not_mem_nil⟩
  have Hs : ysh mfcTC_A.1 (yg mfcTC_s) h_ := ysh_of2 hs (fun q_ hq => absurd hq List.not_mem_nil)
  have Ho : ymem (mfcTC_r v1_ v2 v3 v4_ v6 v7 v8 v300 v301) (yg mfcTC_s) mfcTC_O h_ := List.forall_mem_cons.mpr ⟨bpat_some (fxr_at hs.2 (show fxk fxl 338 14 = some 348 by decide +kernel)), List.forall_mem_cons.mpr ⟨bpat_some o0_, List.forall_mem_cons.mpr ⟨bpat_some (fxr_at hs.2 (show fxk fxl 338 4 = some 342 by decide +kernel)), List.forall_mem_cons.mpr ⟨bpat_some o1, fun q_ hq => absurd hq List.not_mem_nil⟩⟩⟩⟩
  have HC : ∀ q_ ∈ mfcTC_C, xhold (mfcTC_r v1_ v2 v3 v4_ v6 v7 v8 v300 v301) q_ := List.forall_mem_cons.mpr ⟨xh_ltT c0_, fun q_ hq => absurd hq List.not_mem_nil⟩
  rcases yrun (yis_ok mfcTC_k) hA Hs Ho HC with ⟨q_, hq, h', K_, G_⟩ | ⟨q_, hq, h', K_, G_⟩
  · have e_ := List.mem_singleton.mp hq
    subst e_
    exact ⟨h', yfr_sm K_.2.2.2 hs K_.1 (ywa_s mfcTC_w List.mem_cons_self), ⟨bpat_of (K_.2.1 _ List.mem_cons_self), fun a_ j_ n0_ => yfr_bp K_.2.2.2 (List.forall_mem_cons.mpr ⟨fun e_ => n0_ ⟨e_.1.symm, e_.2.symm⟩, fun q_ hq => absurd hq List.not_mem_nil⟩), G_⟩⟩
  · cases hq
-- mfcXC: 14 steps, 1 ends, 0 returns
def mfcXC_L : List (Nat × Nat × Nat) := []
def mfcXC_O : yO := [(338, .int 15, .arg 300)]
def mfcXC_A : yA := (yZ mfcXC_L, [], [], [], [])
def mfcXC_C : List xB := [(.lt, .arg 6, .int 13, false)]
def mfcXC_ss : List yS := [(29, [(4, .add (.arg 4) (.int 1)), (6, .arg 6), (5, .int 1), (8, .arg 8), (7, .arg 7), (3, .arg 3), (0, .index 338), (1, .arg 1), (2, .arg 2)], [], [(338, .int 15, .add (.arg 300) (.int 1))], [(.lt, .arg 6, .int 13, false)], [(338, .int 15)])]
def mfcXC_rs : List yR := []
theorem mfcXC_w : ywa mfcXC_A mfcXC_ss mfcXC_rs = true := by decide +kernel
theorem mfcXC_k : yis (yev mfcXC_A 3000 60 196 [29] (163, [(6, .arg 6), (5, .int 1), (4, .arg 4), (8, .arg 8), (7, .arg 7), (3, .arg 3), (0, .index 338), (1, .arg 1), (2, .arg 2)], [], mfcXC_O, mfcXC_C, [])) mfcXC_ss mfcXC_rs = true := by decide +kernel
def mfcXC_r (v1_ v2 v3 v4_ v6 v7 v8 v300 : Int32) (k_ : Nat) : Value := bif Nat.beq k_ 1 then .int v1_ else (bif Nat.beq k_ 2 then .int v2 else (bif Nat.beq k_ 3 then .int v3 else (bif Nat.beq k_ 4 then .int v4_ else (bif Nat.beq k_ 6 then .int v6 else (bif Nat.beq k_ 7 then .int v7 else (bif Nat.beq k_ 8 then .int v8 else (bif Nat.beq k_ 300 then .int v300 else (.int 0))))))))
def mfcXC_s (n_ : Nat) : Nat := 0
theorem mfcXC {h_ : xH} {v1_ v2 v3 v4_ v6 v7 v8 v300 : Int32} (hs : sHp h_) (o0_ : bpat h_ 338 15 = some (.int v300)) (c0_ : (13 : Int32).toInt ≤ v6.toInt) : ∃ h', ysm h_ h' ∧ (((bpat h' 338 15 = some (.int (v300 + (1 : Int32)))) ∧ (∀ a_ j_ : Nat, ¬ (a_ = 338 ∧ j_ = 15) → bpat h' a_ j_ = bpat h_ a_ j_) ∧ (bldD 60 196 163 [(6, .int v6), (5, .int (1 : Int32)), (4, .int v4_), (8, .int v8), (7, .int v7), (3, .int v3), (0, .index 338), (1, .int v1_), (2, .int v2)] [] h_ 29 [(4, .int (v4_ + (1 : Int32))), (6, .int v6), (5, .int (1 : Int32)), (8, .int v8), (7, .int v7), (3, .int v3), (0, .index 338), (1, .int v1_), (2, .int v2)] [] h'))) := by
  have hA : yas mfcXC_A (mfcXC_r v1_ v2 v3 v4_ v6 v7 v8 v300) (yg mfcXC_s) := ⟨fun q_ hq => absurd hq List.not_mem_nil, fun q_ hq => absurd hq List.not_mem_nil, fun q_ hq => absurd hq List.not_mem_nil, fun n_ hn => yg_lo hn, fun q_ hq => absurd hq List.not_mem_nil⟩
  have Hs : ysh mfcXC_A.1 (yg mfcXC_s) h_ := ysh_of2 hs (fun q_ hq => absurd hq List.not_mem_nil)
  have Ho : ymem (mfcXC_r v1_ v2 v3 v4_ v6 v7 v8 v300) (yg mfcXC_s) mfcXC_O h_ := List.forall_mem_cons.mpr ⟨bpat_some o0_, fun q_ hq => absurd hq List.not_mem_nil⟩
  have HC : ∀ q_ ∈ mfcXC_C, xhold (mfcXC_r v1_ v2 v3 v4_ v6 v7 v8 v300) q_ := List.forall_mem_cons.mpr ⟨xh_ltF c0_, fun q_ hq => absurd hq List.not_mem_nil⟩
  rcases yrun (yis_ok mfcXC_k) hA Hs Ho HC with ⟨q_, hq, h', K_, G_⟩ | ⟨q_, hq, h', K_, G_⟩
  · have e_ := List.mem_singleton.mp hq
    subst e_
    exact ⟨h', yfr_sm K_.2.2.2 hs K_.1 (ywa_s mfcXC_w List.mem_cons_self), ⟨bpat_of (K_.2.1 _ List.mem_cons_self), fun a_ j_ n0_ => yfr_bp K_.2.2.2 (List.forall_mem_cons.mpr ⟨fun e_ => n0_ ⟨e_.1.symm, e_.2.symm⟩, fun q_ hq => absurd hq List.not_mem_nil⟩), G_⟩⟩
  · cases hq
-- mfcZC: 15 steps, 1 ends, 0 returns
def mfcZC_L : List (Nat × Nat × Nat) := []
def mfcZC_O : yO := [(338, .int 15, .arg 300)]
def mfcZC_A : yA := (yZ mfcZC_L, [], [], [], [])
def mfcZC_C : List xB := []
def mfcZC_ss : List yS := [(29, [(4, .add (.arg 4) (.int 1)), (6, .int 0), (5, .int 0), (8, .arg 8), (7, .arg 7), (3, .arg 3), (0, .index 338), (1, .arg 1), (2, .arg 2)], [], [(338, .int 15, .add (.arg 300) (.int 0))], [], [(338, .int 15)])]
def mfcZC_rs : List yR := []
theorem mfcZC_w : ywa mfcZC_A mfcZC_ss mfcZC_rs = true := by decide +kernel
theorem mfcZC_k : yis (yev mfcZC_A 3000 60 196 [29] (163, [(6, .int 0), (5, .int 0), (4, .arg 4), (8, .arg 8), (7, .arg 7), (3, .arg 3), (0, .index 338), (1, .arg 1), (2, .arg 2)], [], mfcZC_O, mfcZC_C, [])) mfcZC_ss mfcZC_rs = true := by decide +kernel
def mfcZC_r (v1_ v2 v3 v4_ v7 v8 v300 : Int32) (k_ : Nat) : Value := bif Nat.beq k_ 1 then .int v1_ else (bif Nat.beq k_ 2 then .int v2 else (bif Nat.beq k_ 3 then .int v3 else (bif Nat.beq k_ 4 then .int v4_ else (bif Nat.beq k_ 7 then .int v7 else (bif Nat.beq k_ 8 then .int v8 else (bif Nat.beq k_ 300 then .int v300 else (.int 0)))))))
def mfcZC_s (n_ : Nat) : Nat := 0
theorem mfcZC {h_ : xH} {v1_ v2 v3 v4_ v7 v8 v300 : Int32} (hs : sHp h_) (o0_ : bpat h_ 338 15 = some (.int v300)) : ∃ h', ysm h_ h' ∧ (((bpat h' 338 15 = some (.int (v300 + (0 : Int32)))) ∧ (∀ a_ j_ : Nat, ¬ (a_ = 338 ∧ j_ = 15) → bpat h' a_ j_ = bpat h_ a_ j_) ∧ (bldD 60 196 163 [(6, .int (0 : Int32)), (5, .int (0 : Int32)), (4, .int v4_), (8, .int v8), (7, .int v7), (3, .int v3), (0, .index 338), (1, .int v1_), (2, .int v2)] [] h_ 29 [(4, .int (v4_ + (1 : Int32))), (6, .int (0 : Int32)), (5, .int (0 : Int32)), (8, .int v8), (7, .int v7), (3, .int v3), (0, .index 338), (1, .int v1_), (2, .int v2)] [] h'))) := by
  have hA : yas mfcZC_A (mfcZC_r v1_ v2 v3 v4_ v7 v8 v300) (yg mfcZC_s) := ⟨fun q_ hq => absurd hq List.not_mem_nil, fun q_ hq => absurd hq List.not_mem_nil, fun q_ hq => absurd hq List.not_mem_nil, fun n_ hn => yg_lo hn, fun q_ hq => absurd hq List.not_mem_nil⟩
  have Hs : ysh mfcZC_A.1 (yg mfcZC_s) h_ := ysh_of2 hs (fun q_ hq => absurd hq List.not_mem_nil)
  have Ho : ymem (mfcZC_r v1_ v2 v3 v4_ v7 v8 v300) (yg mfcZC_s) mfcZC_O h_ := List.forall_mem_cons.mpr ⟨bpat_some o0_, fun q_ hq => absurd hq List.not_mem_nil⟩
  have HC : ∀ q_ ∈ mfcZC_C, xhold (mfcZC_r v1_ v2 v3 v4_ v7 v8 v300) q_ := fun q_ hq => absurd hq List.not_mem_nil
  rcases yrun (yis_ok mfcZC_k) hA Hs Ho HC with ⟨q_, hq, h', K_, G_⟩ | ⟨q_, hq, h', K_, G_⟩
  · have e_ := List.mem_singleton.mp hq
    subst e_
    exact ⟨h', yfr_sm K_.2.2.2 hs K_.1 (ywa_s mfcZC_w List.mem_cons_self), ⟨bpat_of (K_.2.1 _ List.mem_cons_self), fun a_ j_ n0_ => yfr_bp K_.2.2.2 (List.forall_mem_cons.mpr ⟨fun e_ => n0_ ⟨e_.1.symm, e_.2.symm⟩, fun q_ hq => absurd hq List.not_mem_nil⟩), G_⟩⟩
  · cases hq
-- mfiX0: 13 steps, 1 ends, 0 returns
def mfiX0_L : List (Nat × Nat × Nat) := []
def mfiX0_O : yO := [(338, .int 4, .index 342), (342, .int 0, .arg 301)]
def mfiX0_A : yA := (yZ mfiX0_L, [], [], [], [])
def mfiX0_C : List xB := [(.le, .arg 8, .arg 301, false)]
def mfiX0_ss : List yS := [(70, [(6, .add (.arg 6) (.int 1)), (5, .int 1), (8, .arg 8), (7, .int 0), (4, .arg 4), (3, .arg 3), (0, .index 338), (1, .arg 1), (2, .arg 2)], [], [(338, .int 4, .index 342), (342, .int 0, .arg 301)], [(.le, .arg 8, .arg 301, false)], [])]
def mfiX0_rs : List yR := []
theorem mfiX0_w : ywa mfiX0_A mfiX0_ss mfiX0_rs = true := by decide +kernel
theorem mfiX0_k : yis (yev mfiX0_A 3000 60 196 [70] (90, [(8, .arg 8), (7, .int 0), (6, .arg 6), (5, .int 1), (4, .arg 4), (3, .arg 3), (0, .index 338), (1, .arg 1), (2, .arg 2)], [], mfiX0_O, mfiX0_C, [])) mfiX0_ss mfiX0_rs = true := by decide +kernel
def mfiX0_r (v1_ v2 v3 v4_ v6 v8 v301 : Int32) (k_ : Nat) : Value := bif Nat.beq k_ 1 then .int v1_ else (bif Nat.beq k_ 2 then .int v2 else (bif Nat.beq k_ 3 then .int v3 else (bif Nat.beq k_ 4 then .int v4_ else (bif Nat.beq k_ 6 then .int v6 else (bif Nat.beq k_ 8 then .int v8 else (bif Nat.beq k_ 301 then .int v301 else (.int 0)))))))
def mfiX0_s (n_ : Nat) : Nat := 0
theorem mfiX0 {h_ : xH} {v1_ v2 v3 v4_ v6 v8 v301 : Int32} (hs : sHp h_) (o0_ : bpat h_ 342 0 = some (.int v301)) (c0_ : v301.toInt < v8.toInt) : ∃ h', ysm h_ h' ∧ (((∀ a_ j_ : Nat, bpat h' a_ j_ = bpat h_ a_ j_) ∧ (bldD 60 196 90 [(8, .int v8), (7, .int (0 : Int32)), (6, .int v6), (5, .int (1 : Int32)), (4, .int v4_), (3, .int v3), (0, .index 338), (1, .int v1_), (2, .int v2)] [] h_ 70 [(6, .int (v6 + (1 : Int32))), (5, .int (1 : Int32)), (8, .int v8), (7, .int (0 : Int32)), (4, .int v4_), (3, .int v3), (0, .index 338), (1, .int v1_), (2, .int v2)] [] h'))) := by
  have hA : yas mfiX0_A (mfiX0_r v1_ v2 v3 v4_ v6 v8 v301) (yg mfiX0_s) := ⟨fun q_ hq => absurd hq List.not_mem_nil, fun q_ hq => absurd hq List.not_mem_nil, fun q_ hq => absurd hq List.not_mem_nil, fun n_ hn => yg_lo hn, fun q_ hq => absurd hq List.not_mem_nil⟩
  have Hs : ysh mfiX0_A.1 (yg mfiX0_s) h_ := ysh_of2 hs (fun q_ hq => absurd hq List.not_mem_nil)
  have Ho : ymem (mfiX0_r v1_ v2 v3 v4_ v6 v8 v301) (yg mfiX0_s) mfiX0_O h_ := List.forall_mem_cons.mpr ⟨bpat_some (fxr_at hs.2 (show fxk fxl 338 4 = some 342 by decide +kernel)), List.forall_mem_cons.mpr ⟨bpat_some o0_, fun q_ hq => absurd hq List.not_mem_nil⟩⟩
  have HC : ∀ q_ ∈ mfiX0_C, xhold (mfiX0_r v1_ v2 v3 v4_ v6 v8 v301) q_ := List.forall_mem_cons.mpr ⟨xh_leF c0_, fun q_ hq => absurd hq List.not_mem_nil⟩
  rcases yrun (yis_ok mfiX0_k) hA Hs Ho HC with ⟨q_, hq, h', K_, G_⟩ | ⟨q_, hq, h', K_, G_⟩
  · have e_ := List.mem_singleton.mp hq
    subst e_
    exact ⟨h', yfr_sm K_.2.2.2 hs K_.1 (ywa_s mfiX0_w List.mem_cons_self), ⟨fun a_ j_ => yfr_bp K_.2.2.2 (fun q_ hq => absurd hq List.not_mem_nil), G_⟩⟩
  · cases hq
-- mfiX1: 12 steps, 1 ends, 0 returns
def mfiX1_L : List (Nat × Nat × Nat) := []
def mfiX1_O : yO := [(338, .int 4, .index 342), (342, .int 0, .arg 301)]
def mfiX1_A : yA := (yZ mfiX1_L, [], [], [], [])
def mfiX1_C : List xB := [(.le, .arg 8, .arg 301, false)]
def mfiX1_ss : List yS := [(70, [(6, .add (.arg 6) (.int 1)), (5, .int 0), (8, .arg 8), (7, .int 1), (4, .arg 4), (3, .arg 3), (0, .index 338), (1, .arg 1), (2, .arg 2)], [], [(338, .int 4, .index 342), (342, .int 0, .arg 301)], [(.le, .arg 8, .arg 301, false)], [])]
def mfiX1_rs : List yR := []
theorem mfiX1_w : ywa mfiX1_A mfiX1_ss mfiX1_rs = true := by decide +kernel
theorem mfiX1_k : yis (yev mfiX1_A 3000 60 196 [70] (90, [(8, .arg 8), (7, .int 1), (6, .arg 6), (5, .int 1), (4, .arg 4), (3, .arg 3), (0, .index 338), (1, .arg 1), (2, .arg 2)], [], mfiX1_O, mfiX1_C, [])) mfiX1_ss mfiX1_rs = true := by decide +kernel
def mfiX1_r (v1_ v2 v3 v4_ v6 v8 v301 : Int32) (k_ : Nat) : Value := bif Nat.beq k_ 1 then .int v1_ else (bif Nat.beq k_ 2 then .int v2 else (bif Nat.beq k_ 3 then .int v3 else (bif Nat.beq k_ 4 then .int v4_ else (bif Nat.beq k_ 6 then .int v6 else (bif Nat.beq k_ 8 then .int v8 else (bif Nat.beq k_ 301 then .int v301 else (.int 0)))))))
def mfiX1_s (n_ : Nat) : Nat := 0
theorem mfiX1 {h_ : xH} {v1_ v2 v3 v4_ v6 v8 v301 : Int32} (hs : sHp h_) (o0_ : bpat h_ 342 0 = some (.int v301)) (c0_ : v301.toInt < v8.toInt) : ∃ h', ysm h_ h' ∧ (((∀ a_ j_ : Nat, bpat h' a_ j_ = bpat h_ a_ j_) ∧ (bldD 60 196 90 [(8, .int v8), (7, .int (1 : Int32)), (6, .int v6), (5, .int (1 : Int32)), (4, .int v4_), (3, .int v3), (0, .index 338), (1, .int v1_), (2, .int v2)] [] h_ 70 [(6, .int (v6 + (1 : Int32))), (5, .int (0 : Int32)), (8, .int v8), (7, .int (1 : Int32)), (4, .int v4_), (3, .int v3), (0, .index 338), (1, .int v1_), (2, .int v2)] [] h'))) := by
  have hA : yas mfiX1_A (mfiX1_r v1_ v2 v3 v4_ v6 v8 v301) (yg mfiX1_s) := ⟨fun q_ hq => absurd hq List.not_mem_nil, fun q_ hq => absurd hq List.not_mem_nil, fun q_ hq => absurd hq List.not_mem_nil, fun n_ hn => yg_lo hn, fun q_ hq => absurd hq List.not_mem_nil⟩
  have Hs : ysh mfiX1_A.1 (yg mfiX1_s) h_ := ysh_of2 hs (fun q_ hq => absurd hq List.not_mem_nil)
  have Ho : ymem (mfiX1_r v1_ v2 v3 v4_ v6 v8 v301) (yg mfiX1_s) mfiX1_O h_ := List.forall_mem_cons.mpr ⟨bpat_some (fxr_at hs.2 (show fxk fxl 338 4 = some 342 by decide +kernel)), List.forall_mem_cons.mpr ⟨bpat_some o0_, fun q_ hq => absurd hq List.not_mem_nil⟩⟩
  have HC : ∀ q_ ∈ mfiX1_C, xhold (mfiX1_r v1_ v2 v3 v4_ v6 v8 v301) q_ := List.forall_mem_cons.mpr ⟨xh_leF c0_, fun q_ hq => absurd hq List.not_mem_nil⟩
  rcases yrun (yis_ok mfiX1_k) hA Hs Ho HC with ⟨q_, hq, h', K_, G_⟩ | ⟨q_, hq, h', K_, G_⟩
  · have e_ := List.mem_singleton.mp hq
    subst e_
    exact ⟨h', yfr_sm K_.2.2.2 hs K_.1 (ywa_s mfiX1_w List.mem_cons_self), ⟨fun a_ j_ => yfr_bp K_.2.2.2 (fun q_ hq => absurd hq List.not_mem_nil), G_⟩⟩
  · cases hq
-- mfiZ: 15 steps, 1 ends, 0 returns
def mfiZ_L : List (Nat × Nat × Nat) := []
def mfiZ_O : yO := [(338, .int 4, .index 342), (342, .int 0, .arg 301)]
def mfiZ_A : yA := (yZ mfiZ_L, [], [], [], [])
def mfiZ_C : List xB := [(.le, .arg 8, .arg 301, true)]
def mfiZ_ss : List yS := [(70, [(6, .add (.arg 6) (.int 1)), (5, .int 1), (8, .arg 8), (7, .int 0), (4, .arg 4), (3, .arg 3), (0, .index 338), (1, .arg 1), (2, .arg 2)], [], [(338, .int 4, .index 342), (342, .int 0, .arg 301)], [(.le, .arg 8, .arg 301, true)], [])]
def mfiZ_rs : List yR := []
theorem mfiZ_w : ywa mfiZ_A mfiZ_ss mfiZ_rs = true := by decide +kernel
theorem mfiZ_k : yis (yev mfiZ_A 3000 60 196 [70] (90, [(8, .arg 8), (7, .int 0), (6, .arg 6), (5, .int 1), (4, .arg 4), (3, .arg 3), (0, .index 338), (1, .arg 1), (2, .arg 2)], [], mfiZ_O, mfiZ_C, [])) mfiZ_ss mfiZ_rs = true := by decide +kernel
def mfiZ_r (v1_ v2 v3 v4_ v6 v8 v301 : Int32) (k_ : Nat) : Value := bif Nat.beq k_ 1 then .int v1_ else (bif Nat.beq k_ 2 then .int v2 else (bif Nat.beq k_ 3 then .int v3 else (bif Nat.beq k_ 4 then .int v4_ else (bif Nat.beq k_ 6 then .int v6 else (bif Nat.beq k_ 8 then .int v8 else (bif Nat.beq k_ 301 then .int v301 else (.int 0)))))))
def mfiZ_s (n_ : Nat) : Nat := 0
theorem mfiZ {h_ : xH} {v1_ v2 v3 v4_ v6 v8 v301 : Int32} (hs : sHp h_) (o0_ : bpat h_ 342 0 = some (.int v301)) (c0_ : v8.toInt ≤ v301.toInt) : ∃ h', ysm h_ h' ∧ (((∀ a_ j_ : Nat, bpat h' a_ j_ = bpat h_ a_ j_) ∧ (bldD 60 196 90 [(8, .int v8), (7, .int (0 : Int32)), (6, .int v6), (5, .int (1 : Int32)), (4, .int v4_), (3, .int v3), (0, .index 338), (1, .int v1_), (2, .int v2)] [] h_ 70 [(6, .int (v6 + (1 : Int32))), (5, .int (1 : Int32)), (8, .int v8), (7, .int (0 : Int32)), (4, .int v4_), (3, .int v3), (0, .index 338), (1, .int v1_), (2, .int v2)] [] h'))) := by
  have hA : yas mfiZ_A (mfiZ_r v1_ v2 v3 v4_ v6 v8 v301) (yg mfiZ_s) := ⟨fun q_ hq => absurd hq List.not_mem_nil, fun q_ hq => absurd hq List.not_mem_nil, fun q_ hq => absurd hq List.not_mem_nil, fun n_ hn => yg_lo hn, fun q_ hq => absurd hq List.not_mem_nil⟩
  have Hs : ysh mfiZ_A.1 (yg mfiZ_s) h_ := ysh_of2 hs (fun q_ hq => absurd hq List.not_mem_nil)
  have Ho : ymem (mfiZ_r v1_ v2 v3 v4_ v6 v8 v301) (yg mfiZ_s) mfiZ_O h_ := List.forall_mem_cons.mpr ⟨bpat_some (fxr_at hs.2 (show fxk fxl 338 4 = some 342 by decide +kernel)), List.forall_mem_cons.mpr ⟨bpat_some o0_, fun q_ hq => absurd hq List.not_mem_nil⟩⟩
  have HC : ∀ q_ ∈ mfiZ_C, xhold (mfiZ_r v1_ v2 v3 v4_ v6 v8 v301) q_ := List.forall_mem_cons.mpr ⟨xh_leT c0_, fun q_ hq => absurd hq List.not_mem_nil⟩
  rcases yrun (yis_ok mfiZ_k) hA Hs Ho HC with ⟨q_, hq, h', K_, G_⟩ | ⟨q_, hq, h', K_, G_⟩
  · have e_ := List.mem_singleton.mp hq
    subst e_
    exact ⟨h', yfr_sm K_.2.2.2 hs K_.1 (ywa_s mfiZ_w List.mem_cons_self), ⟨fun a_ j_ => yfr_bp K_.2.2.2 (fun q_ hq => absurd hq List.not_mem_nil), G_⟩⟩
  · cases hq
-- mfiT1: 26 steps, 1 ends, 0 returns
def mfiT1_L : List (Nat × Nat × Nat) := []
def mfiT1_O : yO := [(338, .int 4, .index 342), (342, .int 0, .arg 301), (338, .int 14, .index 348), (348, .add (.mul (.int 13) (.arg 6)) (.arg 8), .arg 302), (342, .arg 8, .arg 303)]
def mfiT1_A : yA := (yZ mfiT1_L, [(.arg 8, 13), (.add (.mul (.int 13) (.arg 6)) (.arg 8), 1040)], [], [], [])
def mfiT1_C : List xB := [(.eq, .arg 302, .arg 303, true), (.le, .arg 8, .arg 301, true)]
def mfiT1_ss : List yS := [(90, [(8, .add (.arg 8) (.int 1)), (7, .int 1), (6, .arg 6), (5, .int 1), (4, .arg 4), (3, .arg 3), (0, .index 338), (1, .arg 1), (2, .arg 2)], [], [(338, .int 4, .index 342), (342, .int 0, .arg 301), (338, .int 14, .index 348), (348, .add (.mul (.int 13) (.arg 6)) (.arg 8), .arg 302), (342, .arg 8, .arg 303)], [(.eq, .arg 302, .arg 303, true), (.le, .arg 8, .arg 301, true)], [])]
def mfiT1_rs : List yR := []
theorem mfiT1_w : ywa mfiT1_A mfiT1_ss mfiT1_rs = true := by decide +kernel
theorem mfiT1_k : yis (yev mfiT1_A 3000 60 196 [90] (90, [(8, .arg 8), (7, .int 1), (6, .arg 6), (5, .int 1), (4, .arg 4), (3, .arg 3), (0, .index 338), (1, .arg 1), (2, .arg 2)], [], mfiT1_O, mfiT1_C, [])) mfiT1_ss mfiT1_rs = true := by decide +kernel
def mfiT1_r (v1_ v2 v3 v4_ v6 v8 v301 v302 v303 : Int32) (k_ : Nat) : Value := bif Nat.beq k_ 1 then .int v1_ else (bif Nat.beq k_ 2 then .int v2 else (bif Nat.beq k_ 3 then .int v3 else (bif Nat.beq k_ 4 then .int v4_ else (bif Nat.beq k_ 6 then .int v6 else (bif Nat.beq k_ 8 then .int v8 else (bif Nat.beq k_ 301 then .int v301 else (bif Nat.beq k_ 302 then .int v302 else (bif Nat.beq k_ 303 then .int v303 else (.int 0)))))))))
def mfiT1_s (n_ : Nat) : Nat := 0
theorem mfiT1 {h_ : xH} {v1_ v2 v3 v4_ v6 v8 v301 v302 v303 : Int32} (hs : sHp h_) (o0_ : bpat h_ 342 0 = some (.int v301)) (o1 : bpat h_ 348 ((((13 : Int32) * v6) + v8)).toInt.toNat = some (.int v302)) (o2 : bpat h_ 342 (v8).toInt.toNat = some (.int v303)) (b0 : 0 ≤ (v8).toInt ∧ (v8).toInt < 13) (b1 : 0 ≤ ((((13 : Int32) * v6) + v8)).toInt ∧ ((((13 : Int32) * v6) + v8)).toInt < 1040) (c0_ : v302 = v303) (c1_ : v8.toInt ≤ v301.toInt) : ∃ h', ysm h_ h' ∧ (((∀ a_ j_ : Nat, bpat h' a_ j_ = bpat h_ a_ j_) ∧ (bldD 60 196 90 [(8, .int v8), (7, .int (1 : Int32)), (6, .int v6), (5, .int (1 : Int32)), (4, .int v4_), (3, .int v3), (0, .index 338), (1, .int v1_), (2, .int v2)] [] h_ 90 [(8, .int (v8 + (1 : Int32))), (7, .int (1 : Int32)), (6, .int v6), (5, .int (1 : Int32)), (4, .int v4_), (3, .int v3), (0, .index 338), (1, .int v1_), (2, .int v2)] [] h'))) := by
  have hA : yas mfiT1_A (mfiT1_r v1_ v2 v3 v4_ v6 v8 v301 v302 v303) (yg mfiT1_s) := ⟨List.forall_mem_cons.mpr ⟨b0, List.forall_mem_cons.mpr ⟨b1, fun q_ hq => absurd hq List.not_mem_nil⟩⟩, fun q_ hq => absurd hq List.not_mem_nil, fun q_ hq => absurd hq List.not_mem_nil, fun n_ hn => yg_lo hn, fun q_ hq => absurd hq List.not_mem_nil⟩
  have Hs : ysh mfiT1_A.1 (yg mfiT1_s) h_ := ysh_of2 hs (fun q_ hq => absurd hq List.not_mem_nil)
  have Ho : ymem (mfiT1_r v1_ v2 v3 v4_ v6 v8 v301 v302 v303) (yg mfiT1_s) mfiT1_O h_ := List.forall_mem_cons.mpr ⟨bpat_some (fxr_at hs.2 (show fxk fxl 338 4 = some 342 by decide +kernel)), List.forall_mem_cons.mpr ⟨bpat_some o0_, List.forall_mem_cons.mpr ⟨bpat_some (fxr_at hs.2 (show fxk fxl 338 14 = some 348 by decide +kernel)), List.forall_mem_cons.mpr ⟨bpat_some o1, List.forall_mem_cons.mpr ⟨bpat_some o2, fun q_ hq => absurd hq List.not_mem_nil⟩⟩⟩⟩⟩
  have HC : ∀ q_ ∈ mfiT1_C, xhold (mfiT1_r v1_ v2 v3 v4_ v6 v8 v301 v302 v303) q_ := List.forall_mem_cons.mpr ⟨xh_eqT2 c0_, List.forall_mem_cons.mpr ⟨xh_leT c1_, fun q_ hq => absurd hq List.not_mem_nil⟩⟩
  rcases yrun (yis_ok mfiT1_k) hA Hs Ho HC with ⟨q_, hq, h', K_, G_⟩ | ⟨q_, hq, h', K_, G_⟩
  · have e_ := List.mem_singleton.mp hq
    subst e_
    exact ⟨h', yfr_sm K_.2.2.2 hs K_.1 (ywa_s mfiT1_w List.mem_cons_self), ⟨fun a_ j_ => yfr_bp K_.2.2.2 (fun q_ hq => absurd hq List.not_mem_nil), G_⟩⟩
  · cases hq
-- mfiT0: 25 steps, 1 ends, 0 returns
def mfiT0_L : List (Nat × Nat × Nat) := []
def mfiT0_O : yO := [(338, .int 4, .index 342), (342, .int 0, .arg 301), (338, .int 14, .index 348), (348, .add (.mul (.int 13) (.arg 6)) (.arg 8), .arg 302), (342, .arg 8, .arg 303)]
def mfiT0_A : yA := (yZ mfiT0_L, [(.arg 8, 13), (.add (.mul (.int 13) (.arg 6)) (.arg 8), 1040)], [], [], [])
def mfiT0_C : List xB := [(.eq, .arg 302, .arg 303, false), (.le, .arg 8, .arg 301, true)]
def mfiT0_ss : List yS := [(90, [(8, .add (.arg 8) (.int 1)), (7, .int 0), (6, .arg 6), (5, .int 1), (4, .arg 4), (3, .arg 3), (0, .index 338), (1, .arg 1), (2, .arg 2)], [], [(338, .int 4, .index 342), (342, .int 0, .arg 301), (338, .int 14, .index 348), (348, .add (.mul (.int 13) (.arg 6)) (.arg 8), .arg 302), (342, .arg 8, .arg 303)], [(.eq, .arg 302, .arg 303, false), (.le, .arg 8, .arg 301, true)], [])]
def mfiT0_rs : List yR := []
theorem mfiT0_w : ywa mfiT0_A mfiT0_ss mfiT0_rs = true := by decide +kernel
theorem mfiT0_k : yis (yev mfiT0_A 3000 60 196 [90] (90, [(8, .arg 8), (7, .int 1), (6, .arg 6), (5, .int 1), (4, .arg 4), (3, .arg 3), (0, .index 338), (1, .arg 1), (2, .arg 2)], [], mfiT0_O, mfiT0_C, [])) mfiT0_ss mfiT0_rs = true := by decide +kernel
def mfiT0_r (v1_ v2 v3 v4_ v6 v8 v301 v302 v303 : Int32) (k_ : Nat) : Value := bif Nat.beq k_ 1 then .int v1_ else (bif Nat.beq k_ 2 then .int v2 else (bif Nat.beq k_ 3 then .int v3 else (bif Nat.beq k_ 4 then .int v4_ else (bif Nat.beq k_ 6 then .int v6 else (bif Nat.beq k_ 8 then .int v8 else (bif Nat.beq k_ 301 then .int v301 else (bif Nat.beq k_ 302 then .int v302 else (bif Nat.beq k_ 303 then .int v303 else (.int 0)))))))))
def mfiT0_s (n_ : Nat) : Nat := 0
theorem mfiT0 {h_ : xH} {v1_ v2 v3 v4_ v6 v8 v301 v302 v303 : Int32} (hs : sHp h_) (o0_ : bpat h_ 342 0 = some (.int v301)) (o1 : bpat h_ 348 ((((13 : Int32) * v6) + v8)).toInt.toNat = some (.int v302)) (o2 : bpat h_ 342 (v8).toInt.toNat = some (.int v303)) (b0 : 0 ≤ (v8).toInt ∧ (v8).toInt < 13) (b1 : 0 ≤ ((((13 : Int32) * v6) + v8)).toInt ∧ ((((13 : Int32) * v6) + v8)).toInt < 1040) (c0_ : ¬ v302 = v303) (c1_ : v8.toInt ≤ v301.toInt) : ∃ h', ysm h_ h' ∧ (((∀ a_ j_ : Nat, bpat h' a_ j_ = bpat h_ a_ j_) ∧ (bldD 60 196 90 [(8, .int v8), (7, .int (1 : Int32)), (6, .int v6), (5, .int (1 : Int32)), (4, .int v4_), (3, .int v3), (0, .index 338), (1, .int v1_), (2, .int v2)] [] h_ 90 [(8, .int (v8 + (1 : Int32))), (7, .int (0 : Int32)), (6, .int v6), (5, .int (1 : Int32)), (4, .int v4_), (3, .int v3), (0, .index 338), (1, .int v1_), (2, .int v2)] [] h'))) := by
  have hA : yas mfiT0_A (mfiT0_r v1_ v2 v3 v4_ v6 v8 v301 v302 v303) (yg mfiT0_s) := ⟨List.forall_mem_cons.mpr ⟨b0, List.forall_mem_cons.mpr ⟨b1, fun q_ hq => absurd hq List.not_mem_nil⟩⟩, fun q_ hq => absurd hq List.not_mem_nil, fun q_ hq => absurd hq List.not_mem_nil, fun n_ hn => yg_lo hn, fun q_ hq => absurd hq List.not_mem_nil⟩
  have Hs : ysh mfiT0_A.1 (yg mfiT0_s) h_ := ysh_of2 hs (fun q_ hq => absurd hq List.not_mem_nil)
  have Ho : ymem (mfiT0_r v1_ v2 v3 v4_ v6 v8 v301 v302 v303) (yg mfiT0_s) mfiT0_O h_ := List.forall_mem_cons.mpr ⟨bpat_some (fxr_at hs.2 (show fxk fxl 338 4 = some 342 by decide +kernel)), List.forall_mem_cons.mpr ⟨bpat_some o0_, List.forall_mem_cons.mpr ⟨bpat_some (fxr_at hs.2 (show fxk fxl 338 14 = some 348 by decide +kernel)), List.forall_mem_cons.mpr ⟨bpat_some o1, List.forall_mem_cons.mpr ⟨bpat_some o2, fun q_ hq => absurd hq List.not_mem_nil⟩⟩⟩⟩⟩
  have HC : ∀ q_ ∈ mfiT0_C, xhold (mfiT0_r v1_ v2 v3 v4_ v6 v8 v301 v302 v303) q_ := List.forall_mem_cons.mpr ⟨xh_eqF2 c0_, List.forall_mem_cons.mpr ⟨xh_leT c1_, fun q_ hq => absurd hq List.not_mem_nil⟩⟩
  rcases yrun (yis_ok mfiT0_k) hA Hs Ho HC with ⟨q_, hq, h', K_, G_⟩ | ⟨q_, hq, h', K_, G_⟩
  · have e_ := List.mem_singleton.mp hq
    subst e_
    exact ⟨h', yfr_sm K_.2.2.2 hs K_.1 (ywa_s mfiT0_w List.mem_cons_self), ⟨fun a_ j_ => yfr_bp K_.2.2.2 (fun q_ hq => absurd hq List.not_mem_nil), G_⟩⟩
  · cases hq
-- mmnE: 118 steps, 1 ends, 4 returns
def mmnE_L : List (Nat × Nat × Nat) := []
def mmnE_O : yO := [(338, .int 0, .index 339), (339, .int 0, .arg 310), (338, .int 3, .index 341), (341, .int 1, .arg 400)]
def mmnE_A : yA := (yZ mmnE_L, [], [], [], [])
def mmnE_C : List xB := []
def mmnE_ss : List yS := [(26, [(0, .index 338), (1, .arg 1), (2, .arg 2)], [.arg 2, .arg 1, .index 338], [(338, .int 0, .index 339), (339, .int 0, .arg 310), (338, .int 3, .index 341), (341, .int 1, .arg 400)], [(.le, .arg 2, .int 2, true), (.lt, .arg 2, .int 0, false), (.le, .arg 1, .sub (.arg 310) (.int 1), true), (.lt, .arg 1, .int 0, false)], [])]
def mmnE_rs : List yR := [(some (.int (Int32.ofInt (-1000001))), [(341, .int 1, .add (.arg 400) (.int 1)), (338, .int 0, .index 339), (339, .int 0, .arg 310), (338, .int 3, .index 341)], [(.lt, .arg 1, .int 0, true)], [(341, .int 1)]),
  (some (.int (Int32.ofInt (-1000001))), [(341, .int 1, .add (.arg 400) (.int 1)), (338, .int 0, .index 339), (339, .int 0, .arg 310), (338, .int 3, .index 341)], [(.le, .arg 1, .sub (.arg 310) (.int 1), false), (.lt, .arg 1, .int 0, false)], [(341, .int 1)]),
  (some (.int (Int32.ofInt (-1000001))), [(341, .int 1, .add (.arg 400) (.int 1)), (338, .int 0, .index 339), (339, .int 0, .arg 310), (338, .int 3, .index 341)], [(.lt, .arg 2, .int 0, true), (.le, .arg 1, .sub (.arg 310) (.int 1), true), (.lt, .arg 1, .int 0, false)], [(341, .int 1)]),
  (some (.int (Int32.ofInt (-1000001))), [(341, .int 1, .add (.arg 400) (.int 1)), (338, .int 0, .index 339), (339, .int 0, .arg 310), (338, .int 3, .index 341)], [(.le, .arg 2, .int 2, false), (.lt, .arg 2, .int 0, false), (.le, .arg 1, .sub (.arg 310) (.int 1), true), (.lt, .arg 1, .int 0, false)], [(341, .int 1)])]
theorem mmnE_w : ywa mmnE_A mmnE_ss mmnE_rs = true := by decide +kernel
theorem mmnE_k : yis (yev mmnE_A 3000 60 197 [26] (0, [(0, .index 338), (1, .arg 1), (2, .arg 2)], [], mmnE_O, mmnE_C, [])) mmnE_ss mmnE_rs = true := by decide +kernel
def mmnE_r (v1_ v2 v310 v400 : Int32) (k_ : Nat) : Value := bif Nat.beq k_ 1 then .int v1_ else (bif Nat.beq k_ 2 then .int v2 else (bif Nat.beq k_ 310 then .int v310 else (bif Nat.beq k_ 400 then .int v400 else (.int 0))))
def mmnE_s (n_ : Nat) : Nat := 0
theorem mmnE {h_ : xH} {v1_ v2 v310 v400 : Int32} (hs : sHp h_) (o0_ : bpat h_ 339 0 = some (.int v310)) (o1 : bpat h_ 341 1 = some (.int v400)) : ∃ h', ysm h_ h' ∧ (((v2.toInt ≤ (2 : Int32).toInt) ∧ ((0 : Int32).toInt ≤ v2.toInt) ∧ (v1_.toInt ≤ (v310 - (1 : Int32)).toInt) ∧ ((0 : Int32).toInt ≤ v1_.toInt) ∧ (∀ a_ j_ : Nat, bpat h' a_ j_ = bpat h_ a_ j_) ∧ (bldD 60 197 0 [(0, .index 338), (1, .int v1_), (2, .int v2)] [] h_ 26 [(0, .index 338), (1, .int v1_), (2, .int v2)] [.int v2, .int v1_, .index 338] h'))
  ∨ ((v1_.toInt < (0 : Int32).toInt) ∧ (bpat h' 341 1 = some (.int (v400 + (1 : Int32)))) ∧ (∀ a_ j_ : Nat, ¬ (a_ = 341 ∧ j_ = 1) → bpat h' a_ j_ = bpat h_ a_ j_) ∧ (∀ D_, 60 ≤ D_ → xrun D_ 197 0 [(0, .index 338), (1, .int v1_), (2, .int v2)] [] h_ (some (.int (Int32.ofInt (-1000001))), h', [])))
  ∨ (((v310 - (1 : Int32)).toInt < v1_.toInt) ∧ ((0 : Int32).toInt ≤ v1_.toInt) ∧ (bpat h' 341 1 = some (.int (v400 + (1 : Int32)))) ∧ (∀ a_ j_ : Nat, ¬ (a_ = 341 ∧ j_ = 1) → bpat h' a_ j_ = bpat h_ a_ j_) ∧ (∀ D_, 60 ≤ D_ → xrun D_ 197 0 [(0, .index 338), (1, .int v1_), (2, .int v2)] [] h_ (some (.int (Int32.ofInt (-1000001))), h', [])))
  ∨ ((v2.toInt < (0 : Int32).toInt) ∧ (v1_.toInt ≤ (v310 - (1 : Int32)).toInt) ∧ ((0 : Int32).toInt ≤ v1_.toInt) ∧ (bpat h' 341 1 = some (.int (v400 + (1 : Int32)))) ∧ (∀ a_ j_ : Nat, ¬ (a_ = 341 ∧ j_ = 1) → bpat h' a_ j_ = bpat h_ a_ j_) ∧ (∀ D_, 60 ≤ D_ → xrun D_ 197 0 [(0, .index 338), (1, .int v1_), (2, .int v2)] [] h_ (some (.int (Int32.ofInt (-1000001))), h', [])))
  ∨ (((2 : Int32).toInt < v2.toInt) ∧ ((0 : Int32).toInt ≤ v2.toInt) ∧ (v1_.toInt ≤ (v310 - (1 : Int32)).toInt) ∧ ((0 : Int32).toInt ≤ v1_.toInt) ∧ (bpat h' 341 1 = some (.int (v400 + (1 : Int32)))) ∧ (∀ a_ j_ : Nat, ¬ (a_ = 341 ∧ j_ = 1) → bpat h' a_ j_ = bpat h_ a_ j_) ∧ (∀ D_, 60 ≤ D_ → xrun D_ 197 0 [(0, .index 338), (1, .int v1_), (2, .int v2)] [] h_ (some (.int (Int32.ofInt (-1000001))), h', [])))) := by
  have hA : yas mmnE_A (mmnE_r v1_ v2 v310 v400) (yg mmnE_s) := ⟨fun q_ hq => absurd hq List.not_mem_nil, fun q_ hq => absurd hq List.not_mem_nil, fun q_ hq => absurd hq List.not_mem_nil, fun n_ hn => yg_lo hn, fun q_ hq => absurd hq List.not_mem_nil⟩
  have Hs : ysh mmnE_A.1 (yg mmnE_s) h_ := ysh_of2 hs (fun q_ hq => absurd hq List.not_mem_nil)
  have Ho : ymem (mmnE_r v1_ v2 v310 v400) (yg mmnE_s) mmnE_O h_ := List.forall_mem_cons.mpr ⟨bpat_some (fxr_at hs.2 (show fxk fxl 338 0 = some 339 by decide +kernel)), List.forall_mem_cons.mpr ⟨bpat_some o0_, List.forall_mem_cons.mpr ⟨bpat_some (fxr_at hs.2 (show fxk fxl 338 3 = some 341 by decide +kernel)), List.forall_mem_cons.mpr ⟨bpat_some o1, fun q_ hq => absurd hq List.not_mem_nil⟩⟩⟩⟩
  have HC : ∀ q_ ∈ mmnE_C, xhold (mmnE_r v1_ v2 v310 v400) q_ := fun q_ hq => absurd hq List.not_mem_nil
  rcases yrun (yis_ok mmnE_k) hA Hs Ho HC with ⟨q_, hq, h', K_, G_⟩ | ⟨q_, hq, h', K_, G_⟩
  · have e_ := List.mem_singleton.mp hq
    subst e_
    exact ⟨h', yfr_sm K_.2.2.2 hs K_.1 (ywa_s mmnE_w List.mem_cons_self), Or.inl (⟨xq_leT rfl rfl (K_.2.2.1 _ List.mem_cons_self), xq_ltF rfl rfl (K_.2.2.1 _ (List.mem_cons_of_mem _ List.mem_cons_self)), xq_leT rfl (yv_sub2 rfl rfl) (K_.2.2.1 _ (List.mem_cons_of_mem _ (List.mem_cons_of_mem _ List.mem_cons_self))), xq_ltF rfl rfl (K_.2.2.1 _ (List.mem_cons_of_mem _ (List.mem_cons_of_mem _ (List.mem_cons_of_mem _ List.mem_cons_self)))), fun a_ j_ => yfr_bp K_.2.2.2 (fun q_ hq => absurd hq List.not_mem_nil), G_⟩)⟩
  · rcases List.mem_cons.mp hq with e_ | hq
    · subst e_
      exact ⟨h', yfr_sm K_.2.2.2 hs K_.1 (ywa_r mmnE_w List.mem_cons_self), Or.inr (Or.inl (⟨xq_ltT rfl rfl (K_.2.2.1 _ List.mem_cons_self), bpat_of (K_.2.1 _ List.mem_cons_self), fun a_ j_ n0_ => yfr_bp K_.2.2.2 (List.forall_mem_cons.mpr ⟨fun e_ => n0_ ⟨e_.1.symm, e_.2.symm⟩, fun q_ hq => absurd hq List.not_mem_nil⟩), G_⟩))⟩
    rcases List.mem_cons.mp hq with e_ | hq
    · subst e_
      exact ⟨h', yfr_sm K_.2.2.2 hs K_.1 (ywa_r mmnE_w (List.mem_cons_of_mem _ List.mem_cons_self)), Or.inr (Or.inr (Or.inl (⟨xq_leF rfl (yv_sub2 rfl rfl) (K_.2.2.1 _ List.mem_cons_self), xq_ltF rfl rfl (K_.2.2.1 _ (List.mem_cons_of_mem _ List.mem_cons_self)), bpat_of (K_.2.1 _ List.mem_cons_self), fun a_ j_ n0_ => yfr_bp K_.2.2.2 (List.forall_mem_cons.mpr ⟨fun e_ => n0_ ⟨e_.1.symm, e_.2.symm⟩, fun q_ hq => absurd hq List.not_mem_nil⟩), G_⟩)))⟩
    rcases List.mem_cons.mp hq with e_ | hq
    · subst e_
      exact ⟨h', yfr_sm K_.2.2.2 hs K_.1 (ywa_r mmnE_w (List.mem_cons_of_mem _ (List.mem_cons_of_mem _ List.mem_cons_self))), Or.inr (Or.inr (Or.inr (Or.inl (⟨xq_ltT rfl rfl (K_.2.2.1 _ List.mem_cons_self), xq_leT rfl (yv_sub2 rfl rfl) (K_.2.2.1 _ (List.mem_cons_of_mem _ List.mem_cons_self)), xq_ltF rfl rfl (K_.2.2.1 _ (List.mem_cons_of_mem _ (List.mem_cons_of_mem _ List.mem_cons_self))), bpat_of (K_.2.1 _ List.mem_cons_self), fun a_ j_ n0_ => yfr_bp K_.2.2.2 (List.forall_mem_cons.mpr ⟨fun e_ => n0_ ⟨e_.1.symm, e_.2.symm⟩, fun q_ hq => absurd hq List.not_mem_nil⟩), G_⟩))))⟩
    have e_ := List.mem_singleton.mp hq
    subst e_
    exact ⟨h', yfr_sm K_.2.2.2 hs K_.1 (ywa_r mmnE_w (List.mem_cons_of_mem _ (List.mem_cons_of_mem _ (List.mem_cons_of_mem _ List.mem_cons_self)))), Or.inr (Or.inr (Or.inr (Or.inr (⟨xq_leF rfl rfl (K_.2.2.1 _ List.mem_cons_self), xq_ltF rfl rfl (K_.2.2.1 _ (List.mem_cons_of_mem _ List.mem_cons_self)), xq_leT rfl (yv_sub2 rfl rfl) (K_.2.2.1 _ (List.mem_cons_of_mem _ (List.mem_cons_of_mem _ List.mem_cons_self))), xq_ltF rfl rfl (K_.2.2.1 _ (List.mem_cons_of_mem _ (List.mem_cons_of_mem _ (List.mem_cons_of_mem _ List.mem_cons_self)))), bpat_of (K_.2.1 _ List.mem_cons_self), fun a_ j_ n0_ => yfr_bp K_.2.2.2 (List.forall_mem_cons.mpr ⟨fun e_ => n0_ ⟨e_.1.symm, e_.2.symm⟩, fun q_ hq => absurd hq List.not_mem_nil⟩), G_⟩))))⟩
-- mmnR: 3 steps, 0 ends, 1 returns
def mmnR_L : List (Nat × Nat × Nat) := []
def mmnR_O : yO := [(338, .int 15, .arg 300)]
def mmnR_A : yA := (yZ mmnR_L, [], [], [], [])
def mmnR_C : List xB := []
def mmnR_ss : List yS := []
def mmnR_rs : List yR := [(some (.arg 300), [(338, .int 15, .arg 300)], [], [])]
theorem mmnR_w : ywa mmnR_A mmnR_ss mmnR_rs = true := by decide +kernel
theorem mmnR_k : yis (yev mmnR_A 3000 60 197 [] (29, [(0, .index 338), (1, .arg 1), (2, .arg 2)], [], mmnR_O, mmnR_C, [])) mmnR_ss mmnR_rs = true := by decide +kernel
def mmnR_r (v1_ v2 v300 : Int32) (k_ : Nat) : Value := bif Nat.beq k_ 1 then .int v1_ else (bif Nat.beq k_ 2 then .int v2 else (bif Nat.beq k_ 300 then .int v300 else (.int 0)))
def mmnR_s (n_ : Nat) : Nat := 0
theorem mmnR {h_ : xH} {v1_ v2 v300 : Int32} (hs : sHp h_) (o0_ : bpat h_ 338 15 = some (.int v300)) : ∃ h', ysm h_ h' ∧ (((∀ a_ j_ : Nat, bpat h' a_ j_ = bpat h_ a_ j_) ∧ (∀ D_, 60 ≤ D_ → xrun D_ 197 29 [(0, .index 338), (1, .int v1_), (2, .int v2)] [] h_ (some (.int v300), h', [])))) := by
  have hA : yas mmnR_A (mmnR_r v1_ v2 v300) (yg mmnR_s) := ⟨fun q_ hq => absurd hq List.not_mem_nil, fun q_ hq => absurd hq List.not_mem_nil, fun q_ hq => absurd hq List.not_mem_nil, fun n_ hn => yg_lo hn, fun q_ hq => absurd hq List.not_mem_nil⟩
  have Hs : ysh mmnR_A.1 (yg mmnR_s) h_ := ysh_of2 hs (fun q_ hq => absurd hq List.not_mem_nil)
  have Ho : ymem (mmnR_r v1_ v2 v300) (yg mmnR_s) mmnR_O h_ := List.forall_mem_cons.mpr ⟨bpat_some o0_, fun q_ hq => absurd hq List.not_mem_nil⟩
  have HC : ∀ q_ ∈ mmnR_C, xhold (mmnR_r v1_ v2 v300) q_ := fun q_ hq => absurd hq List.not_mem_nil
  rcases yrun (yis_ok mmnR_k) hA Hs Ho HC with ⟨q_, hq, h', K_, G_⟩ | ⟨q_, hq, h', K_, G_⟩
  · cases hq
  · have e_ := List.mem_singleton.mp hq
    subst e_
    exact ⟨h', yfr_sm K_.2.2.2 hs K_.1 (ywa_r mmnR_w List.mem_cons_self), ⟨fun a_ j_ => yfr_bp K_.2.2.2 (fun q_ hq => absurd hq List.not_mem_nil), G_⟩⟩
def hdQo (c1_ k_ y3 v4_ : Int32) (lo_ : xL) : Prop := lo_ = [(4, .int v4_), (3, .int y3), (0, .index 338), (1, .int c1_), (2, .int k_)] ∨ ((∃ y6 y5 : Int32, lo_ = [(4, .int v4_), (6, .int y6), (5, .int y5), (3, .int y3), (0, .index 338), (1, .int c1_), (2, .int k_)]) ∨ ∃ y6 y5 y8 y7 : Int32, lo_ = [(4, .int v4_), (6, .int y6), (5, .int y5), (8, .int y8), (7, .int y7), (3, .int y3), (0, .index 338), (1, .int c1_), (2, .int k_)])
def hdQm (c1_ k_ y3 y4 v6 v5 : Int32) (lo_ : xL) : Prop := lo_ = [(6, .int v6), (5, .int v5), (4, .int y4), (3, .int y3), (0, .index 338), (1, .int c1_), (2, .int k_)] ∨ ((∃ y8 y7 : Int32, lo_ = [(6, .int v6), (5, .int v5), (8, .int y8), (7, .int y7), (4, .int y4), (3, .int y3), (0, .index 338), (1, .int c1_), (2, .int k_)]) ∨ ∃ y8 y7 : Int32, lo_ = [(6, .int v6), (5, .int v5), (4, .int y4), (8, .int y8), (7, .int y7), (3, .int y3), (0, .index 338), (1, .int c1_), (2, .int k_)])
section
variable {h_ : xH} {c1_ k_ y3 y4 v4_ v5 v6 : Int32} {lo_ : xL}
theorem hO_cc {n_ : Nat} (hn : 338 < n_) (H_ : hdQo c1_ k_ y3 v4_ lo_) : xcc n_ lo_ [] = true := by
  rcases H_ with rfl | ⟨y6, y5, rfl⟩ | ⟨y6, y5, y8, y7, rfl⟩
  · exact (xcc_l (List.forall_mem_cons.mpr ⟨rfl, List.forall_mem_cons.mpr ⟨rfl, List.forall_mem_cons.mpr ⟨xidx_i hn, List.forall_mem_cons.mpr ⟨rfl, List.forall_mem_cons.mpr ⟨rfl, fun q_ hq => absurd hq List.not_mem_nil⟩⟩⟩⟩⟩) (fun t_ ht => absurd ht List.not_mem_nil) (Nat.le_of_ble_eq_true rfl))
  · exact (xcc_l (List.forall_mem_cons.mpr ⟨rfl, List.forall_mem_cons.mpr ⟨rfl, List.forall_mem_cons.mpr ⟨rfl, List.forall_mem_cons.mpr ⟨rfl, List.forall_mem_cons.mpr ⟨xidx_i hn, List.forall_mem_cons.mpr ⟨rfl, List.forall_mem_cons.mpr ⟨rfl, fun q_ hq => absurd hq List.not_mem_nil⟩⟩⟩⟩⟩⟩⟩) (fun t_ ht => absurd ht List.not_mem_nil) (Nat.le_of_ble_eq_true rfl))
  · exact (xcc_l (List.forall_mem_cons.mpr ⟨rfl, List.forall_mem_cons.mpr ⟨rfl, List.forall_mem_cons.mpr ⟨rfl, List.forall_mem_cons.mpr ⟨rfl, List.forall_mem_cons.mpr ⟨rfl, List.forall_mem_cons.mpr ⟨rfl, List.forall_mem_cons.mpr ⟨xidx_i hn, List.forall_mem_cons.mpr ⟨rfl, List.forall_mem_cons.mpr ⟨rfl, fun q_ hq => absurd hq List.not_mem_nil⟩⟩⟩⟩⟩⟩⟩⟩⟩) (fun t_ ht => absurd ht List.not_mem_nil) (Nat.le_of_ble_eq_true rfl))
theorem hO_X (S_ : sHp h_) (g_ : y3.toInt < v4_.toInt) (H_ : hdQo c1_ k_ y3 v4_ lo_) : ∃ h1, (ysm h_ h1 ∧ ∀ c_ j_, bpat h1 c_ j_ = bpat h_ c_ j_) ∧ ∀ D_, 60 ≤ D_ → xrun D_ 196 29 lo_ [] h_ (none, h1, []) := by
  rcases H_ with rfl | ⟨y6, y5, rfl⟩ | ⟨y6, y5, y8, y7, rfl⟩
  · obtain ⟨h1, m1_, f1_, r1_⟩ := mfoXA (v1_ := c1_) (v2 := k_) (v3 := y3) (v4_ := v4_) S_ g_
    exact ⟨h1, ⟨m1_, f1_⟩, r1_⟩
  · obtain ⟨h1, m1_, f1_, r1_⟩ := mfoXB (v1_ := c1_) (v2 := k_) (v3 := y3) (v4_ := v4_) (v6 := y6) (v5 := y5) S_ g_
    exact ⟨h1, ⟨m1_, f1_⟩, r1_⟩
  · obtain ⟨h1, m1_, f1_, r1_⟩ := mfoXC (v1_ := c1_) (v2 := k_) (v3 := y3) (v4_ := v4_) (v6 := y6) (v5 := y5) (v8 := y8) (v7 := y7) S_ g_
    exact ⟨h1, ⟨m1_, f1_⟩, r1_⟩
theorem hO_W (S_ : sHp h_) (g_ : v4_.toInt ≤ y3.toInt) (H_ : hdQo c1_ k_ y3 v4_ lo_) : ∃ h1, (ysm h_ h1 ∧ ∀ c_ j_, bpat h1 c_ j_ = bpat h_ c_ j_) ∧ bldD 60 196 29 lo_ [] h_ 38 lo_ [.int v4_, .index 338] h1 := by
  rcases H_ with rfl | ⟨y6, y5, rfl⟩ | ⟨y6, y5, y8, y7, rfl⟩
  · obtain ⟨h1, m1_, f1_, r1_⟩ := mfoWA (v1_ := c1_) (v2 := k_) (v3 := y3) (v4_ := v4_) S_ g_
    exact ⟨h1, ⟨m1_, f1_⟩, r1_⟩
  · obtain ⟨h1, m1_, f1_, r1_⟩ := mfoWB (v1_ := c1_) (v2 := k_) (v3 := y3) (v4_ := v4_) (v6 := y6) (v5 := y5) S_ g_
    exact ⟨h1, ⟨m1_, f1_⟩, r1_⟩
  · obtain ⟨h1, m1_, f1_, r1_⟩ := mfoWC (v1_ := c1_) (v2 := k_) (v3 := y3) (v4_ := v4_) (v6 := y6) (v5 := y5) (v8 := y8) (v7 := y7) S_ g_
    exact ⟨h1, ⟨m1_, f1_⟩, r1_⟩
theorem hO_N (S_ : sHp h_) (H_ : hdQo c1_ k_ y3 v4_ lo_) : ∃ h1, (ysm h_ h1 ∧ ∀ c_ j_, bpat h1 c_ j_ = bpat h_ c_ j_) ∧ ∃ lo', hdQo c1_ k_ y3 (v4_ + 1) lo' ∧ bldD 60 196 41 lo_ [.int 0] h_ 29 lo' [] h1 := by
  rcases H_ with rfl | ⟨y6, y5, rfl⟩ | ⟨y6, y5, y8, y7, rfl⟩
  · obtain ⟨h1, m1_, f1_, r1_⟩ := mfoNA (v1_ := c1_) (v2 := k_) (v3 := y3) (v4_ := v4_) S_
    exact ⟨h1, ⟨m1_, f1_⟩, _, Or.inl rfl, r1_⟩
  · obtain ⟨h1, m1_, f1_, r1_⟩ := mfoNB (v1_ := c1_) (v2 := k_) (v3 := y3) (v4_ := v4_) (v6 := y6) (v5 := y5) S_
    exact ⟨h1, ⟨m1_, f1_⟩, _, Or.inr (Or.inl ⟨_, _, rfl⟩), r1_⟩
  · obtain ⟨h1, m1_, f1_, r1_⟩ := mfoNC (v1_ := c1_) (v2 := k_) (v3 := y3) (v4_ := v4_) (v6 := y6) (v5 := y5) (v8 := y8) (v7 := y7) S_
    exact ⟨h1, ⟨m1_, f1_⟩, _, Or.inr (Or.inr ⟨_, _, _, _, rfl⟩), r1_⟩
theorem hO_M (S_ : sHp h_) (H_ : hdQo c1_ k_ y3 v4_ lo_) : ∃ h1, (ysm h_ h1 ∧ ∀ c_ j_, bpat h1 c_ j_ = bpat h_ c_ j_) ∧ ∃ lo', hdQo c1_ k_ y3 (v4_ + 1) lo' ∧ bldD 60 196 50 lo_ [.int 0] h_ 29 lo' [] h1 := by
  rcases H_ with rfl | ⟨y6, y5, rfl⟩ | ⟨y6, y5, y8, y7, rfl⟩
  · obtain ⟨h1, m1_, f1_, r1_⟩ := mfoMA (v1_ := c1_) (v2 := k_) (v3 := y3) (v4_ := v4_) S_
    exact ⟨h1, ⟨m1_, f1_⟩, _, Or.inl rfl, r1_⟩
  · obtain ⟨h1, m1_, f1_, r1_⟩ := mfoMB (v1_ := c1_) (v2 := k_) (v3 := y3) (v4_ := v4_) (v6 := y6) (v5 := y5) S_
    exact ⟨h1, ⟨m1_, f1_⟩, _, Or.inr (Or.inl ⟨_, _, rfl⟩), r1_⟩
  · obtain ⟨h1, m1_, f1_, r1_⟩ := mfoMC (v1_ := c1_) (v2 := k_) (v3 := y3) (v4_ := v4_) (v6 := y6) (v5 := y5) (v8 := y8) (v7 := y7) S_
    exact ⟨h1, ⟨m1_, f1_⟩, _, Or.inr (Or.inr ⟨_, _, _, _, rfl⟩), r1_⟩
theorem hO_U (S_ : sHp h_) (H_ : hdQo c1_ k_ y3 v4_ lo_) : ∃ h1, (ysm h_ h1 ∧ ∀ c_ j_, bpat h1 c_ j_ = bpat h_ c_ j_) ∧ bldD 60 196 41 lo_ [.int 1] h_ 47 lo_ [.int v4_, .index 338] h1 := by
  rcases H_ with rfl | ⟨y6, y5, rfl⟩ | ⟨y6, y5, y8, y7, rfl⟩
  · obtain ⟨h1, m1_, f1_, r1_⟩ := mfoUA (v1_ := c1_) (v2 := k_) (v3 := y3) (v4_ := v4_) S_
    exact ⟨h1, ⟨m1_, f1_⟩, r1_⟩
  · obtain ⟨h1, m1_, f1_, r1_⟩ := mfoUB (v1_ := c1_) (v2 := k_) (v3 := y3) (v4_ := v4_) (v6 := y6) (v5 := y5) S_
    exact ⟨h1, ⟨m1_, f1_⟩, r1_⟩
  · obtain ⟨h1, m1_, f1_, r1_⟩ := mfoUC (v1_ := c1_) (v2 := k_) (v3 := y3) (v4_ := v4_) (v6 := y6) (v5 := y5) (v8 := y8) (v7 := y7) S_
    exact ⟨h1, ⟨m1_, f1_⟩, r1_⟩
theorem hO_P (S_ : sHp h_) (H_ : hdQo c1_ k_ y3 v4_ lo_) : ∃ h1, (ysm h_ h1 ∧ ∀ c_ j_, bpat h1 c_ j_ = bpat h_ c_ j_) ∧ bldD 60 196 50 lo_ [.int 1] h_ 61 lo_ [.index 342, .int v4_, .int c1_, .index 338] h1 := by
  rcases H_ with rfl | ⟨y6, y5, rfl⟩ | ⟨y6, y5, y8, y7, rfl⟩
  · obtain ⟨h1, m1_, f1_, r1_⟩ := mfoPA (v1_ := c1_) (v2 := k_) (v3 := y3) (v4_ := v4_) S_
    exact ⟨h1, ⟨m1_, f1_⟩, r1_⟩
  · obtain ⟨h1, m1_, f1_, r1_⟩ := mfoPB (v1_ := c1_) (v2 := k_) (v3 := y3) (v4_ := v4_) (v6 := y6) (v5 := y5) S_
    exact ⟨h1, ⟨m1_, f1_⟩, r1_⟩
  · obtain ⟨h1, m1_, f1_, r1_⟩ := mfoPC (v1_ := c1_) (v2 := k_) (v3 := y3) (v4_ := v4_) (v6 := y6) (v5 := y5) (v8 := y8) (v7 := y7) S_
    exact ⟨h1, ⟨m1_, f1_⟩, r1_⟩
theorem hO_Q (S_ : sHp h_) (H_ : hdQo c1_ k_ y3 v4_ lo_) : ∃ h1, (ysm h_ h1 ∧ ∀ c_ j_, bpat h1 c_ j_ = bpat h_ c_ j_) ∧ ∃ lo', hdQm c1_ k_ y3 v4_ 0 1 lo' ∧ bldD 60 196 64 lo_ [] h_ 70 lo' [] h1 := by
  rcases H_ with rfl | ⟨y6, y5, rfl⟩ | ⟨y6, y5, y8, y7, rfl⟩
  · obtain ⟨h1, m1_, f1_, r1_⟩ := mfoQA (v1_ := c1_) (v2 := k_) (v3 := y3) (v4_ := v4_) S_
    exact ⟨h1, ⟨m1_, f1_⟩, _, Or.inl rfl, r1_⟩
  · obtain ⟨h1, m1_, f1_, r1_⟩ := mfoQB (v1_ := c1_) (v2 := k_) (v3 := y3) (v4_ := v4_) (v6 := y6) (v5 := y5) S_
    exact ⟨h1, ⟨m1_, f1_⟩, _, Or.inl rfl, r1_⟩
  · obtain ⟨h1, m1_, f1_, r1_⟩ := mfoQC (v1_ := c1_) (v2 := k_) (v3 := y3) (v4_ := v4_) (v6 := y6) (v5 := y5) (v8 := y8) (v7 := y7) S_
    exact ⟨h1, ⟨m1_, f1_⟩, _, Or.inr (Or.inr ⟨_, _, rfl⟩), r1_⟩
theorem hM_X {N_ : Int32} (S_ : sHp h_) (o : bpat h_ 338 15 = some (.int N_)) (g_ : N_.toInt ≤ v6.toInt) (H_ : hdQm c1_ k_ y3 y4 v6 v5 lo_) : ∃ h1, (ysm h_ h1 ∧ ∀ c_ j_, bpat h1 c_ j_ = bpat h_ c_ j_) ∧ ∃ lo', hdQm c1_ k_ y3 y4 0 v5 lo' ∧ bldD 60 196 70 lo_ [] h_ 163 lo' [] h1 := by
  rcases H_ with rfl | ⟨y8, y7, rfl⟩ | ⟨y8, y7, rfl⟩
  · obtain ⟨h1, m1_, f1_, r1_⟩ := mfmXA (v1_ := c1_) (v2 := k_) (v3 := y3) (v4_ := y4) (v5 := v5) (v6 := v6) S_ o g_
    exact ⟨h1, ⟨m1_, f1_⟩, _, Or.inl rfl, r1_⟩
  · obtain ⟨h1, m1_, f1_, r1_⟩ := mfmXB (v1_ := c1_) (v2 := k_) (v3 := y3) (v4_ := y4) (v5 := v5) (v6 := v6) (v8 := y8) (v7 := y7) S_ o g_
    exact ⟨h1, ⟨m1_, f1_⟩, _, Or.inr (Or.inl ⟨_, _, rfl⟩), r1_⟩
  · obtain ⟨h1, m1_, f1_, r1_⟩ := mfmXC (v1_ := c1_) (v2 := k_) (v3 := y3) (v4_ := y4) (v5 := v5) (v6 := v6) (v8 := y8) (v7 := y7) S_ o g_
    exact ⟨h1, ⟨m1_, f1_⟩, _, Or.inr (Or.inr ⟨_, _, rfl⟩), r1_⟩
theorem hM_Z {N_ : Int32} (S_ : sHp h_) (o : bpat h_ 338 15 = some (.int N_)) (g_ : v6.toInt < N_.toInt) (H_ : hdQm c1_ k_ y3 y4 v6 0 lo_) : ∃ h1, (ysm h_ h1 ∧ ∀ c_ j_, bpat h1 c_ j_ = bpat h_ c_ j_) ∧ ∃ lo', hdQm c1_ k_ y3 y4 0 0 lo' ∧ bldD 60 196 70 lo_ [] h_ 163 lo' [] h1 := by
  rcases H_ with rfl | ⟨y8, y7, rfl⟩ | ⟨y8, y7, rfl⟩
  · obtain ⟨h1, m1_, f1_, r1_⟩ := mfmZA (v1_ := c1_) (v2 := k_) (v3 := y3) (v4_ := y4) (v6 := v6) S_ o g_
    exact ⟨h1, ⟨m1_, f1_⟩, _, Or.inl rfl, r1_⟩
  · obtain ⟨h1, m1_, f1_, r1_⟩ := mfmZB (v1_ := c1_) (v2 := k_) (v3 := y3) (v4_ := y4) (v6 := v6) (v8 := y8) (v7 := y7) S_ o g_
    exact ⟨h1, ⟨m1_, f1_⟩, _, Or.inr (Or.inl ⟨_, _, rfl⟩), r1_⟩
  · obtain ⟨h1, m1_, f1_, r1_⟩ := mfmZC (v1_ := c1_) (v2 := k_) (v3 := y3) (v4_ := y4) (v6 := v6) (v8 := y8) (v7 := y7) S_ o g_
    exact ⟨h1, ⟨m1_, f1_⟩, _, Or.inr (Or.inr ⟨_, _, rfl⟩), r1_⟩
theorem hM_T {N_ : Int32} (S_ : sHp h_) (o : bpat h_ 338 15 = some (.int N_)) (g_ : v6.toInt < N_.toInt) (H_ : hdQm c1_ k_ y3 y4 v6 1 lo_) : ∃ h1, (ysm h_ h1 ∧ ∀ c_ j_, bpat h1 c_ j_ = bpat h_ c_ j_) ∧ bldD 60 196 70 lo_ [] h_ 90 [(8, .int 0), (7, .int 1), (6, .int v6), (5, .int 1), (4, .int y4), (3, .int y3), (0, .index 338), (1, .int c1_), (2, .int k_)] [] h1 := by
  rcases H_ with rfl | ⟨y8, y7, rfl⟩ | ⟨y8, y7, rfl⟩
  · obtain ⟨h1, m1_, f1_, r1_⟩ := mfmTA (v1_ := c1_) (v2 := k_) (v3 := y3) (v4_ := y4) (v6 := v6) S_ o g_
    exact ⟨h1, ⟨m1_, f1_⟩, r1_⟩
  · obtain ⟨h1, m1_, f1_, r1_⟩ := mfmTB (v1_ := c1_) (v2 := k_) (v3 := y3) (v4_ := y4) (v6 := v6) (v8 := y8) (v7 := y7) S_ o g_
    exact ⟨h1, ⟨m1_, f1_⟩, r1_⟩
  · obtain ⟨h1, m1_, f1_, r1_⟩ := mfmTC (v1_ := c1_) (v2 := k_) (v3 := y3) (v4_ := y4) (v6 := v6) (v8 := y8) (v7 := y7) S_ o g_
    exact ⟨h1, ⟨m1_, f1_⟩, r1_⟩
theorem hM_cT {N_ x_ : Int32} (S_ : sHp h_) (o : bpat h_ 338 15 = some (.int N_)) (o2 : bpat h_ 342 v6.toInt.toNat = some (.int x_)) (b0 : 0 ≤ ((13 : Int32) * N_ + v6).toInt ∧ ((13 : Int32) * N_ + v6).toInt < 1040) (b1 : 0 ≤ v6.toInt ∧ v6.toInt < 13) (g_ : v6.toInt < (13 : Int32).toInt) (H_ : hdQm c1_ k_ y3 y4 v6 1 lo_) : ∃ h1, (ysm h_ h1 ∧ (bpat h1 348 ((13 : Int32) * N_ + v6).toInt.toNat = some (.int x_) ∧ ∀ c_ j_, ¬ (c_ = 348 ∧ j_ = ((13 : Int32) * N_ + v6).toInt.toNat) → bpat h1 c_ j_ = bpat h_ c_ j_)) ∧ ∃ lo', hdQm c1_ k_ y3 y4 (v6 + 1) 1 lo' ∧ bldD 60 196 163 lo_ [] h_ 163 lo' [] h1 := by
  rcases H_ with rfl | ⟨y8, y7, rfl⟩ | ⟨y8, y7, rfl⟩
  · obtain ⟨h1, m1_, w0_, f1_, r1_⟩ := mfcTA (v1_ := c1_) (v2 := k_) (v3 := y3) (v4_ := y4) (v6 := v6) S_ o o2 b0 b1 g_
    exact ⟨h1, ⟨m1_, w0_, f1_⟩, _, Or.inl rfl, r1_⟩
  · obtain ⟨h1, m1_, w0_, f1_, r1_⟩ := mfcTB (v1_ := c1_) (v2 := k_) (v3 := y3) (v4_ := y4) (v6 := v6) (v8 := y8) (v7 := y7) S_ o o2 b0 b1 g_
    exact ⟨h1, ⟨m1_, w0_, f1_⟩, _, Or.inr (Or.inl ⟨_, _, rfl⟩), r1_⟩
  · obtain ⟨h1, m1_, w0_, f1_, r1_⟩ := mfcTC (v1_ := c1_) (v2 := k_) (v3 := y3) (v4_ := y4) (v6 := v6) (v8 := y8) (v7 := y7) S_ o o2 b0 b1 g_
    exact ⟨h1, ⟨m1_, w0_, f1_⟩, _, Or.inr (Or.inr ⟨_, _, rfl⟩), r1_⟩
theorem hM_cX {N_ : Int32} (S_ : sHp h_) (o : bpat h_ 338 15 = some (.int N_)) (g_ : (13 : Int32).toInt ≤ v6.toInt) (H_ : hdQm c1_ k_ y3 y4 v6 1 lo_) : ∃ h1, (ysm h_ h1 ∧ (bpat h1 338 15 = some (.int (N_ + 1)) ∧ ∀ c_ j_, ¬ (c_ = 338 ∧ j_ = 15) → bpat h1 c_ j_ = bpat h_ c_ j_)) ∧ ∃ lo', hdQo c1_ k_ y3 (y4 + 1) lo' ∧ bldD 60 196 163 lo_ [] h_ 29 lo' [] h1 := by
  rcases H_ with rfl | ⟨y8, y7, rfl⟩ | ⟨y8, y7, rfl⟩
  · obtain ⟨h1, m1_, w0_, f1_, r1_⟩ := mfcXA (v1_ := c1_) (v2 := k_) (v3 := y3) (v4_ := y4) (v6 := v6) S_ o g_
    exact ⟨h1, ⟨m1_, w0_, f1_⟩, _, Or.inr (Or.inl ⟨_, _, rfl⟩), r1_⟩
  · obtain ⟨h1, m1_, w0_, f1_, r1_⟩ := mfcXB (v1_ := c1_) (v2 := k_) (v3 := y3) (v4_ := y4) (v6 := v6) (v8 := y8) (v7 := y7) S_ o g_
    exact ⟨h1, ⟨m1_, w0_, f1_⟩, _, Or.inr (Or.inr ⟨_, _, _, _, rfl⟩), r1_⟩
  · obtain ⟨h1, m1_, w0_, f1_, r1_⟩ := mfcXC (v1_ := c1_) (v2 := k_) (v3 := y3) (v4_ := y4) (v6 := v6) (v8 := y8) (v7 := y7) S_ o g_
    exact ⟨h1, ⟨m1_, w0_, f1_⟩, _, Or.inr (Or.inr ⟨_, _, _, _, rfl⟩), r1_⟩
theorem hM_cZ {N_ : Int32} (S_ : sHp h_) (o : bpat h_ 338 15 = some (.int N_)) (H_ : hdQm c1_ k_ y3 y4 0 0 lo_) : ∃ h1, (ysm h_ h1 ∧ (bpat h1 338 15 = some (.int (N_ + 0)) ∧ ∀ c_ j_, ¬ (c_ = 338 ∧ j_ = 15) → bpat h1 c_ j_ = bpat h_ c_ j_)) ∧ ∃ lo', hdQo c1_ k_ y3 (y4 + 1) lo' ∧ bldD 60 196 163 lo_ [] h_ 29 lo' [] h1 := by
  rcases H_ with rfl | ⟨y8, y7, rfl⟩ | ⟨y8, y7, rfl⟩
  · obtain ⟨h1, m1_, w0_, f1_, r1_⟩ := mfcZA (v1_ := c1_) (v2 := k_) (v3 := y3) (v4_ := y4) S_ o
    exact ⟨h1, ⟨m1_, w0_, f1_⟩, _, Or.inr (Or.inl ⟨_, _, rfl⟩), r1_⟩
  · obtain ⟨h1, m1_, w0_, f1_, r1_⟩ := mfcZB (v1_ := c1_) (v2 := k_) (v3 := y3) (v4_ := y4) (v8 := y8) (v7 := y7) S_ o
    exact ⟨h1, ⟨m1_, w0_, f1_⟩, _, Or.inr (Or.inr ⟨_, _, _, _, rfl⟩), r1_⟩
  · obtain ⟨h1, m1_, w0_, f1_, r1_⟩ := mfcZC (v1_ := c1_) (v2 := k_) (v3 := y3) (v4_ := y4) (v8 := y8) (v7 := y7) S_ o
    exact ⟨h1, ⟨m1_, w0_, f1_⟩, _, Or.inr (Or.inr ⟨_, _, _, _, rfl⟩), r1_⟩
end
theorem ixm {m_ i_ : Nat} (hm_ : m_ < 80) (hi_ : i_ < 13) : ((13 : Int32) * Int32.ofNat m_ + Int32.ofNat i_).toInt = ((13 * m_ + i_ : Nat) : Int) := by
  have k_ : (List.range 80).all (fun m_ => (List.range 13).all (fun i_ => decide (((13 : Int32) * Int32.ofNat m_ + Int32.ofNat i_).toInt = ((13 * m_ + i_ : Nat) : Int)))) = true := by decide +kernel
  exact of_decide_eq_true (List.all_eq_true.mp (List.all_eq_true.mp k_ m_ (List.mem_range.mpr hm_)) i_ (List.mem_range.mpr hi_))
/-- a row of MEANINGS, the reference -/
def rwQm (m_ : Nat) (z_ : List Int32) (h_ : xH) : Prop := z_.length ≤ 12 ∧ (bpat h_ 348 (13 * m_) = some (.int (Int32.ofNat z_.length)) ∧ ∀ j_ x_, z_[j_]? = some x_ → bpat h_ 348 (13 * m_ + 1 + j_) = some (.int x_))
def meM (L_ : List (List Int32)) (h_ : xH) : Prop := bpat h_ 338 15 = some (.int (Int32.ofNat L_.length)) ∧ ∀ m_ z_, L_[m_]? = some z_ → rwQm m_ z_ h_
theorem rwQm_k {m_ : Nat} {z_ : List Int32} {h_ h' : xH} (R_ : rwQm m_ z_ h_) (f_ : ∀ j_, bpat h' 348 j_ = bpat h_ 348 j_) : rwQm m_ z_ h' := ⟨R_.1, (f_ _).trans R_.2.1, fun j_ x_ hx => (f_ _).trans (R_.2.2 j_ x_ hx)⟩
theorem meM_k {L_ : List (List Int32)} {h_ h' : xH} (M_ : meM L_ h_) (f_ : ∀ c_ j_, (c_ = 338 ∧ j_ = 15) ∨ c_ = 348 → bpat h' c_ j_ = bpat h_ c_ j_) : meM L_ h' := ⟨(f_ _ _ (Or.inl ⟨rfl, rfl⟩)).trans M_.1, fun m_ z_ hz => rwQm_k (M_.2 m_ z_ hz) (fun j_ => f_ _ _ (Or.inr rfl))⟩
/-- are these rows unlike -/
theorem fi_lp (c1_ k_ y3 y4 : Int32) (y_ z_ : List Int32) (m_ : Nat) (hm_ : m_ < 80) : ∀ (n_ i_ : Nat) (h_ : xH), i_ + n_ = y_.length + 1 → (1 ≤ i_ → z_.length = y_.length ∧ ∀ j_, j_ + 1 < i_ → z_[j_]? = y_[j_]?) → rM 342 h_ y_ → rwQm m_ z_ h_ → ∃ h' lo', (ysm h_ h' ∧ ∀ c_ j_, bpat h' c_ j_ = bpat h_ c_ j_) ∧ (hdQm c1_ k_ y3 y4 (Int32.ofNat (m_ + 1)) (bI (decide (¬ z_ = y_))) lo' ∧ bldD 60 196 90 [(8, .int (Int32.ofNat i_)), (7, .int 1), (6, .int (Int32.ofNat m_)), (5, .int 1), (4, .int y4), (3, .int y3), (0, .index 338), (1, .int c1_), (2, .int k_)] [] h_ 70 lo' [] h') := by
  intro n_
  induction n_ with
  | zero =>
    intro i_ h_ hi_ E_ R_ RZ
    obtain ⟨e1_, e2_⟩ := E_ (by omega)
    have l12 := R_.2.2
    have ez : z_ = y_ := by
      apply List.ext_getElem?
      intro j_
      by_cases g_ : j_ < y_.length
      · exact e2_ j_ (by omega)
      · rw [List.getElem?_eq_none (by omega), List.getElem?_eq_none (by omega)]
    obtain ⟨h1, m1_, f1_, ld1⟩ := mfiX1 (v1_ := c1_) (v2 := k_) (v3 := y3) (v4_ := y4) (v6 := Int32.ofNat m_) (v8 := Int32.ofNat i_) R_.1 R_.2.1.2.1 (by rw [i32n (by omega), i32n (by omega)]; omega)
    rw [i32s] at ld1
    rw [decide_eq_false (fun q_ => q_ ez)]
    exact ⟨h1, _, ⟨m1_, f1_⟩, Or.inr (Or.inl ⟨_, _, rfl⟩), ld1⟩
  | succ n_ ih_ =>
    intro i_ h_ hi_ E_ R_ RZ
    have l12 := R_.2.2
    have i13 : i_ < 13 := by omega
    have ixk := ixm hm_ i13
    have ii := i32n (i_ := i_) (by omega)
    have iL := i32n (i_ := y_.length) (by omega)
    have ab : ∃ a_ b_ : Int32, (bpat h_ 348 (13 * m_ + i_) = some (.int a_) ∧ bpat h_ 342 i_ = some (.int b_)) ∧ ((a_ = b_ → (1 ≤ i_ + 1 → z_.length = y_.length ∧ ∀ j_, j_ + 1 < i_ + 1 → z_[j_]? = y_[j_]?)) ∧ (¬ a_ = b_ → ¬ z_ = y_)) := by
      cases i_ with
      | zero =>
        refine ⟨_, _, ⟨RZ.2.1, R_.2.1.2.1⟩, fun q_ _ => ⟨?_, fun j_ hj => by omega⟩, fun q_ e_ => q_ (by rw [e_])⟩
        have q2_ := congrArg Int32.toInt q_
        have lz := RZ.1
        rw [i32n (by omega), i32n (by omega)] at q2_
        omega
      | succ i_ =>
        obtain ⟨e1_, e2_⟩ := E_ (by omega)
        have hz : z_[i_]? = some (z_.getD i_ 0) := getD_a (by omega)
        have hy : y_[i_]? = some (y_.getD i_ 0) := getD_a (by omega)
        refine ⟨z_.getD i_ 0, y_.getD i_ 0, ⟨by have q_ := RZ.2.2 i_ _ hz; rw [show 13 * m_ + 1 + i_ = 13 * m_ + (i_ + 1) by omega] at q_; exact q_, by have q_ := R_.2.1.2.2 i_ _ hy; rw [show 0 + 1 + i_ = i_ + 1 by omega] at q_; exact q_⟩, fun q_ _ => ⟨e1_, fun j_ hj => ?_⟩, fun q_ e_ => q_ (by rw [e_])⟩
        by_cases g_ : j_ = i_
        · rw [g_, hz, hy, q_]
        · exact e2_ j_ (by omega)
    obtain ⟨a_, b_, ⟨ea, eb⟩, p1_, p2_⟩ := ab
    by_cases g_ : a_ = b_
    · obtain ⟨h1, m1_, f1_, ld1⟩ := mfiT1 (v1_ := c1_) (v2 := k_) (v3 := y3) (v4_ := y4) (v6 := Int32.ofNat m_) (v8 := Int32.ofNat i_) R_.1 R_.2.1.2.1 (by rw [ixk, Int.toNat_natCast]; exact ea) (by rw [i32t (by omega)]; exact eb) ⟨by omega, by omega⟩ ⟨by omega, by omega⟩ g_ (by omega)
      rw [i32s] at ld1
      obtain ⟨h2, lo', ⟨m2_, f2_⟩, H2_, ld2⟩ := ih_ (i_ + 1) h1 (by omega) (p1_ g_) (rM_all R_ m1_ f1_) (rwQm_k RZ (fun j_ => f1_ _ _))
      exact ⟨h2, lo', ⟨ysm_tr m1_ m2_, fun c_ j_ => (f2_ c_ j_).trans (f1_ c_ j_)⟩, H2_, fun D_ hD oo q_ => ld1 D_ hD oo (ld2 D_ hD oo q_)⟩
    · obtain ⟨h1, m1_, f1_, ld1⟩ := mfiT0 (v1_ := c1_) (v2 := k_) (v3 := y3) (v4_ := y4) (v6 := Int32.ofNat m_) (v8 := Int32.ofNat i_) R_.1 R_.2.1.2.1 (by rw [ixk, Int.toNat_natCast]; exact ea) (by rw [i32t (by omega)]; exact eb) ⟨by omega, by omega⟩ ⟨by omega, by omega⟩ g_ (by omega)
      rw [i32s] at ld1
      have R1 := rM_all R_ m1_ f1_
      rw [decide_eq_true (p2_ g_)]
      by_cases g2 : i_ + 1 ≤ y_.length
      · obtain ⟨h2, m2_, f2_, ld2⟩ := mfiZ (v1_ := c1_) (v2 := k_) (v3 := y3) (v4_ := y4) (v6 := Int32.ofNat m_) (v8 := Int32.ofNat (i_ + 1)) R1.1 R1.2.1.2.1 (by rw [i32n (by omega), i32n (by omega)]; omega)
        rw [i32s] at ld2
        exact ⟨h2, _, ⟨ysm_tr m1_ m2_, fun c_ j_ => (f2_ c_ j_).trans (f1_ c_ j_)⟩, Or.inr (Or.inl ⟨_, _, rfl⟩), fun D_ hD oo q_ => ld1 D_ hD oo (ld2 D_ hD oo q_)⟩
      · obtain ⟨h2, m2_, f2_, ld2⟩ := mfiX0 (v1_ := c1_) (v2 := k_) (v3 := y3) (v4_ := y4) (v6 := Int32.ofNat m_) (v8 := Int32.ofNat (i_ + 1)) R1.1 R1.2.1.2.1 (by rw [i32n (by omega), i32n (by omega)]; omega)
        rw [i32s] at ld2
        exact ⟨h2, _, ⟨ysm_tr m1_ m2_, fun c_ j_ => (f2_ c_ j_).trans (f1_ c_ j_)⟩, Or.inr (Or.inl ⟨_, _, rfl⟩), fun D_ hD oo q_ => ld1 D_ hD oo (ld2 D_ hD oo q_)⟩
section
variable {c1_ k_ y3 y4 : Int32}
/-- is this row unlike all that are known -/
theorem fm_lp {y_ : List Int32} {L_ : List (List Int32)} (hL : L_.length ≤ 73) : ∀ (n_ m_ : Nat) (g_ : Bool) (h_ : xH) (lo_ : xL), m_ + n_ = L_.length → meM L_ h_ → rM 342 h_ y_ → hdQm c1_ k_ y3 y4 (Int32.ofNat m_) (bI g_) lo_ → (g_ = true → ∀ j_, j_ < m_ → ¬ L_.getD j_ [] = y_) → (g_ = false → y_ ∈ L_) → ∃ h' lo', (ysm h_ h' ∧ ∀ c_ j_, bpat h' c_ j_ = bpat h_ c_ j_) ∧ (hdQm c1_ k_ y3 y4 0 (bI (decide (¬ y_ ∈ L_))) lo' ∧ bldD 60 196 70 lo_ [] h_ 163 lo' [] h') := by
  intro n_
  induction n_ with
  | zero =>
    intro m_ g_ h_ lo_ hm_ M_ R_ H_ gt gf
    obtain ⟨h1, ⟨m1_, f1_⟩, lo', H1_, ld1⟩ := hM_X R_.1 M_.1 (by rw [i32n (by omega), i32n (by omega)]; omega) H_
    have eg : g_ = decide (¬ y_ ∈ L_) := by
      cases g_ with
      | false => exact (decide_eq_false (fun q_ => q_ (gf rfl))).symm
      | true =>
        have ny : ¬ y_ ∈ L_ := fun q_ => by
          obtain ⟨j_, hj⟩ := List.getElem?_of_mem q_
          have lj := (List.getElem?_eq_some_iff.mp hj).1
          exact gt rfl j_ (by omega) (by rw [List.getD_eq_getElem?_getD, hj]; rfl)
        exact (decide_eq_true ny).symm
    rw [eg] at H1_
    exact ⟨h1, lo', ⟨m1_, f1_⟩, H1_, ld1⟩
  | succ n_ ih_ =>
    intro m_ g_ h_ lo_ hm_ M_ R_ H_ gt gf
    have lt_ : (Int32.ofNat m_).toInt < (Int32.ofNat L_.length).toInt := by rw [i32n (by omega), i32n (by omega)]; omega
    cases g_ with
    | false =>
      obtain ⟨h1, ⟨m1_, f1_⟩, lo', H1_, ld1⟩ := hM_Z R_.1 M_.1 lt_ H_
      rw [decide_eq_false (fun q_ => q_ (gf rfl))]
      exact ⟨h1, lo', ⟨m1_, f1_⟩, H1_, ld1⟩
    | true =>
      obtain ⟨h1, ⟨m1_, f1_⟩, ld1⟩ := hM_T R_.1 M_.1 lt_ H_
      have M1_ := meM_k M_ (fun c_ j_ _ => f1_ c_ j_)
      have R1 := rM_all R_ m1_ f1_
      obtain ⟨h2, lo2, ⟨m2_, f2_⟩, H2_, ld2⟩ := fi_lp c1_ k_ y3 y4 y_ (L_.getD m_ []) m_ (by omega) (y_.length + 1) 0 h1 (by omega) (fun q_ => by omega) R1 (M1_.2 m_ _ (gD_at (by omega)))
      obtain ⟨h3, lo3, ⟨m3_, f3_⟩, H3, ld3⟩ := ih_ (m_ + 1) (decide (¬ L_.getD m_ [] = y_)) h2 lo2 (by omega) (meM_k M1_ (fun c_ j_ _ => f2_ c_ j_)) (rM_all R1 m2_ f2_) H2_ (fun q_ j_ hj => by
        have q2_ := of_decide_eq_true q_
        by_cases e_ : j_ = m_
        · rw [e_]; exact q2_
        · exact gt rfl j_ (by omega)) (fun q_ => by
        have q2_ := of_decide_eq_false q_
        have q3_ : L_.getD m_ [] = y_ := Decidable.not_not.mp q2_
        rw [← q3_]
        exact gD_in (by omega))
      exact ⟨h3, lo3, ⟨ysm_tr m1_ (ysm_tr m2_ m3_), fun c_ j_ => (f3_ c_ j_).trans ((f2_ c_ j_).trans (f1_ c_ j_))⟩, H3, fun D_ hD oo q_ => ld1 D_ hD oo (ld2 D_ hD oo (ld3 D_ hD oo q_))⟩
/-- a row is kept -/
theorem fc_lp {N_ : Nat} (hN_ : N_ < 80) : ∀ (n_ i_ : Nat) (h_ : xH) (lo_ : xL), i_ + n_ = 13 → sHp h_ → r13 342 h_ → bpat h_ 338 15 = some (.int (Int32.ofNat N_)) → (∀ j_, j_ < i_ → bpat h_ 348 (13 * N_ + j_) = bpat h_ 342 j_) → hdQm c1_ k_ y3 y4 (Int32.ofNat i_) 1 lo_ → ∃ h' lo', (ysm h_ h' ∧ ∀ c_ j_, ¬ (c_ = 338 ∧ j_ = 15) → ¬ (c_ = 348 ∧ (13 * N_ ≤ j_ ∧ j_ < 13 * N_ + 13)) → bpat h' c_ j_ = bpat h_ c_ j_) ∧ (((∀ j_, j_ < 13 → bpat h' 348 (13 * N_ + j_) = bpat h_ 342 j_) ∧ bpat h' 338 15 = some (.int (Int32.ofNat (N_ + 1)))) ∧ (hdQo c1_ k_ y3 (y4 + 1) lo' ∧ bldD 60 196 163 lo_ [] h_ 29 lo' [] h')) := by
  intro n_
  have z13_ : (13 : Int32).toInt = 13 := rfl
  induction n_ with
  | zero =>
    intro i_ h_ lo_ hi_ S_ Q_ o D0 H_
    obtain ⟨h1, ⟨m1_, w0_, f1_⟩, lo', H1_, ld1⟩ := hM_cX S_ o (by rw [i32n (by omega)]; omega) H_
    rw [i32s] at w0_
    exact ⟨h1, lo', ⟨m1_, fun c_ j_ n1_ _ => f1_ c_ j_ n1_⟩, ⟨fun j_ hj => (f1_ _ _ (by omega)).trans (D0 j_ (by omega)), w0_⟩, H1_, ld1⟩
  | succ n_ ih_ =>
    intro i_ h_ lo_ hi_ S_ Q_ o D0 H_
    obtain ⟨x_, ex_⟩ := Q_ i_ (by omega)
    have ixk := ixm hN_ (show i_ < 13 by omega)
    have ii := i32n (i_ := i_) (by omega)
    obtain ⟨h1, ⟨m1_, w0_, f1_⟩, lo1, H1_, ld1⟩ := hM_cT S_ o (show bpat h_ 342 (Int32.ofNat i_).toInt.toNat = some (.int x_) by rw [i32t (by omega)]; exact ex_) ⟨by omega, by omega⟩ ⟨by omega, by omega⟩ (by omega) H_
    rw [i32s] at H1_
    rw [show ((13 : Int32) * Int32.ofNat N_ + Int32.ofNat i_).toInt.toNat = 13 * N_ + i_ by rw [ixk]; rfl] at w0_ f1_
    obtain ⟨h2, lo2, ⟨m2_, f2_⟩, ⟨d2_, w2_⟩, H2_, ld2⟩ := ih_ (i_ + 1) h1 lo1 (by omega) m1_.1 (r13_k Q_ (fun j_ => f1_ _ _ (by omega))) ((f1_ _ _ (by omega)).trans o) (fun j_ hj => by
      by_cases e_ : j_ = i_
      · rw [e_, w0_, f1_ _ _ (by omega), ex_]
      · rw [f1_ _ _ (by omega), f1_ _ _ (by omega)]
        exact D0 j_ (by omega)) H1_
    exact ⟨h2, lo2, ⟨ysm_tr m1_ m2_, fun c_ j_ n1_ n2_ => (f2_ c_ j_ n1_ n2_).trans (f1_ c_ j_ (by omega))⟩, ⟨fun j_ hj => (d2_ j_ hj).trans (f1_ _ _ (by omega)), w2_⟩, H2_, fun D_ hD oo q_ => ld1 D_ hD oo (ld2 D_ hD oo q_)⟩
end
section
variable {W_ : Nat → List Int32} {V : Nat → Int32}
theorem waO_z (hN_ : nR V ≤ 8) {x_ y_ : List Int32} {n_ : Nat} (hn : n_ ≤ 99) (e_ : waO W_ V x_ n_ = some y_) : y_ ∈ mzF (uO W_ V) x_ 2 := by
  rcases (mea_2 hN_).mp ⟨n_, hn, e_⟩ with (g_ | ⟨r_, a_, b_⟩) | ⟨r_, a_, u_, b_, q_, c_, d_⟩
  · exact mzF_w (by omega : 0 ≤ 2) (List.mem_singleton.mpr g_)
  · exact mzF_w (by omega : 1 ≤ 2) (mzF_1.mpr (Or.inr ⟨r_, by omega, b_⟩))
  · exact mzF_s (by omega : 1 < 2) (mzF_1.mpr (Or.inr ⟨r_, by omega, b_⟩)) (by omega : q_ < 8) d_
theorem meM_S {h_ h' : xH} (H_ : SM W_ V h_) (m_ : ysm h_ h') (f_ : ∀ c_ j_, ¬ (c_ = 338 ∧ j_ = 15) → ¬ c_ = 348 → bpat h' c_ j_ = bpat h_ c_ j_) : SM W_ V h' := SM_fr H_ m_ (fun c_ j_ hc_ => f_ c_ j_ (fun q_ => by rw [q_.1, q_.2] at hc_; exact absurd hc_ (by decide)) (fun q_ => by rw [q_] at hc_; exact absurd hc_ (by simp [smc])))
/-- findMeant's WAYS -/
theorem fw_lp (K_ : okS W_ V) {c_ : Nat} (mo : Nat) (hc_ : c_ < 12) (hmo : mo ≤ 99) {k_ : Int32} : ∀ (n_ u_ : Nat) (L_ : List (List Int32)) (h_ : xH) (lo_ : xL), u_ + n_ = mo + 1 → SM W_ V h_ → (∀ j_, j_ < 768 → ∃ y_ : Int32, bpat h_ 339 j_ = some (.int y_)) → meM L_ h_ → ndp L_ → (∀ y_ ∈ L_, y_ ∈ mzF (uO W_ V) (W_ c_) 2) → hdQo (Int32.ofNat c_) k_ (Int32.ofNat mo) (Int32.ofNat u_) lo_ → ∃ h', (SM W_ V h' ∧ ysm h_ h') ∧ (meM (adF (waO W_ V (W_ c_)) n_ u_ L_) h' ∧ ∀ D_, 72 ≤ D_ → xrun D_ 196 29 lo_ [] h_ (none, h', [])) := by
  intro n_
  have lM : (mzF (uO W_ V) (W_ c_) 2).length ≤ 73 := mzF_l
  have n8 := (nR_le K_).1
  have imo := i32n (i_ := mo) (by omega)
  induction n_ with
  | zero =>
    intro u_ L_ h_ lo_ hu H_ hz M_ ND_ SB hd_
    obtain ⟨h1, ⟨m1_, f1_⟩, r1_⟩ := hO_X H_.1 (by rw [imo, i32n (by omega)]; omega) hd_
    exact ⟨h1, ⟨SM_fr H_ m1_ (fun c_ j_ _ => f1_ c_ j_), m1_⟩, meM_k M_ (fun c_ j_ _ => f1_ c_ j_), fun D_ hD => r1_ D_ (by omega)⟩
  | succ n_ ih_ =>
    intro u_ L_ h_ lo_ hu H_ hz M_ ND_ SB hd_
    have lL := Nat.le_trans (ndp_le L_ _ ND_ SB) lM
    have iu := i32n (i_ := u_) (by omega)
    obtain ⟨h1, ⟨m1_, f1_⟩, ld1⟩ := hO_W H_.1 (by omega) hd_
    have H1_ := SM_fr H_ m1_ (fun c_ j_ _ => f1_ c_ j_)
    have b1 : 338 < h1.length := bcq_lt (bcq_of (n_ := 338) (z_ := (12, 26)) H1_.1 rfl)
    obtain ⟨h2, ⟨H2_, F2⟩, e2_⟩ := c_isw (mi := 196) (pc := 38) (lo_ := lo_) (z_ := Int32.ofNat u_) (s' := []) rfl (hO_cc b1 hd_) K_ H1_
    have g2 : ∀ c_ j_, bpat h2 c_ j_ = bpat h_ c_ j_ := fun c_ j_ => (F2.2 c_ j_).trans (f1_ c_ j_)
    have m2_ := ysm_tr m1_ F2.1
    show ∃ h', (SM W_ V h' ∧ ysm h_ h') ∧ (meM (adF (waO W_ V (W_ c_)) n_ (u_ + 1) (ado L_ (waO W_ V (W_ c_) u_))) h' ∧ _)
    rcases e2_ with ⟨gw, ld2⟩ | ⟨gw, ld2⟩
    rotate_left
    · have eu : waO W_ V (W_ c_) u_ = none := pif_f (fun q_ => gw q_.1)
      rw [eu]
      obtain ⟨h3, ⟨m3_, f3_⟩, lo3, hd3, ld3⟩ := hO_N H2_.1 hd_
      rw [i32s] at hd3
      obtain ⟨h4, ⟨H4, m4_⟩, M4_, r4⟩ := ih_ (u_ + 1) L_ h3 lo3 (by omega) (SM_fr H2_ m3_ (fun c_ j_ _ => f3_ c_ j_)) (fun j_ hj => by rw [f3_, g2]; exact hz j_ hj) (meM_k M_ (fun c_ j_ _ => (f3_ c_ j_).trans (g2 c_ j_))) ND_ SB hd3
      exact ⟨h4, ⟨H4, ysm_tr m2_ (ysm_tr m3_ m4_)⟩, M4_, fun D_ hD => ld1 D_ (by omega) _ (ld2 D_ (by omega) _ (ld3 D_ (by omega) _ (r4 D_ hD)))⟩
    obtain ⟨h3, ⟨m3_, f3_⟩, ld3⟩ := hO_U H2_.1 hd_
    have H3 := SM_fr H2_ m3_ (fun c_ j_ _ => f3_ c_ j_)
    have T3 : bcq h3 338 12 26 := bcq_of (n_ := 338) (z_ := (12, 26)) H3.1 rfl
    obtain ⟨h4, F4, r4⟩ := cuM n8 K_ gw H3
    have ld4 := ycv (d_ := 60) (mi := 196) (pc := 47) (cm := 157) (lo_ := lo_) (st_ := [.int (Int32.ofNat u_), .index 338]) (as_ := [.int (Int32.ofNat u_)]) (s' := []) rfl rfl T3 rfl (hO_cc (bcq_lt T3) hd_) r4
    have H4 := SM_fr H3 F4.1 (fun c_ j_ _ => F4.2 c_ j_)
    have g4 : ∀ c_ j_, bpat h4 c_ j_ = bpat h_ c_ j_ := fun c_ j_ => (F4.2 c_ j_).trans ((f3_ c_ j_).trans (g2 c_ j_))
    have m4_ := ysm_tr m2_ (ysm_tr m3_ F4.1)
    by_cases gc_ : cuL V (wyl (Int32.ofNat u_))
    rotate_left
    · rw [pif_f gc_] at ld4
      have eu : waO W_ V (W_ c_) u_ = none := pif_f (fun q_ => gc_ q_.2)
      rw [eu]
      obtain ⟨h5, ⟨m5_, f5_⟩, lo5, hd5, ld5⟩ := hO_M H4.1 hd_
      rw [i32s] at hd5
      obtain ⟨h6, ⟨H6, m6_⟩, M6_, r6⟩ := ih_ (u_ + 1) L_ h5 lo5 (by omega) (SM_fr H4 m5_ (fun c_ j_ _ => f5_ c_ j_)) (fun j_ hj => by rw [f5_, g4]; exact hz j_ hj) (meM_k M_ (fun c_ j_ _ => (f5_ c_ j_).trans (g4 c_ j_))) ND_ SB hd5
      exact ⟨h6, ⟨H6, ysm_tr m4_ (ysm_tr m5_ m6_)⟩, M6_, fun D_ hD => ld1 D_ (by omega) _ (ld2 D_ (by omega) _ (ld3 D_ (by omega) _ (ld4 D_ (by omega) _ (ld5 D_ (by omega) _ (r6 D_ hD)))))⟩
    rw [pif_t gc_] at ld4
    obtain ⟨h5, ⟨m5_, f5_⟩, ld5⟩ := hO_P H4.1 hd_
    have H5 := SM_fr H4 m5_ (fun c_ j_ _ => f5_ c_ j_)
    have T5 : bcq h5 338 12 26 := bcq_of (n_ := 338) (z_ := (12, 26)) H5.1 rfl
    have g5_ : ∀ c_ j_, bpat h5 c_ j_ = bpat h_ c_ j_ := fun c_ j_ => (f5_ c_ j_).trans (g4 c_ j_)
    obtain ⟨h6, y_, ⟨H6, F6⟩, ⟨eu, R6⟩, r6⟩ := neQ K_ H5 hc_ (by omega) gw gc_ (fun j_ hj => by rw [g5_]; exact hz j_ hj)
    have ld6 := ycv (d_ := 70) (mi := 196) (pc := 61) (cm := 158) (lo_ := lo_) (st_ := [.index 342, .int (Int32.ofNat u_), .int (Int32.ofNat c_), .index 338]) (as_ := [.int (Int32.ofNat c_), .int (Int32.ofNat u_), .index 342]) (s' := []) rfl rfl T5 rfl (hO_cc (bcq_lt T5) hd_) r6
    rw [eu]
    have hy := waO_z n8 (by omega) eu
    have M6_ : meM L_ h6 := meM_k M_ (fun c_ j_ hcj => (F6.2 c_ j_ (by omega) (by omega) (by omega)).trans (g5_ c_ j_))
    have hz6 : ∀ j_, j_ < 768 → ∃ y_ : Int32, bpat h6 339 j_ = some (.int y_) := fun j_ hj => by rw [F6.2 339 j_ (by omega) (by omega) (by omega), g5_]; exact hz j_ hj
    obtain ⟨h7, ⟨m7_, f7_⟩, lo7, hd7, ld7⟩ := hO_Q H6.1 hd_
    have H7 := SM_fr H6 m7_ (fun c_ j_ _ => f7_ c_ j_)
    have M7_ := meM_k M6_ (fun c_ j_ _ => f7_ c_ j_)
    have R7 := rMq_all R6 m7_ f7_
    obtain ⟨h8, lo8, ⟨m8_, f8_⟩, hd8, ld8⟩ := fm_lp lL L_.length 0 true h7 lo7 (by omega) M7_ R7.1 hd7 (fun _ j_ hj => by omega) (fun q_ => by cases q_)
    have H8 := SM_fr H7 m8_ (fun c_ j_ _ => f8_ c_ j_)
    have M8_ := meM_k M7_ (fun c_ j_ _ => f8_ c_ j_)
    have R8 := rMq_all R7 m8_ f8_
    have m08 := ysm_tr m4_ (ysm_tr m5_ (ysm_tr F6.1 (ysm_tr m7_ m8_)))
    have hz8 : ∀ j_, j_ < 768 → ∃ y_ : Int32, bpat h8 339 j_ = some (.int y_) := fun j_ hj => by rw [f8_, f7_]; exact hz6 j_ hj
    show ∃ h', (SM W_ V h' ∧ ysm h_ h') ∧ (meM (adF (waO W_ V (W_ c_)) n_ (u_ + 1) (adu L_ y_)) h' ∧ _)
    have SB2 : ∀ z_ ∈ adu L_ y_, z_ ∈ mzF (uO W_ V) (W_ c_) 2 := fun z_ hz => (adu_m.mp hz).elim (SB z_) (fun q_ => by rw [q_]; exact hy)
    by_cases gy : y_ ∈ L_
    · rw [decide_eq_false (fun q_ => q_ gy)] at hd8
      obtain ⟨h9, ⟨m9_, w9, f9_⟩, lo9, hd9, ld9⟩ := hM_cZ H8.1 M8_.1 hd8
      rw [i32s] at hd9
      rw [Int32.add_zero] at w9
      have H9 := meM_S H8 m9_ (fun c_ j_ n1_ _ => f9_ c_ j_ n1_)
      have M9_ : meM L_ h9 := ⟨w9, fun m_ z_ hz => rwQm_k (M8_.2 m_ z_ hz) (fun j_ => f9_ _ _ (by omega))⟩
      have ea : adu L_ y_ = L_ := if_pos gy
      rw [ea]
      obtain ⟨h10, ⟨H10, m10_⟩, M10, r10⟩ := ih_ (u_ + 1) L_ h9 lo9 (by omega) H9 (fun j_ hj => by rw [f9_ _ _ (by omega)]; exact hz8 j_ hj) M9_ ND_ SB hd9
      exact ⟨h10, ⟨H10, ysm_tr m08 (ysm_tr m9_ m10_)⟩, M10, fun D_ hD => ld1 D_ (by omega) _ (ld2 D_ (by omega) _ (ld3 D_ (by omega) _ (ld4 D_ (by omega) _ (ld5 D_ (by omega) _ (ld6 D_ (by omega) _ (ld7 D_ (by omega) _ (ld8 D_ (by omega) _ (ld9 D_ (by omega) _ (r10 D_ hD)))))))))⟩
    · rw [decide_eq_true gy] at hd8
      obtain ⟨h9, lo9, ⟨m9_, f9_⟩, ⟨d9_, w9⟩, hd9, ld9⟩ := fc_lp (by omega) 13 0 h8 lo8 (by omega) H8.1 R8.2 M8_.1 (fun j_ hj => by omega) hd8
      rw [i32s] at hd9
      have H9 := meM_S H8 m9_ (fun c_ j_ n1_ n2_ => f9_ c_ j_ n1_ (fun q_ => n2_ q_.1))
      have ea : adu L_ y_ = L_ ++ [y_] := if_neg gy
      have M9_ : meM (L_ ++ [y_]) h9 := by
        refine ⟨by rw [List.length_append]; exact w9, fun m_ z_ hz => ?_⟩
        have lm := (List.getElem?_eq_some_iff.mp hz).1
        rw [List.length_append] at lm
        have l1 : [y_].length = 1 := rfl
        by_cases g_ : m_ < L_.length
        · rw [List.getElem?_append_left g_] at hz
          obtain ⟨a1_, a2, a3⟩ := M8_.2 m_ z_ hz
          exact ⟨a1_, (f9_ _ _ (by omega) (by omega)).trans a2, fun j_ x_ hx => by
            have lj := (List.getElem?_eq_some_iff.mp hx).1
            exact (f9_ _ _ (by omega) (by omega)).trans (a3 j_ x_ hx)⟩
        · have em : m_ = L_.length := by omega
          subst em
          rw [List.getElem?_append_right (Nat.le_refl _), Nat.sub_self] at hz
          have ez : y_ = z_ := Option.some.inj hz
          rw [← ez]
          have l12 := R8.1.2.2
          refine ⟨l12, ?_, fun j_ x_ hx => ?_⟩
          · have q_ := d9_ 0 (by omega)
            rw [Nat.add_zero] at q_
            exact q_.trans R8.1.2.1.2.1
          · have lj := (List.getElem?_eq_some_iff.mp hx).1
            have q_ := d9_ (1 + j_) (by omega)
            rw [← Nat.add_assoc] at q_
            have q2_ := R8.1.2.1.2.2 j_ x_ hx
            rw [show 0 + 1 + j_ = 1 + j_ by omega] at q2_
            exact q_.trans q2_
      obtain ⟨h10, ⟨H10, m10_⟩, M10, r10⟩ := ih_ (u_ + 1) (adu L_ y_) h9 lo9 (by omega) H9 (fun j_ hj => by rw [f9_ _ _ (by omega) (by omega)]; exact hz8 j_ hj) (by rw [ea]; exact M9_) (adu_d ND_) SB2 hd9
      exact ⟨h10, ⟨H10, ysm_tr m08 (ysm_tr m9_ m10_)⟩, M10, fun D_ hD => ld1 D_ (by omega) _ (ld2 D_ (by omega) _ (ld3 D_ (by omega) _ (ld4 D_ (by omega) _ (ld5 D_ (by omega) _ (ld6 D_ (by omega) _ (ld7 D_ (by omega) _ (ld8 D_ (by omega) _ (ld9 D_ (by omega) _ (r10 D_ hD)))))))))⟩
theorem fmM (K_ : okS W_ V) {c_ : Nat} (hc_ : c_ < 12) (k_ : Int32) (hk : 0 ≤ k_.toInt ∧ k_.toInt ≤ 2) {h_ : xH} (H_ : SM W_ V h_) (hz : ∀ j_, j_ < 768 → ∃ y_ : Int32, bpat h_ 339 j_ = some (.int y_)) : ∃ h', (SM W_ V h' ∧ ysm h_ h') ∧ (meM (meaM W_ V (W_ c_) k_.toInt.toNat) h' ∧ ∀ D_, 72 ≤ D_ → xrun D_ 196 0 [(0, .index 338), (1, .int (Int32.ofNat c_)), (2, .int k_)] [] h_ (none, h', [])) := by
  rcases (show k_.toInt = 0 ∨ (k_.toInt = 1 ∨ k_.toInt = 2) by omega) with ek | ek | ek
  · have ek2 : k_ = 0 := Int32.toInt_inj.mp (by rw [ek]; rfl)
    have ek3 : k_.toInt.toNat = 0 := by rw [ek]; rfl
    rw [ek3]
    subst ek2
    obtain ⟨h1, m1_, w0_, f1_, ld1⟩ := mfE0 (v1_ := Int32.ofNat c_) H_.1
    have H1_ := meM_S H_ m1_ (fun c_ j_ n1_ _ => f1_ c_ j_ n1_)
    have M1_ : meM [] h1 := ⟨w0_, fun m_ z_ hz => by cases hz⟩
    obtain ⟨h2, ⟨H2_, m2_⟩, M2_, r2⟩ := fw_lp K_ 0 hc_ (by omega) (0 + 1) 0 [] h1 _ (by omega) H1_ (fun j_ hj => by rw [f1_ _ _ (by omega)]; exact hz j_ hj) M1_ List.Pairwise.nil (fun y_ hy => absurd hy List.not_mem_nil) (Or.inl rfl)
    exact ⟨h2, ⟨H2_, ysm_tr m1_ m2_⟩, M2_, fun D_ hD => ld1 D_ (by omega) _ (r2 D_ hD)⟩
  · have ek2 : k_ = 1 := Int32.toInt_inj.mp (by rw [ek]; rfl)
    have ek3 : k_.toInt.toNat = 1 := by rw [ek]; rfl
    rw [ek3]
    subst ek2
    obtain ⟨h1, m1_, w0_, f1_, ld1⟩ := mfE1 (v1_ := Int32.ofNat c_) H_.1
    have H1_ := meM_S H_ m1_ (fun c_ j_ n1_ _ => f1_ c_ j_ n1_)
    have M1_ : meM [] h1 := ⟨w0_, fun m_ z_ hz => by cases hz⟩
    obtain ⟨h2, ⟨H2_, m2_⟩, M2_, r2⟩ := fw_lp K_ 9 hc_ (by omega) (9 + 1) 0 [] h1 _ (by omega) H1_ (fun j_ hj => by rw [f1_ _ _ (by omega)]; exact hz j_ hj) M1_ List.Pairwise.nil (fun y_ hy => absurd hy List.not_mem_nil) (Or.inl rfl)
    exact ⟨h2, ⟨H2_, ysm_tr m1_ m2_⟩, M2_, fun D_ hD => ld1 D_ (by omega) _ (r2 D_ hD)⟩
  · have ek2 : k_ = 2 := Int32.toInt_inj.mp (by rw [ek]; rfl)
    have ek3 : k_.toInt.toNat = 2 := by rw [ek]; rfl
    rw [ek3]
    subst ek2
    obtain ⟨h1, m1_, w0_, f1_, ld1⟩ := mfE2 (v1_ := Int32.ofNat c_) H_.1
    have H1_ := meM_S H_ m1_ (fun c_ j_ n1_ _ => f1_ c_ j_ n1_)
    have M1_ : meM [] h1 := ⟨w0_, fun m_ z_ hz => by cases hz⟩
    obtain ⟨h2, ⟨H2_, m2_⟩, M2_, r2⟩ := fw_lp K_ 99 hc_ (by omega) (99 + 1) 0 [] h1 _ (by omega) H1_ (fun j_ hj => by rw [f1_ _ _ (by omega)]; exact hz j_ hj) M1_ List.Pairwise.nil (fun y_ hy => absurd hy List.not_mem_nil) (Or.inl rfl)
    exact ⟨h2, ⟨H2_, ysm_tr m1_ m2_⟩, M2_, fun D_ hD => ld1 D_ (by omega) _ (r2 D_ hD)⟩
end
theorem m_meant {W_ : Nat → List Int32} {V : Nat → Int32} {h_ : xH} {z_ k_ : Int32} (B_ : bInv bZ bIj h_) (K_ : okS W_ V) (H_ : SM W_ V h_) : ∃ h', ysm h_ h' ∧ (SM (meantF W_ V z_ k_).1 (meantF W_ V z_ k_).2.1 h' ∧ ∀ D_, 76 ≤ D_ → xrun D_ 197 0 [(0, .index 338), (1, .int z_), (2, .int k_)] [] h_ (some (.int (meantF W_ V z_ k_).2.2), h', [])) := by
  obtain ⟨y_, oy⟩ := merr (k_ := 1) B_ (by omega)
  have zz := z0_
  have z2 : (2 : Int32).toInt = 2 := rfl
  have kN_ := okN K_
  have n1_ := i32j (V 0) kN_.1 (by omega)
  have hz := m339 B_
  unfold meantF
  obtain ⟨h0, m0_, e_⟩ := mmnE (v1_ := z_) (v2 := k_) H_.1 (mNc H_) oy
  rcases e_ with ⟨g1, g2, g3_, g4, f_, r_⟩ | ⟨g1, w0_, f_, r_⟩ | ⟨g1, g2, w0_, f_, r_⟩ | ⟨g1, g2, g3_, w0_, f_, r_⟩ | ⟨g1, g2, g3_, g4, w0_, f_, r_⟩
  rotate_left
  · rw [if_neg (fun q_ => by omega)]; exact ⟨h0, m0_, SM_e H_ m0_ f_, fun D_ hD => r_ D_ (by omega)⟩
  · rw [if_neg (fun q_ => by omega)]; exact ⟨h0, m0_, SM_e H_ m0_ f_, fun D_ hD => r_ D_ (by omega)⟩
  · rw [if_neg (fun q_ => by omega)]; exact ⟨h0, m0_, SM_e H_ m0_ f_, fun D_ hD => r_ D_ (by omega)⟩
  · rw [if_neg (fun q_ => by omega)]; exact ⟨h0, m0_, SM_e H_ m0_ f_, fun D_ hD => r_ D_ (by omega)⟩
  have H0 := SM_fr H_ m0_ (fun c_ j_ _ => f_ c_ j_)
  obtain ⟨c_, hc_, hN_, rfl, ec⟩ := isC_n (z_ := z_) K_ ⟨by omega, by omega⟩
  rw [if_pos ⟨⟨by omega, by omega⟩, by omega, by omega⟩, ec, mea_l (nR_le K_).1 (by omega)]
  obtain ⟨h1, ⟨H1_, m1_⟩, M1_, r1_⟩ := fmM K_ hc_ k_ ⟨by omega, by omega⟩ H0 (fun j_ hj => by rw [f_]; exact hz j_ hj)
  have ld1 := ycv (d_ := 72) (mi := 197) (pc := 26) (cm := 196) (lo_ := [(0, .index 338), (1, .int (Int32.ofNat c_)), (2, .int k_)]) (st_ := [.int k_, .int (Int32.ofNat c_), .index 338]) (as_ := [.int (Int32.ofNat c_), .int k_]) (s' := []) rfl rfl (bcq_of (n_ := 338) (z_ := (12, 26)) H0.1 rfl) rfl (xcc_l (List.forall_mem_cons.mpr ⟨xidx_i (bcq_lt (bcq_of (n_ := 338) (z_ := (12, 26)) H0.1 rfl)), List.forall_mem_cons.mpr ⟨rfl, List.forall_mem_cons.mpr ⟨rfl, fun q_ hq => absurd hq List.not_mem_nil⟩⟩⟩) (fun t_ ht => absurd ht List.not_mem_nil) (Nat.le_of_ble_eq_true rfl)) r1_
  obtain ⟨h2, m2_, f2_, r2⟩ := mmnR (v1_ := Int32.ofNat c_) (v2 := k_) H1_.1 M1_.1
  exact ⟨h2, ysm_tr m0_ (ysm_tr m1_ m2_), SM_fr H1_ m2_ (fun c_ j_ _ => f2_ c_ j_), fun D_ hD => r_ D_ (by omega) _ (ld1 D_ (by omega) _ (r2 D_ (by omega)))⟩
