theorem lf_4_0 : xfin (xev 126 20 xlaw 18 xlo0 [] xh0 [(.gt, .int 0, .sub (.arg 49) (.int 6), false), (.lt, .int 0, .arg 49, true), (.eq, .op2 .iand (.arg 0) (.int 63), .int 4, true), (.lt, .int 1, .arg 49, true), (.lt, .int 2, .arg 49, true), (.lt, .arg 1, .int 0, true), (.lt, .int 1, .arg 49, true), (.lt, .int 2, .arg 49, true), (.lt, .arg 1, .int 0, true), (.gt, .int 6, .sub (.arg 49) (.int 6), true)]) = true := by decide +kernel
theorem lf_4_1 : xfin (xev 134 20 xlaw 18 xlo0 [] xh0 [(.gt, .int 0, .sub (.arg 49) (.int 6), false), (.lt, .int 0, .arg 49, true), (.eq, .op2 .iand (.arg 0) (.int 63), .int 4, true), (.lt, .int 1, .arg 49, true), (.lt, .int 2, .arg 49, true), (.lt, .arg 1, .int 0, false), (.ge, .arg 1, .int 0, true), (.lt, .int 1, .arg 49, true), (.lt, .int 2, .arg 49, true), (.lt, .arg 1, .int 0, false), (.gt, .arg 1, .int (-1), true), (.gt, .int 6, .sub (.arg 49) (.int 6), true)]) = true := by decide +kernel
set_option maxHeartbeats 4000000 in
theorem cv_4 {r : Nat → Value} (h49 : XI r (.arg 49) = 6) (hs : XI r (.sub (.arg 49) (.int 6)) = 0) (hk : XI r (.op2 .iand (.arg 0) (.int 63)) = 4) : ∃ (f : Nat) (E : List xB), (∀ q ∈ E, xhold r q) ∧ xfin (xev f 20 xlaw 18 xlo0 [] xh0 E) = true := by
  have h0 : ¬ (XI r (.sub (.arg 49) (.int 6)) < (0 : Int)) := by omega
  have h1 : (0 : Int) < XI r (.arg 49) := by omega
  have b0 : xhid (-2147483648 ≤ XI r (.arg 0)) := XI_lo r (.arg 0)
  have d0 : xhid (XI r (.arg 0) < 2147483648) := XI_hi r (.arg 0)
  have b1 : xhid (-2147483648 ≤ XI r (.arg 1)) := XI_lo r (.arg 1)
  have d1 : xhid (XI r (.arg 1) < 2147483648) := XI_hi r (.arg 1)
  have b2 : xhid (-2147483648 ≤ XI r (.arg 2)) := XI_lo r (.arg 2)
  have d2 : xhid (XI r (.arg 2) < 2147483648) := XI_hi r (.arg 2)
  have b3 : xhid (-2147483648 ≤ XI r (.arg 3)) := XI_lo r (.arg 3)
  have d3 : xhid (XI r (.arg 3) < 2147483648) := XI_hi r (.arg 3)
  have b4 : xhid (-2147483648 ≤ XI r (.arg 4)) := XI_lo r (.arg 4)
  have d4 : xhid (XI r (.arg 4) < 2147483648) := XI_hi r (.arg 4)
  have b5 : xhid (-2147483648 ≤ XI r (.arg 5)) := XI_lo r (.arg 5)
  have d5 : xhid (XI r (.arg 5) < 2147483648) := XI_hi r (.arg 5)
  have c1 : xhid ((1 : Int) < XI r (.arg 49)) := ((by have z0 : ¬ (XI r (.sub (.arg 49) (.int 6)) < (0 : Int)) := h0; omega) : (1 : Int) < XI r (.arg 49))
  have c2 : xhid ((2 : Int) < XI r (.arg 49)) := ((by have z0 : ¬ (XI r (.sub (.arg 49) (.int 6)) < (0 : Int)) := h0; omega) : (2 : Int) < XI r (.arg 49))
  refine (Classical.em (XI r (.arg 1) < (0 : Int))).elim (fun (c3 : xhid (XI r (.arg 1) < (0 : Int))) => ?_) (fun (c3 : xhid (¬ (XI r (.arg 1) < (0 : Int)))) => ?_)
  ·
    have c4 : xhid ((1 : Int) < XI r (.arg 49)) := ((by have z0 : (2 : Int) < XI r (.arg 49) := c2; omega) : (1 : Int) < XI r (.arg 49))
    have c5 : xhid ((2 : Int) < XI r (.arg 49)) := ((by have z0 : (2 : Int) < XI r (.arg 49) := c2; omega) : (2 : Int) < XI r (.arg 49))
    have c6 : xhid (XI r (.arg 1) < (0 : Int)) := ((by have z0 : XI r (.arg 1) < (0 : Int) := c3; have z1 : -2147483648 ≤ XI r (.arg 1) := b1; have z2 : XI r (.arg 1) < 2147483648 := d1; omega) : XI r (.arg 1) < (0 : Int))
    have c7 : xhid (XI r (.sub (.arg 49) (.int 6)) < (6 : Int)) := ((by omega) : XI r (.sub (.arg 49) (.int 6)) < (6 : Int))
    refine ⟨126, _, ?_, lf_4_0⟩
    refine xc_cons (xh_gt_F (XI_lit (by decide +kernel)) rfl h0) ?_
    refine xc_cons (xh_lt_T (XI_lit (by decide +kernel)) rfl h1) ?_
    refine xc_cons (xh_eq_T rfl (XI_lit (by decide +kernel)) hk) ?_
    refine xc_cons (xh_lt_T (XI_lit (by decide +kernel)) rfl c1) ?_
    refine xc_cons (xh_lt_T (XI_lit (by decide +kernel)) rfl c2) ?_
    refine xc_cons (xh_lt_T rfl (XI_lit (by decide +kernel)) c3) ?_
    refine xc_cons (xh_lt_T (XI_lit (by decide +kernel)) rfl c4) ?_
    refine xc_cons (xh_lt_T (XI_lit (by decide +kernel)) rfl c5) ?_
    refine xc_cons (xh_lt_T rfl (XI_lit (by decide +kernel)) c6) ?_
    refine xc_cons (xh_gt_T (XI_lit (by decide +kernel)) rfl c7) ?_
    exact xc_nil
  ·
    have c8 : xhid ((0 : Int) ≤ XI r (.arg 1)) := ((by have z0 : ¬ (XI r (.arg 1) < (0 : Int)) := c3; have z1 : -2147483648 ≤ XI r (.arg 1) := b1; have z2 : XI r (.arg 1) < 2147483648 := d1; omega) : (0 : Int) ≤ XI r (.arg 1))
    have c9 : xhid ((1 : Int) < XI r (.arg 49)) := ((by have z0 : (2 : Int) < XI r (.arg 49) := c2; omega) : (1 : Int) < XI r (.arg 49))
    have c10 : xhid ((2 : Int) < XI r (.arg 49)) := ((by have z0 : (2 : Int) < XI r (.arg 49) := c2; omega) : (2 : Int) < XI r (.arg 49))
    have c11 : xhid (¬ (XI r (.arg 1) < (0 : Int))) := ((by have z0 : (0 : Int) ≤ XI r (.arg 1) := c8; have z1 : -2147483648 ≤ XI r (.arg 1) := b1; have z2 : XI r (.arg 1) < 2147483648 := d1; omega) : ¬ (XI r (.arg 1) < (0 : Int)))
    have c12 : xhid ((-1 : Int) < XI r (.arg 1)) := ((by have z0 : ¬ (XI r (.arg 1) < (0 : Int)) := c11; have z1 : -2147483648 ≤ XI r (.arg 1) := b1; have z2 : XI r (.arg 1) < 2147483648 := d1; omega) : (-1 : Int) < XI r (.arg 1))
    have c13 : xhid (XI r (.sub (.arg 49) (.int 6)) < (6 : Int)) := ((by omega) : XI r (.sub (.arg 49) (.int 6)) < (6 : Int))
    refine ⟨134, _, ?_, lf_4_1⟩
    refine xc_cons (xh_gt_F (XI_lit (by decide +kernel)) rfl h0) ?_
    refine xc_cons (xh_lt_T (XI_lit (by decide +kernel)) rfl h1) ?_
    refine xc_cons (xh_eq_T rfl (XI_lit (by decide +kernel)) hk) ?_
    refine xc_cons (xh_lt_T (XI_lit (by decide +kernel)) rfl c1) ?_
    refine xc_cons (xh_lt_T (XI_lit (by decide +kernel)) rfl c2) ?_
    refine xc_cons (xh_lt_F rfl (XI_lit (by decide +kernel)) c3) ?_
    refine xc_cons (xh_ge_T rfl (XI_lit (by decide +kernel)) c8) ?_
    refine xc_cons (xh_lt_T (XI_lit (by decide +kernel)) rfl c9) ?_
    refine xc_cons (xh_lt_T (XI_lit (by decide +kernel)) rfl c10) ?_
    refine xc_cons (xh_lt_F rfl (XI_lit (by decide +kernel)) c11) ?_
    refine xc_cons (xh_gt_T rfl (XI_lit (by decide +kernel)) c12) ?_
    refine xc_cons (xh_gt_T (XI_lit (by decide +kernel)) rfl c13) ?_
    exact xc_nil
theorem lf_6_0 : xfin (xev 111 20 xlaw 18 xlo0 [] xh0 [(.gt, .int 0, .sub (.arg 49) (.int 6), false), (.lt, .int 0, .arg 49, true), (.eq, .op2 .iand (.arg 0) (.int 63), .int 6, true), (.lt, .int 1, .arg 49, true), (.lt, .int 2, .arg 49, true), (.lt, .arg 1, .int 0, true), (.lt, .int 1, .arg 49, true), (.lt, .int 2, .arg 49, true), (.lt, .arg 1, .int 0, true), (.gt, .int 6, .sub (.arg 49) (.int 6), true)]) = true := by decide +kernel
theorem lf_6_1 : xfin (xev 117 20 xlaw 18 xlo0 [] xh0 [(.gt, .int 0, .sub (.arg 49) (.int 6), false), (.lt, .int 0, .arg 49, true), (.eq, .op2 .iand (.arg 0) (.int 63), .int 6, true), (.lt, .int 1, .arg 49, true), (.lt, .int 2, .arg 49, true), (.lt, .arg 1, .int 0, false), (.ge, .arg 1, .int 70, true), (.lt, .int 1, .arg 49, true), (.lt, .int 2, .arg 49, true), (.lt, .arg 1, .int 0, false), (.gt, .arg 1, .int 69, true), (.gt, .int 6, .sub (.arg 49) (.int 6), true)]) = true := by decide +kernel
theorem lf_6_2 : xfin (xev 135 20 xlaw 18 xlo0 [] xh0 [(.gt, .int 0, .sub (.arg 49) (.int 6), false), (.lt, .int 0, .arg 49, true), (.eq, .op2 .iand (.arg 0) (.int 63), .int 6, true), (.lt, .int 1, .arg 49, true), (.lt, .int 2, .arg 49, true), (.lt, .arg 1, .int 0, false), (.ge, .arg 1, .int 70, false), (.lt, .arg 2, .int 0, true), (.lt, .int 1, .arg 49, true), (.lt, .int 2, .arg 49, true), (.lt, .arg 1, .int 0, false), (.gt, .arg 1, .int 69, false), (.lt, .arg 2, .int 0, true), (.gt, .int 6, .sub (.arg 49) (.int 6), true)]) = true := by decide +kernel
theorem lf_6_3 : xfin (xev 141 20 xlaw 18 xlo0 [] xh0 [(.gt, .int 0, .sub (.arg 49) (.int 6), false), (.lt, .int 0, .arg 49, true), (.eq, .op2 .iand (.arg 0) (.int 63), .int 6, true), (.lt, .int 1, .arg 49, true), (.lt, .int 2, .arg 49, true), (.lt, .arg 1, .int 0, false), (.ge, .arg 1, .int 70, false), (.lt, .arg 2, .int 0, false), (.gt, .arg 2, .int 20, true), (.lt, .int 1, .arg 49, true), (.lt, .int 2, .arg 49, true), (.lt, .arg 1, .int 0, false), (.gt, .arg 1, .int 69, false), (.lt, .arg 2, .int 0, false), (.gt, .arg 2, .int 20, true), (.gt, .int 6, .sub (.arg 49) (.int 6), true)]) = true := by decide +kernel
theorem lf_6_4 : xfin (xev 205 20 xlaw 18 xlo0 [] xh0 [(.gt, .int 0, .sub (.arg 49) (.int 6), false), (.lt, .int 0, .arg 49, true), (.eq, .op2 .iand (.arg 0) (.int 63), .int 6, true), (.lt, .int 1, .arg 49, true), (.lt, .int 2, .arg 49, true), (.lt, .arg 1, .int 0, false), (.ge, .arg 1, .int 70, false), (.lt, .arg 2, .int 0, false), (.gt, .arg 2, .int 20, false), (.lt, .int 1, .arg 49, true), (.lt, .int 2, .arg 49, true), (.lt, .arg 1, .int 0, false), (.gt, .arg 1, .int 69, false), (.lt, .arg 2, .int 0, false), (.gt, .arg 2, .int 20, false), (.gt, .int 6, .sub (.arg 49) (.int 6), true)]) = true := by decide +kernel
set_option maxHeartbeats 4000000 in
theorem cv_6 {r : Nat → Value} (h49 : XI r (.arg 49) = 6) (hs : XI r (.sub (.arg 49) (.int 6)) = 0) (hk : XI r (.op2 .iand (.arg 0) (.int 63)) = 6) : ∃ (f : Nat) (E : List xB), (∀ q ∈ E, xhold r q) ∧ xfin (xev f 20 xlaw 18 xlo0 [] xh0 E) = true := by
  have h0 : ¬ (XI r (.sub (.arg 49) (.int 6)) < (0 : Int)) := by omega
  have h1 : (0 : Int) < XI r (.arg 49) := by omega
  have b0 : xhid (-2147483648 ≤ XI r (.arg 0)) := XI_lo r (.arg 0)
  have d0 : xhid (XI r (.arg 0) < 2147483648) := XI_hi r (.arg 0)
  have b1 : xhid (-2147483648 ≤ XI r (.arg 1)) := XI_lo r (.arg 1)
  have d1 : xhid (XI r (.arg 1) < 2147483648) := XI_hi r (.arg 1)
  have b2 : xhid (-2147483648 ≤ XI r (.arg 2)) := XI_lo r (.arg 2)
  have d2 : xhid (XI r (.arg 2) < 2147483648) := XI_hi r (.arg 2)
  have b3 : xhid (-2147483648 ≤ XI r (.arg 3)) := XI_lo r (.arg 3)
  have d3 : xhid (XI r (.arg 3) < 2147483648) := XI_hi r (.arg 3)
  have b4 : xhid (-2147483648 ≤ XI r (.arg 4)) := XI_lo r (.arg 4)
  have d4 : xhid (XI r (.arg 4) < 2147483648) := XI_hi r (.arg 4)
  have b5 : xhid (-2147483648 ≤ XI r (.arg 5)) := XI_lo r (.arg 5)
  have d5 : xhid (XI r (.arg 5) < 2147483648) := XI_hi r (.arg 5)
  have c1 : xhid ((1 : Int) < XI r (.arg 49)) := ((by have z0 : ¬ (XI r (.sub (.arg 49) (.int 6)) < (0 : Int)) := h0; omega) : (1 : Int) < XI r (.arg 49))
  have c2 : xhid ((2 : Int) < XI r (.arg 49)) := ((by have z0 : ¬ (XI r (.sub (.arg 49) (.int 6)) < (0 : Int)) := h0; omega) : (2 : Int) < XI r (.arg 49))
  refine (Classical.em (XI r (.arg 1) < (0 : Int))).elim (fun (c3 : xhid (XI r (.arg 1) < (0 : Int))) => ?_) (fun (c3 : xhid (¬ (XI r (.arg 1) < (0 : Int)))) => ?_)
  ·
    have c4 : xhid ((1 : Int) < XI r (.arg 49)) := ((by have z0 : (2 : Int) < XI r (.arg 49) := c2; omega) : (1 : Int) < XI r (.arg 49))
    have c5 : xhid ((2 : Int) < XI r (.arg 49)) := ((by have z0 : (2 : Int) < XI r (.arg 49) := c2; omega) : (2 : Int) < XI r (.arg 49))
    have c6 : xhid (XI r (.arg 1) < (0 : Int)) := ((by have z0 : XI r (.arg 1) < (0 : Int) := c3; have z1 : -2147483648 ≤ XI r (.arg 1) := b1; have z2 : XI r (.arg 1) < 2147483648 := d1; omega) : XI r (.arg 1) < (0 : Int))
    have c7 : xhid (XI r (.sub (.arg 49) (.int 6)) < (6 : Int)) := ((by omega) : XI r (.sub (.arg 49) (.int 6)) < (6 : Int))
    refine ⟨111, _, ?_, lf_6_0⟩
    refine xc_cons (xh_gt_F (XI_lit (by decide +kernel)) rfl h0) ?_
    refine xc_cons (xh_lt_T (XI_lit (by decide +kernel)) rfl h1) ?_
    refine xc_cons (xh_eq_T rfl (XI_lit (by decide +kernel)) hk) ?_
    refine xc_cons (xh_lt_T (XI_lit (by decide +kernel)) rfl c1) ?_
    refine xc_cons (xh_lt_T (XI_lit (by decide +kernel)) rfl c2) ?_
    refine xc_cons (xh_lt_T rfl (XI_lit (by decide +kernel)) c3) ?_
    refine xc_cons (xh_lt_T (XI_lit (by decide +kernel)) rfl c4) ?_
    refine xc_cons (xh_lt_T (XI_lit (by decide +kernel)) rfl c5) ?_
    refine xc_cons (xh_lt_T rfl (XI_lit (by decide +kernel)) c6) ?_
    refine xc_cons (xh_gt_T (XI_lit (by decide +kernel)) rfl c7) ?_
    exact xc_nil
  ·
    refine (Classical.em ((70 : Int) ≤ XI r (.arg 1))).elim (fun (c8 : xhid ((70 : Int) ≤ XI r (.arg 1))) => ?_) (fun (c8 : xhid (¬ ((70 : Int) ≤ XI r (.arg 1)))) => ?_)
    ·
      have c9 : xhid ((1 : Int) < XI r (.arg 49)) := ((by have z0 : (2 : Int) < XI r (.arg 49) := c2; omega) : (1 : Int) < XI r (.arg 49))
      have c10 : xhid ((2 : Int) < XI r (.arg 49)) := ((by have z0 : (2 : Int) < XI r (.arg 49) := c2; omega) : (2 : Int) < XI r (.arg 49))
      have c11 : xhid (¬ (XI r (.arg 1) < (0 : Int))) := ((by have z0 : (70 : Int) ≤ XI r (.arg 1) := c8; have z1 : -2147483648 ≤ XI r (.arg 1) := b1; have z2 : XI r (.arg 1) < 2147483648 := d1; omega) : ¬ (XI r (.arg 1) < (0 : Int)))
      have c12 : xhid ((69 : Int) < XI r (.arg 1)) := ((by have z0 : (70 : Int) ≤ XI r (.arg 1) := c8; have z1 : -2147483648 ≤ XI r (.arg 1) := b1; have z2 : XI r (.arg 1) < 2147483648 := d1; omega) : (69 : Int) < XI r (.arg 1))
      have c13 : xhid (XI r (.sub (.arg 49) (.int 6)) < (6 : Int)) := ((by omega) : XI r (.sub (.arg 49) (.int 6)) < (6 : Int))
      refine ⟨117, _, ?_, lf_6_1⟩
      refine xc_cons (xh_gt_F (XI_lit (by decide +kernel)) rfl h0) ?_
      refine xc_cons (xh_lt_T (XI_lit (by decide +kernel)) rfl h1) ?_
      refine xc_cons (xh_eq_T rfl (XI_lit (by decide +kernel)) hk) ?_
      refine xc_cons (xh_lt_T (XI_lit (by decide +kernel)) rfl c1) ?_
      refine xc_cons (xh_lt_T (XI_lit (by decide +kernel)) rfl c2) ?_
      refine xc_cons (xh_lt_F rfl (XI_lit (by decide +kernel)) c3) ?_
      refine xc_cons (xh_ge_T rfl (XI_lit (by decide +kernel)) c8) ?_
      refine xc_cons (xh_lt_T (XI_lit (by decide +kernel)) rfl c9) ?_
      refine xc_cons (xh_lt_T (XI_lit (by decide +kernel)) rfl c10) ?_
      refine xc_cons (xh_lt_F rfl (XI_lit (by decide +kernel)) c11) ?_
      refine xc_cons (xh_gt_T rfl (XI_lit (by decide +kernel)) c12) ?_
      refine xc_cons (xh_gt_T (XI_lit (by decide +kernel)) rfl c13) ?_
      exact xc_nil
    ·
      refine (Classical.em (XI r (.arg 2) < (0 : Int))).elim (fun (c14 : xhid (XI r (.arg 2) < (0 : Int))) => ?_) (fun (c14 : xhid (¬ (XI r (.arg 2) < (0 : Int)))) => ?_)
      ·
        have c15 : xhid ((1 : Int) < XI r (.arg 49)) := ((by have z0 : (2 : Int) < XI r (.arg 49) := c2; omega) : (1 : Int) < XI r (.arg 49))
        have c16 : xhid ((2 : Int) < XI r (.arg 49)) := ((by have z0 : (2 : Int) < XI r (.arg 49) := c2; omega) : (2 : Int) < XI r (.arg 49))
        have c17 : xhid (¬ (XI r (.arg 1) < (0 : Int))) := ((by have z0 : ¬ (XI r (.arg 1) < (0 : Int)) := c3; have z1 : -2147483648 ≤ XI r (.arg 1) := b1; have z2 : XI r (.arg 1) < 2147483648 := d1; omega) : ¬ (XI r (.arg 1) < (0 : Int)))
        have c18 : xhid (¬ ((69 : Int) < XI r (.arg 1))) := ((by have z0 : ¬ ((70 : Int) ≤ XI r (.arg 1)) := c8; have z1 : -2147483648 ≤ XI r (.arg 1) := b1; have z2 : XI r (.arg 1) < 2147483648 := d1; omega) : ¬ ((69 : Int) < XI r (.arg 1)))
        have c19 : xhid (XI r (.arg 2) < (0 : Int)) := ((by have z0 : XI r (.arg 2) < (0 : Int) := c14; have z1 : -2147483648 ≤ XI r (.arg 2) := b2; have z2 : XI r (.arg 2) < 2147483648 := d2; omega) : XI r (.arg 2) < (0 : Int))
        have c20 : xhid (XI r (.sub (.arg 49) (.int 6)) < (6 : Int)) := ((by omega) : XI r (.sub (.arg 49) (.int 6)) < (6 : Int))
        refine ⟨135, _, ?_, lf_6_2⟩
        refine xc_cons (xh_gt_F (XI_lit (by decide +kernel)) rfl h0) ?_
        refine xc_cons (xh_lt_T (XI_lit (by decide +kernel)) rfl h1) ?_
        refine xc_cons (xh_eq_T rfl (XI_lit (by decide +kernel)) hk) ?_
        refine xc_cons (xh_lt_T (XI_lit (by decide +kernel)) rfl c1) ?_
        refine xc_cons (xh_lt_T (XI_lit (by decide +kernel)) rfl c2) ?_
        refine xc_cons (xh_lt_F rfl (XI_lit (by decide +kernel)) c3) ?_
        refine xc_cons (xh_ge_F rfl (XI_lit (by decide +kernel)) c8) ?_
        refine xc_cons (xh_lt_T rfl (XI_lit (by decide +kernel)) c14) ?_
        refine xc_cons (xh_lt_T (XI_lit (by decide +kernel)) rfl c15) ?_
        refine xc_cons (xh_lt_T (XI_lit (by decide +kernel)) rfl c16) ?_
        refine xc_cons (xh_lt_F rfl (XI_lit (by decide +kernel)) c17) ?_
        refine xc_cons (xh_gt_F rfl (XI_lit (by decide +kernel)) c18) ?_
        refine xc_cons (xh_lt_T rfl (XI_lit (by decide +kernel)) c19) ?_
        refine xc_cons (xh_gt_T (XI_lit (by decide +kernel)) rfl c20) ?_
        exact xc_nil
      ·
        refine (Classical.em ((20 : Int) < XI r (.arg 2))).elim (fun (c21 : xhid ((20 : Int) < XI r (.arg 2))) => ?_) (fun (c21 : xhid (¬ ((20 : Int) < XI r (.arg 2)))) => ?_)
        ·
          have c22 : xhid ((1 : Int) < XI r (.arg 49)) := ((by have z0 : (2 : Int) < XI r (.arg 49) := c2; omega) : (1 : Int) < XI r (.arg 49))
          have c23 : xhid ((2 : Int) < XI r (.arg 49)) := ((by have z0 : (2 : Int) < XI r (.arg 49) := c2; omega) : (2 : Int) < XI r (.arg 49))
          have c24 : xhid (¬ (XI r (.arg 1) < (0 : Int))) := ((by have z0 : ¬ (XI r (.arg 1) < (0 : Int)) := c3; have z1 : -2147483648 ≤ XI r (.arg 1) := b1; have z2 : XI r (.arg 1) < 2147483648 := d1; omega) : ¬ (XI r (.arg 1) < (0 : Int)))
          have c25 : xhid (¬ ((69 : Int) < XI r (.arg 1))) := ((by have z0 : ¬ ((70 : Int) ≤ XI r (.arg 1)) := c8; have z1 : -2147483648 ≤ XI r (.arg 1) := b1; have z2 : XI r (.arg 1) < 2147483648 := d1; omega) : ¬ ((69 : Int) < XI r (.arg 1)))
          have c26 : xhid (¬ (XI r (.arg 2) < (0 : Int))) := ((by have z0 : (20 : Int) < XI r (.arg 2) := c21; have z1 : -2147483648 ≤ XI r (.arg 2) := b2; have z2 : XI r (.arg 2) < 2147483648 := d2; omega) : ¬ (XI r (.arg 2) < (0 : Int)))
          have c27 : xhid ((20 : Int) < XI r (.arg 2)) := ((by have z0 : (20 : Int) < XI r (.arg 2) := c21; have z1 : -2147483648 ≤ XI r (.arg 2) := b2; have z2 : XI r (.arg 2) < 2147483648 := d2; omega) : (20 : Int) < XI r (.arg 2))
          have c28 : xhid (XI r (.sub (.arg 49) (.int 6)) < (6 : Int)) := ((by omega) : XI r (.sub (.arg 49) (.int 6)) < (6 : Int))
          refine ⟨141, _, ?_, lf_6_3⟩
          refine xc_cons (xh_gt_F (XI_lit (by decide +kernel)) rfl h0) ?_
          refine xc_cons (xh_lt_T (XI_lit (by decide +kernel)) rfl h1) ?_
          refine xc_cons (xh_eq_T rfl (XI_lit (by decide +kernel)) hk) ?_
          refine xc_cons (xh_lt_T (XI_lit (by decide +kernel)) rfl c1) ?_
          refine xc_cons (xh_lt_T (XI_lit (by decide +kernel)) rfl c2) ?_
          refine xc_cons (xh_lt_F rfl (XI_lit (by decide +kernel)) c3) ?_
          refine xc_cons (xh_ge_F rfl (XI_lit (by decide +kernel)) c8) ?_
          refine xc_cons (xh_lt_F rfl (XI_lit (by decide +kernel)) c14) ?_
          refine xc_cons (xh_gt_T rfl (XI_lit (by decide +kernel)) c21) ?_
          refine xc_cons (xh_lt_T (XI_lit (by decide +kernel)) rfl c22) ?_
          refine xc_cons (xh_lt_T (XI_lit (by decide +kernel)) rfl c23) ?_
          refine xc_cons (xh_lt_F rfl (XI_lit (by decide +kernel)) c24) ?_
          refine xc_cons (xh_gt_F rfl (XI_lit (by decide +kernel)) c25) ?_
          refine xc_cons (xh_lt_F rfl (XI_lit (by decide +kernel)) c26) ?_
          refine xc_cons (xh_gt_T rfl (XI_lit (by decide +kernel)) c27) ?_
          refine xc_cons (xh_gt_T (XI_lit (by decide +kernel)) rfl c28) ?_
          exact xc_nil
        ·
          have c29 : xhid ((1 : Int) < XI r (.arg 49)) := ((by have z0 : (2 : Int) < XI r (.arg 49) := c2; omega) : (1 : Int) < XI r (.arg 49))
          have c30 : xhid ((2 : Int) < XI r (.arg 49)) := ((by have z0 : (2 : Int) < XI r (.arg 49) := c2; omega) : (2 : Int) < XI r (.arg 49))
          have c31 : xhid (¬ (XI r (.arg 1) < (0 : Int))) := ((by have z0 : ¬ (XI r (.arg 1) < (0 : Int)) := c3; have z1 : -2147483648 ≤ XI r (.arg 1) := b1; have z2 : XI r (.arg 1) < 2147483648 := d1; omega) : ¬ (XI r (.arg 1) < (0 : Int)))
          have c32 : xhid (¬ ((69 : Int) < XI r (.arg 1))) := ((by have z0 : ¬ ((70 : Int) ≤ XI r (.arg 1)) := c8; have z1 : -2147483648 ≤ XI r (.arg 1) := b1; have z2 : XI r (.arg 1) < 2147483648 := d1; omega) : ¬ ((69 : Int) < XI r (.arg 1)))
          have c33 : xhid (¬ (XI r (.arg 2) < (0 : Int))) := ((by have z0 : ¬ (XI r (.arg 2) < (0 : Int)) := c14; have z1 : -2147483648 ≤ XI r (.arg 2) := b2; have z2 : XI r (.arg 2) < 2147483648 := d2; omega) : ¬ (XI r (.arg 2) < (0 : Int)))
          have c34 : xhid (¬ ((20 : Int) < XI r (.arg 2))) := ((by have z0 : ¬ ((20 : Int) < XI r (.arg 2)) := c21; have z1 : -2147483648 ≤ XI r (.arg 2) := b2; have z2 : XI r (.arg 2) < 2147483648 := d2; omega) : ¬ ((20 : Int) < XI r (.arg 2)))
          have c35 : xhid (XI r (.sub (.arg 49) (.int 6)) < (6 : Int)) := ((by omega) : XI r (.sub (.arg 49) (.int 6)) < (6 : Int))
          refine ⟨205, _, ?_, lf_6_4⟩
          refine xc_cons (xh_gt_F (XI_lit (by decide +kernel)) rfl h0) ?_
          refine xc_cons (xh_lt_T (XI_lit (by decide +kernel)) rfl h1) ?_
          refine xc_cons (xh_eq_T rfl (XI_lit (by decide +kernel)) hk) ?_
          refine xc_cons (xh_lt_T (XI_lit (by decide +kernel)) rfl c1) ?_
          refine xc_cons (xh_lt_T (XI_lit (by decide +kernel)) rfl c2) ?_
          refine xc_cons (xh_lt_F rfl (XI_lit (by decide +kernel)) c3) ?_
          refine xc_cons (xh_ge_F rfl (XI_lit (by decide +kernel)) c8) ?_
          refine xc_cons (xh_lt_F rfl (XI_lit (by decide +kernel)) c14) ?_
          refine xc_cons (xh_gt_F rfl (XI_lit (by decide +kernel)) c21) ?_
          refine xc_cons (xh_lt_T (XI_lit (by decide +kernel)) rfl c29) ?_
          refine xc_cons (xh_lt_T (XI_lit (by decide +kernel)) rfl c30) ?_
          refine xc_cons (xh_lt_F rfl (XI_lit (by decide +kernel)) c31) ?_
          refine xc_cons (xh_gt_F rfl (XI_lit (by decide +kernel)) c32) ?_
          refine xc_cons (xh_lt_F rfl (XI_lit (by decide +kernel)) c33) ?_
          refine xc_cons (xh_gt_F rfl (XI_lit (by decide +kernel)) c34) ?_
          refine xc_cons (xh_gt_T (XI_lit (by decide +kernel)) rfl c35) ?_
          exact xc_nil
theorem lf_7_0 : xfin (xev 126 20 xlaw 18 xlo0 [] xh0 [(.gt, .int 0, .sub (.arg 49) (.int 6), false), (.lt, .int 0, .arg 49, true), (.eq, .op2 .iand (.arg 0) (.int 63), .int 7, true), (.lt, .int 1, .arg 49, true), (.lt, .int 2, .arg 49, true), (.lt, .arg 1, .int 0, true), (.lt, .int 1, .arg 49, true), (.lt, .int 2, .arg 49, true), (.lt, .arg 1, .int 0, true), (.gt, .int 6, .sub (.arg 49) (.int 6), true)]) = true := by decide +kernel
theorem lf_7_1 : xfin (xev 134 20 xlaw 18 xlo0 [] xh0 [(.gt, .int 0, .sub (.arg 49) (.int 6), false), (.lt, .int 0, .arg 49, true), (.eq, .op2 .iand (.arg 0) (.int 63), .int 7, true), (.lt, .int 1, .arg 49, true), (.lt, .int 2, .arg 49, true), (.lt, .arg 1, .int 0, false), (.ge, .arg 1, .int 0, true), (.lt, .int 1, .arg 49, true), (.lt, .int 2, .arg 49, true), (.lt, .arg 1, .int 0, false), (.gt, .arg 1, .int (-1), true), (.gt, .int 6, .sub (.arg 49) (.int 6), true)]) = true := by decide +kernel
set_option maxHeartbeats 4000000 in
theorem cv_7 {r : Nat → Value} (h49 : XI r (.arg 49) = 6) (hs : XI r (.sub (.arg 49) (.int 6)) = 0) (hk : XI r (.op2 .iand (.arg 0) (.int 63)) = 7) : ∃ (f : Nat) (E : List xB), (∀ q ∈ E, xhold r q) ∧ xfin (xev f 20 xlaw 18 xlo0 [] xh0 E) = true := by
  have h0 : ¬ (XI r (.sub (.arg 49) (.int 6)) < (0 : Int)) := by omega
  have h1 : (0 : Int) < XI r (.arg 49) := by omega
  have b0 : xhid (-2147483648 ≤ XI r (.arg 0)) := XI_lo r (.arg 0)
  have d0 : xhid (XI r (.arg 0) < 2147483648) := XI_hi r (.arg 0)
  have b1 : xhid (-2147483648 ≤ XI r (.arg 1)) := XI_lo r (.arg 1)
  have d1 : xhid (XI r (.arg 1) < 2147483648) := XI_hi r (.arg 1)
  have b2 : xhid (-2147483648 ≤ XI r (.arg 2)) := XI_lo r (.arg 2)
  have d2 : xhid (XI r (.arg 2) < 2147483648) := XI_hi r (.arg 2)
  have b3 : xhid (-2147483648 ≤ XI r (.arg 3)) := XI_lo r (.arg 3)
  have d3 : xhid (XI r (.arg 3) < 2147483648) := XI_hi r (.arg 3)
  have b4 : xhid (-2147483648 ≤ XI r (.arg 4)) := XI_lo r (.arg 4)
  have d4 : xhid (XI r (.arg 4) < 2147483648) := XI_hi r (.arg 4)
  have b5 : xhid (-2147483648 ≤ XI r (.arg 5)) := XI_lo r (.arg 5)
  have d5 : xhid (XI r (.arg 5) < 2147483648) := XI_hi r (.arg 5)
  have c1 : xhid ((1 : Int) < XI r (.arg 49)) := ((by have z0 : ¬ (XI r (.sub (.arg 49) (.int 6)) < (0 : Int)) := h0; omega) : (1 : Int) < XI r (.arg 49))
  have c2 : xhid ((2 : Int) < XI r (.arg 49)) := ((by have z0 : ¬ (XI r (.sub (.arg 49) (.int 6)) < (0 : Int)) := h0; omega) : (2 : Int) < XI r (.arg 49))
  refine (Classical.em (XI r (.arg 1) < (0 : Int))).elim (fun (c3 : xhid (XI r (.arg 1) < (0 : Int))) => ?_) (fun (c3 : xhid (¬ (XI r (.arg 1) < (0 : Int)))) => ?_)
  ·
    have c4 : xhid ((1 : Int) < XI r (.arg 49)) := ((by have z0 : (2 : Int) < XI r (.arg 49) := c2; omega) : (1 : Int) < XI r (.arg 49))
    have c5 : xhid ((2 : Int) < XI r (.arg 49)) := ((by have z0 : (2 : Int) < XI r (.arg 49) := c2; omega) : (2 : Int) < XI r (.arg 49))
    have c6 : xhid (XI r (.arg 1) < (0 : Int)) := ((by have z0 : XI r (.arg 1) < (0 : Int) := c3; have z1 : -2147483648 ≤ XI r (.arg 1) := b1; have z2 : XI r (.arg 1) < 2147483648 := d1; omega) : XI r (.arg 1) < (0 : Int))
    have c7 : xhid (XI r (.sub (.arg 49) (.int 6)) < (6 : Int)) := ((by omega) : XI r (.sub (.arg 49) (.int 6)) < (6 : Int))
    refine ⟨126, _, ?_, lf_7_0⟩
    refine xc_cons (xh_gt_F (XI_lit (by decide +kernel)) rfl h0) ?_
    refine xc_cons (xh_lt_T (XI_lit (by decide +kernel)) rfl h1) ?_
    refine xc_cons (xh_eq_T rfl (XI_lit (by decide +kernel)) hk) ?_
    refine xc_cons (xh_lt_T (XI_lit (by decide +kernel)) rfl c1) ?_
    refine xc_cons (xh_lt_T (XI_lit (by decide +kernel)) rfl c2) ?_
    refine xc_cons (xh_lt_T rfl (XI_lit (by decide +kernel)) c3) ?_
    refine xc_cons (xh_lt_T (XI_lit (by decide +kernel)) rfl c4) ?_
    refine xc_cons (xh_lt_T (XI_lit (by decide +kernel)) rfl c5) ?_
    refine xc_cons (xh_lt_T rfl (XI_lit (by decide +kernel)) c6) ?_
    refine xc_cons (xh_gt_T (XI_lit (by decide +kernel)) rfl c7) ?_
    exact xc_nil
  ·
    have c8 : xhid ((0 : Int) ≤ XI r (.arg 1)) := ((by have z0 : ¬ (XI r (.arg 1) < (0 : Int)) := c3; have z1 : -2147483648 ≤ XI r (.arg 1) := b1; have z2 : XI r (.arg 1) < 2147483648 := d1; omega) : (0 : Int) ≤ XI r (.arg 1))
    have c9 : xhid ((1 : Int) < XI r (.arg 49)) := ((by have z0 : (2 : Int) < XI r (.arg 49) := c2; omega) : (1 : Int) < XI r (.arg 49))
    have c10 : xhid ((2 : Int) < XI r (.arg 49)) := ((by have z0 : (2 : Int) < XI r (.arg 49) := c2; omega) : (2 : Int) < XI r (.arg 49))
    have c11 : xhid (¬ (XI r (.arg 1) < (0 : Int))) := ((by have z0 : (0 : Int) ≤ XI r (.arg 1) := c8; have z1 : -2147483648 ≤ XI r (.arg 1) := b1; have z2 : XI r (.arg 1) < 2147483648 := d1; omega) : ¬ (XI r (.arg 1) < (0 : Int)))
    have c12 : xhid ((-1 : Int) < XI r (.arg 1)) := ((by have z0 : ¬ (XI r (.arg 1) < (0 : Int)) := c11; have z1 : -2147483648 ≤ XI r (.arg 1) := b1; have z2 : XI r (.arg 1) < 2147483648 := d1; omega) : (-1 : Int) < XI r (.arg 1))
    have c13 : xhid (XI r (.sub (.arg 49) (.int 6)) < (6 : Int)) := ((by omega) : XI r (.sub (.arg 49) (.int 6)) < (6 : Int))
    refine ⟨134, _, ?_, lf_7_1⟩
    refine xc_cons (xh_gt_F (XI_lit (by decide +kernel)) rfl h0) ?_
    refine xc_cons (xh_lt_T (XI_lit (by decide +kernel)) rfl h1) ?_
    refine xc_cons (xh_eq_T rfl (XI_lit (by decide +kernel)) hk) ?_
    refine xc_cons (xh_lt_T (XI_lit (by decide +kernel)) rfl c1) ?_
    refine xc_cons (xh_lt_T (XI_lit (by decide +kernel)) rfl c2) ?_
    refine xc_cons (xh_lt_F rfl (XI_lit (by decide +kernel)) c3) ?_
    refine xc_cons (xh_ge_T rfl (XI_lit (by decide +kernel)) c8) ?_
    refine xc_cons (xh_lt_T (XI_lit (by decide +kernel)) rfl c9) ?_
    refine xc_cons (xh_lt_T (XI_lit (by decide +kernel)) rfl c10) ?_
    refine xc_cons (xh_lt_F rfl (XI_lit (by decide +kernel)) c11) ?_
    refine xc_cons (xh_gt_T rfl (XI_lit (by decide +kernel)) c12) ?_
    refine xc_cons (xh_gt_T (XI_lit (by decide +kernel)) rfl c13) ?_
    exact xc_nil
theorem lf_8_0 : xfin (xev 126 20 xlaw 18 xlo0 [] xh0 [(.gt, .int 0, .sub (.arg 49) (.int 6), false), (.lt, .int 0, .arg 49, true), (.eq, .op2 .iand (.arg 0) (.int 63), .int 8, true), (.lt, .int 1, .arg 49, true), (.lt, .int 2, .arg 49, true), (.lt, .arg 1, .int 0, true), (.lt, .int 1, .arg 49, true), (.lt, .int 2, .arg 49, true), (.lt, .arg 1, .int 0, true), (.gt, .int 6, .sub (.arg 49) (.int 6), true)]) = true := by decide +kernel
theorem lf_8_1 : xfin (xev 134 20 xlaw 18 xlo0 [] xh0 [(.gt, .int 0, .sub (.arg 49) (.int 6), false), (.lt, .int 0, .arg 49, true), (.eq, .op2 .iand (.arg 0) (.int 63), .int 8, true), (.lt, .int 1, .arg 49, true), (.lt, .int 2, .arg 49, true), (.lt, .arg 1, .int 0, false), (.ge, .arg 1, .int 0, true), (.lt, .int 1, .arg 49, true), (.lt, .int 2, .arg 49, true), (.lt, .arg 1, .int 0, false), (.gt, .arg 1, .int (-1), true), (.gt, .int 6, .sub (.arg 49) (.int 6), true)]) = true := by decide +kernel
set_option maxHeartbeats 4000000 in
theorem cv_8 {r : Nat → Value} (h49 : XI r (.arg 49) = 6) (hs : XI r (.sub (.arg 49) (.int 6)) = 0) (hk : XI r (.op2 .iand (.arg 0) (.int 63)) = 8) : ∃ (f : Nat) (E : List xB), (∀ q ∈ E, xhold r q) ∧ xfin (xev f 20 xlaw 18 xlo0 [] xh0 E) = true := by
  have h0 : ¬ (XI r (.sub (.arg 49) (.int 6)) < (0 : Int)) := by omega
  have h1 : (0 : Int) < XI r (.arg 49) := by omega
  have b0 : xhid (-2147483648 ≤ XI r (.arg 0)) := XI_lo r (.arg 0)
  have d0 : xhid (XI r (.arg 0) < 2147483648) := XI_hi r (.arg 0)
  have b1 : xhid (-2147483648 ≤ XI r (.arg 1)) := XI_lo r (.arg 1)
  have d1 : xhid (XI r (.arg 1) < 2147483648) := XI_hi r (.arg 1)
  have b2 : xhid (-2147483648 ≤ XI r (.arg 2)) := XI_lo r (.arg 2)
  have d2 : xhid (XI r (.arg 2) < 2147483648) := XI_hi r (.arg 2)
  have b3 : xhid (-2147483648 ≤ XI r (.arg 3)) := XI_lo r (.arg 3)
  have d3 : xhid (XI r (.arg 3) < 2147483648) := XI_hi r (.arg 3)
  have b4 : xhid (-2147483648 ≤ XI r (.arg 4)) := XI_lo r (.arg 4)
  have d4 : xhid (XI r (.arg 4) < 2147483648) := XI_hi r (.arg 4)
  have b5 : xhid (-2147483648 ≤ XI r (.arg 5)) := XI_lo r (.arg 5)
  have d5 : xhid (XI r (.arg 5) < 2147483648) := XI_hi r (.arg 5)
  have c1 : xhid ((1 : Int) < XI r (.arg 49)) := ((by have z0 : ¬ (XI r (.sub (.arg 49) (.int 6)) < (0 : Int)) := h0; omega) : (1 : Int) < XI r (.arg 49))
  have c2 : xhid ((2 : Int) < XI r (.arg 49)) := ((by have z0 : ¬ (XI r (.sub (.arg 49) (.int 6)) < (0 : Int)) := h0; omega) : (2 : Int) < XI r (.arg 49))
  refine (Classical.em (XI r (.arg 1) < (0 : Int))).elim (fun (c3 : xhid (XI r (.arg 1) < (0 : Int))) => ?_) (fun (c3 : xhid (¬ (XI r (.arg 1) < (0 : Int)))) => ?_)
  ·
    have c4 : xhid ((1 : Int) < XI r (.arg 49)) := ((by have z0 : (2 : Int) < XI r (.arg 49) := c2; omega) : (1 : Int) < XI r (.arg 49))
    have c5 : xhid ((2 : Int) < XI r (.arg 49)) := ((by have z0 : (2 : Int) < XI r (.arg 49) := c2; omega) : (2 : Int) < XI r (.arg 49))
    have c6 : xhid (XI r (.arg 1) < (0 : Int)) := ((by have z0 : XI r (.arg 1) < (0 : Int) := c3; have z1 : -2147483648 ≤ XI r (.arg 1) := b1; have z2 : XI r (.arg 1) < 2147483648 := d1; omega) : XI r (.arg 1) < (0 : Int))
    have c7 : xhid (XI r (.sub (.arg 49) (.int 6)) < (6 : Int)) := ((by omega) : XI r (.sub (.arg 49) (.int 6)) < (6 : Int))
    refine ⟨126, _, ?_, lf_8_0⟩
    refine xc_cons (xh_gt_F (XI_lit (by decide +kernel)) rfl h0) ?_
    refine xc_cons (xh_lt_T (XI_lit (by decide +kernel)) rfl h1) ?_
    refine xc_cons (xh_eq_T rfl (XI_lit (by decide +kernel)) hk) ?_
    refine xc_cons (xh_lt_T (XI_lit (by decide +kernel)) rfl c1) ?_
    refine xc_cons (xh_lt_T (XI_lit (by decide +kernel)) rfl c2) ?_
    refine xc_cons (xh_lt_T rfl (XI_lit (by decide +kernel)) c3) ?_
    refine xc_cons (xh_lt_T (XI_lit (by decide +kernel)) rfl c4) ?_
    refine xc_cons (xh_lt_T (XI_lit (by decide +kernel)) rfl c5) ?_
    refine xc_cons (xh_lt_T rfl (XI_lit (by decide +kernel)) c6) ?_
    refine xc_cons (xh_gt_T (XI_lit (by decide +kernel)) rfl c7) ?_
    exact xc_nil
  ·
    have c8 : xhid ((0 : Int) ≤ XI r (.arg 1)) := ((by have z0 : ¬ (XI r (.arg 1) < (0 : Int)) := c3; have z1 : -2147483648 ≤ XI r (.arg 1) := b1; have z2 : XI r (.arg 1) < 2147483648 := d1; omega) : (0 : Int) ≤ XI r (.arg 1))
    have c9 : xhid ((1 : Int) < XI r (.arg 49)) := ((by have z0 : (2 : Int) < XI r (.arg 49) := c2; omega) : (1 : Int) < XI r (.arg 49))
    have c10 : xhid ((2 : Int) < XI r (.arg 49)) := ((by have z0 : (2 : Int) < XI r (.arg 49) := c2; omega) : (2 : Int) < XI r (.arg 49))
    have c11 : xhid (¬ (XI r (.arg 1) < (0 : Int))) := ((by have z0 : (0 : Int) ≤ XI r (.arg 1) := c8; have z1 : -2147483648 ≤ XI r (.arg 1) := b1; have z2 : XI r (.arg 1) < 2147483648 := d1; omega) : ¬ (XI r (.arg 1) < (0 : Int)))
    have c12 : xhid ((-1 : Int) < XI r (.arg 1)) := ((by have z0 : ¬ (XI r (.arg 1) < (0 : Int)) := c11; have z1 : -2147483648 ≤ XI r (.arg 1) := b1; have z2 : XI r (.arg 1) < 2147483648 := d1; omega) : (-1 : Int) < XI r (.arg 1))
    have c13 : xhid (XI r (.sub (.arg 49) (.int 6)) < (6 : Int)) := ((by omega) : XI r (.sub (.arg 49) (.int 6)) < (6 : Int))
    refine ⟨134, _, ?_, lf_8_1⟩
    refine xc_cons (xh_gt_F (XI_lit (by decide +kernel)) rfl h0) ?_
    refine xc_cons (xh_lt_T (XI_lit (by decide +kernel)) rfl h1) ?_
    refine xc_cons (xh_eq_T rfl (XI_lit (by decide +kernel)) hk) ?_
    refine xc_cons (xh_lt_T (XI_lit (by decide +kernel)) rfl c1) ?_
    refine xc_cons (xh_lt_T (XI_lit (by decide +kernel)) rfl c2) ?_
    refine xc_cons (xh_lt_F rfl (XI_lit (by decide +kernel)) c3) ?_
    refine xc_cons (xh_ge_T rfl (XI_lit (by decide +kernel)) c8) ?_
    refine xc_cons (xh_lt_T (XI_lit (by decide +kernel)) rfl c9) ?_
    refine xc_cons (xh_lt_T (XI_lit (by decide +kernel)) rfl c10) ?_
    refine xc_cons (xh_lt_F rfl (XI_lit (by decide +kernel)) c11) ?_
    refine xc_cons (xh_gt_T rfl (XI_lit (by decide +kernel)) c12) ?_
    refine xc_cons (xh_gt_T (XI_lit (by decide +kernel)) rfl c13) ?_
    exact xc_nil
theorem lf_9_0 : xfin (xev 136 20 xlaw 18 xlo0 [] xh0 [(.gt, .int 0, .sub (.arg 49) (.int 6), false), (.lt, .int 0, .arg 49, true), (.eq, .op2 .iand (.arg 0) (.int 63), .int 9, true), (.lt, .int 1, .arg 49, true), (.lt, .int 2, .arg 49, true), (.lt, .int 3, .arg 49, true), (.lt, .arg 1, .int 0, true), (.lt, .int 1, .arg 49, true), (.lt, .int 2, .arg 49, true), (.lt, .int 3, .arg 49, true), (.lt, .arg 1, .int 0, true), (.gt, .int 6, .sub (.arg 49) (.int 6), true)]) = true := by decide +kernel
theorem lf_9_1 : xfin (xev 144 20 xlaw 18 xlo0 [] xh0 [(.gt, .int 0, .sub (.arg 49) (.int 6), false), (.lt, .int 0, .arg 49, true), (.eq, .op2 .iand (.arg 0) (.int 63), .int 9, true), (.lt, .int 1, .arg 49, true), (.lt, .int 2, .arg 49, true), (.lt, .int 3, .arg 49, true), (.lt, .arg 1, .int 0, false), (.ge, .arg 1, .int 0, true), (.lt, .int 1, .arg 49, true), (.lt, .int 2, .arg 49, true), (.lt, .int 3, .arg 49, true), (.lt, .arg 1, .int 0, false), (.gt, .arg 1, .int (-1), true), (.gt, .int 6, .sub (.arg 49) (.int 6), true)]) = true := by decide +kernel
set_option maxHeartbeats 4000000 in
theorem cv_9 {r : Nat → Value} (h49 : XI r (.arg 49) = 6) (hs : XI r (.sub (.arg 49) (.int 6)) = 0) (hk : XI r (.op2 .iand (.arg 0) (.int 63)) = 9) : ∃ (f : Nat) (E : List xB), (∀ q ∈ E, xhold r q) ∧ xfin (xev f 20 xlaw 18 xlo0 [] xh0 E) = true := by
  have h0 : ¬ (XI r (.sub (.arg 49) (.int 6)) < (0 : Int)) := by omega
  have h1 : (0 : Int) < XI r (.arg 49) := by omega
  have b0 : xhid (-2147483648 ≤ XI r (.arg 0)) := XI_lo r (.arg 0)
  have d0 : xhid (XI r (.arg 0) < 2147483648) := XI_hi r (.arg 0)
  have b1 : xhid (-2147483648 ≤ XI r (.arg 1)) := XI_lo r (.arg 1)
  have d1 : xhid (XI r (.arg 1) < 2147483648) := XI_hi r (.arg 1)
  have b2 : xhid (-2147483648 ≤ XI r (.arg 2)) := XI_lo r (.arg 2)
  have d2 : xhid (XI r (.arg 2) < 2147483648) := XI_hi r (.arg 2)
  have b3 : xhid (-2147483648 ≤ XI r (.arg 3)) := XI_lo r (.arg 3)
  have d3 : xhid (XI r (.arg 3) < 2147483648) := XI_hi r (.arg 3)
  have b4 : xhid (-2147483648 ≤ XI r (.arg 4)) := XI_lo r (.arg 4)
  have d4 : xhid (XI r (.arg 4) < 2147483648) := XI_hi r (.arg 4)
  have b5 : xhid (-2147483648 ≤ XI r (.arg 5)) := XI_lo r (.arg 5)
  have d5 : xhid (XI r (.arg 5) < 2147483648) := XI_hi r (.arg 5)
  have c1 : xhid ((1 : Int) < XI r (.arg 49)) := ((by have z0 : ¬ (XI r (.sub (.arg 49) (.int 6)) < (0 : Int)) := h0; omega) : (1 : Int) < XI r (.arg 49))
  have c2 : xhid ((2 : Int) < XI r (.arg 49)) := ((by have z0 : ¬ (XI r (.sub (.arg 49) (.int 6)) < (0 : Int)) := h0; omega) : (2 : Int) < XI r (.arg 49))
  have c3 : xhid ((3 : Int) < XI r (.arg 49)) := ((by have z0 : ¬ (XI r (.sub (.arg 49) (.int 6)) < (0 : Int)) := h0; omega) : (3 : Int) < XI r (.arg 49))
  refine (Classical.em (XI r (.arg 1) < (0 : Int))).elim (fun (c4 : xhid (XI r (.arg 1) < (0 : Int))) => ?_) (fun (c4 : xhid (¬ (XI r (.arg 1) < (0 : Int)))) => ?_)
  ·
    have c5 : xhid ((1 : Int) < XI r (.arg 49)) := ((by have z0 : (3 : Int) < XI r (.arg 49) := c3; omega) : (1 : Int) < XI r (.arg 49))
    have c6 : xhid ((2 : Int) < XI r (.arg 49)) := ((by have z0 : (3 : Int) < XI r (.arg 49) := c3; omega) : (2 : Int) < XI r (.arg 49))
    have c7 : xhid ((3 : Int) < XI r (.arg 49)) := ((by have z0 : (3 : Int) < XI r (.arg 49) := c3; omega) : (3 : Int) < XI r (.arg 49))
    have c8 : xhid (XI r (.arg 1) < (0 : Int)) := ((by have z0 : XI r (.arg 1) < (0 : Int) := c4; have z1 : -2147483648 ≤ XI r (.arg 1) := b1; have z2 : XI r (.arg 1) < 2147483648 := d1; omega) : XI r (.arg 1) < (0 : Int))
    have c9 : xhid (XI r (.sub (.arg 49) (.int 6)) < (6 : Int)) := ((by omega) : XI r (.sub (.arg 49) (.int 6)) < (6 : Int))
    refine ⟨136, _, ?_, lf_9_0⟩
    refine xc_cons (xh_gt_F (XI_lit (by decide +kernel)) rfl h0) ?_
    refine xc_cons (xh_lt_T (XI_lit (by decide +kernel)) rfl h1) ?_
    refine xc_cons (xh_eq_T rfl (XI_lit (by decide +kernel)) hk) ?_
    refine xc_cons (xh_lt_T (XI_lit (by decide +kernel)) rfl c1) ?_
    refine xc_cons (xh_lt_T (XI_lit (by decide +kernel)) rfl c2) ?_
    refine xc_cons (xh_lt_T (XI_lit (by decide +kernel)) rfl c3) ?_
    refine xc_cons (xh_lt_T rfl (XI_lit (by decide +kernel)) c4) ?_
    refine xc_cons (xh_lt_T (XI_lit (by decide +kernel)) rfl c5) ?_
    refine xc_cons (xh_lt_T (XI_lit (by decide +kernel)) rfl c6) ?_
    refine xc_cons (xh_lt_T (XI_lit (by decide +kernel)) rfl c7) ?_
    refine xc_cons (xh_lt_T rfl (XI_lit (by decide +kernel)) c8) ?_
    refine xc_cons (xh_gt_T (XI_lit (by decide +kernel)) rfl c9) ?_
    exact xc_nil
  ·
    have c10 : xhid ((0 : Int) ≤ XI r (.arg 1)) := ((by have z0 : ¬ (XI r (.arg 1) < (0 : Int)) := c4; have z1 : -2147483648 ≤ XI r (.arg 1) := b1; have z2 : XI r (.arg 1) < 2147483648 := d1; omega) : (0 : Int) ≤ XI r (.arg 1))
    have c11 : xhid ((1 : Int) < XI r (.arg 49)) := ((by have z0 : (3 : Int) < XI r (.arg 49) := c3; omega) : (1 : Int) < XI r (.arg 49))
    have c12 : xhid ((2 : Int) < XI r (.arg 49)) := ((by have z0 : (3 : Int) < XI r (.arg 49) := c3; omega) : (2 : Int) < XI r (.arg 49))
    have c13 : xhid ((3 : Int) < XI r (.arg 49)) := ((by have z0 : (3 : Int) < XI r (.arg 49) := c3; omega) : (3 : Int) < XI r (.arg 49))
    have c14 : xhid (¬ (XI r (.arg 1) < (0 : Int))) := ((by have z0 : (0 : Int) ≤ XI r (.arg 1) := c10; have z1 : -2147483648 ≤ XI r (.arg 1) := b1; have z2 : XI r (.arg 1) < 2147483648 := d1; omega) : ¬ (XI r (.arg 1) < (0 : Int)))
    have c15 : xhid ((-1 : Int) < XI r (.arg 1)) := ((by have z0 : ¬ (XI r (.arg 1) < (0 : Int)) := c14; have z1 : -2147483648 ≤ XI r (.arg 1) := b1; have z2 : XI r (.arg 1) < 2147483648 := d1; omega) : (-1 : Int) < XI r (.arg 1))
    have c16 : xhid (XI r (.sub (.arg 49) (.int 6)) < (6 : Int)) := ((by omega) : XI r (.sub (.arg 49) (.int 6)) < (6 : Int))
    refine ⟨144, _, ?_, lf_9_1⟩
    refine xc_cons (xh_gt_F (XI_lit (by decide +kernel)) rfl h0) ?_
    refine xc_cons (xh_lt_T (XI_lit (by decide +kernel)) rfl h1) ?_
    refine xc_cons (xh_eq_T rfl (XI_lit (by decide +kernel)) hk) ?_
    refine xc_cons (xh_lt_T (XI_lit (by decide +kernel)) rfl c1) ?_
    refine xc_cons (xh_lt_T (XI_lit (by decide +kernel)) rfl c2) ?_
    refine xc_cons (xh_lt_T (XI_lit (by decide +kernel)) rfl c3) ?_
    refine xc_cons (xh_lt_F rfl (XI_lit (by decide +kernel)) c4) ?_
    refine xc_cons (xh_ge_T rfl (XI_lit (by decide +kernel)) c10) ?_
    refine xc_cons (xh_lt_T (XI_lit (by decide +kernel)) rfl c11) ?_
    refine xc_cons (xh_lt_T (XI_lit (by decide +kernel)) rfl c12) ?_
    refine xc_cons (xh_lt_T (XI_lit (by decide +kernel)) rfl c13) ?_
    refine xc_cons (xh_lt_F rfl (XI_lit (by decide +kernel)) c14) ?_
    refine xc_cons (xh_gt_T rfl (XI_lit (by decide +kernel)) c15) ?_
    refine xc_cons (xh_gt_T (XI_lit (by decide +kernel)) rfl c16) ?_
    exact xc_nil
theorem lf_10_0 : xfin (xev 136 20 xlaw 18 xlo0 [] xh0 [(.gt, .int 0, .sub (.arg 49) (.int 6), false), (.lt, .int 0, .arg 49, true), (.eq, .op2 .iand (.arg 0) (.int 63), .int 10, true), (.lt, .int 1, .arg 49, true), (.lt, .int 2, .arg 49, true), (.lt, .int 3, .arg 49, true), (.lt, .arg 3, .int 1, true), (.lt, .int 1, .arg 49, true), (.lt, .int 2, .arg 49, true), (.lt, .int 3, .arg 49, true), (.lt, .arg 3, .int 1, true), (.gt, .int 6, .sub (.arg 49) (.int 6), true)]) = true := by decide +kernel
theorem lf_10_1 : xfin (xev 215 20 xlaw 18 xlo0 [] xh0 [(.gt, .int 0, .sub (.arg 49) (.int 6), false), (.lt, .int 0, .arg 49, true), (.eq, .op2 .iand (.arg 0) (.int 63), .int 10, true), (.lt, .int 1, .arg 49, true), (.lt, .int 2, .arg 49, true), (.lt, .int 3, .arg 49, true), (.lt, .arg 3, .int 1, false), (.le, .arg 3, .int 8, true), (.le, .add (.int 0) (.arg 3), .int 60, true), (.ge, .int 0, .arg 3, false), (.ge, .int 1, .arg 3, true), (.lt, .int 1, .arg 49, true), (.lt, .int 2, .arg 49, true), (.lt, .int 3, .arg 49, true), (.lt, .arg 3, .int 1, false), (.gt, .arg 3, .int 8, false), (.le, .add (.int 0) (.arg 3), .int 60, true), (.ge, .int 0, .arg 3, false), (.ge, .int 1, .arg 3, true), (.gt, .int 6, .sub (.arg 49) (.int 6), true)]) = true := by decide +kernel
theorem lf_10_2 : xfin (xev 283 20 xlaw 18 xlo0 [] xh0 [(.gt, .int 0, .sub (.arg 49) (.int 6), false), (.lt, .int 0, .arg 49, true), (.eq, .op2 .iand (.arg 0) (.int 63), .int 10, true), (.lt, .int 1, .arg 49, true), (.lt, .int 2, .arg 49, true), (.lt, .int 3, .arg 49, true), (.lt, .arg 3, .int 1, false), (.le, .arg 3, .int 8, true), (.le, .add (.int 0) (.arg 3), .int 60, true), (.ge, .int 0, .arg 3, false), (.ge, .int 1, .arg 3, false), (.ge, .int 2, .arg 3, true), (.lt, .int 1, .arg 49, true), (.lt, .int 2, .arg 49, true), (.lt, .int 3, .arg 49, true), (.lt, .arg 3, .int 1, false), (.gt, .arg 3, .int 8, false), (.le, .add (.int 0) (.arg 3), .int 60, true), (.ge, .int 0, .arg 3, false), (.ge, .int 1, .arg 3, false), (.ge, .int 2, .arg 3, true), (.gt, .int 6, .sub (.arg 49) (.int 6), true)]) = true := by decide +kernel
theorem lf_10_3 : xfin (xev 351 20 xlaw 18 xlo0 [] xh0 [(.gt, .int 0, .sub (.arg 49) (.int 6), false), (.lt, .int 0, .arg 49, true), (.eq, .op2 .iand (.arg 0) (.int 63), .int 10, true), (.lt, .int 1, .arg 49, true), (.lt, .int 2, .arg 49, true), (.lt, .int 3, .arg 49, true), (.lt, .arg 3, .int 1, false), (.le, .arg 3, .int 8, true), (.le, .add (.int 0) (.arg 3), .int 60, true), (.ge, .int 0, .arg 3, false), (.ge, .int 1, .arg 3, false), (.ge, .int 2, .arg 3, false), (.ge, .int 3, .arg 3, true), (.lt, .int 1, .arg 49, true), (.lt, .int 2, .arg 49, true), (.lt, .int 3, .arg 49, true), (.lt, .arg 3, .int 1, false), (.gt, .arg 3, .int 8, false), (.le, .add (.int 0) (.arg 3), .int 60, true), (.ge, .int 0, .arg 3, false), (.ge, .int 1, .arg 3, false), (.ge, .int 2, .arg 3, false), (.ge, .int 3, .arg 3, true), (.gt, .int 6, .sub (.arg 49) (.int 6), true)]) = true := by decide +kernel
theorem lf_10_4 : xfin (xev 419 20 xlaw 18 xlo0 [] xh0 [(.gt, .int 0, .sub (.arg 49) (.int 6), false), (.lt, .int 0, .arg 49, true), (.eq, .op2 .iand (.arg 0) (.int 63), .int 10, true), (.lt, .int 1, .arg 49, true), (.lt, .int 2, .arg 49, true), (.lt, .int 3, .arg 49, true), (.lt, .arg 3, .int 1, false), (.le, .arg 3, .int 8, true), (.le, .add (.int 0) (.arg 3), .int 60, true), (.ge, .int 0, .arg 3, false), (.ge, .int 1, .arg 3, false), (.ge, .int 2, .arg 3, false), (.ge, .int 3, .arg 3, false), (.ge, .int 4, .arg 3, true), (.lt, .int 1, .arg 49, true), (.lt, .int 2, .arg 49, true), (.lt, .int 3, .arg 49, true), (.lt, .arg 3, .int 1, false), (.gt, .arg 3, .int 8, false), (.le, .add (.int 0) (.arg 3), .int 60, true), (.ge, .int 0, .arg 3, false), (.ge, .int 1, .arg 3, false), (.ge, .int 2, .arg 3, false), (.ge, .int 3, .arg 3, false), (.ge, .int 4, .arg 3, true), (.gt, .int 6, .sub (.arg 49) (.int 6), true)]) = true := by decide +kernel
theorem lf_10_5 : xfin (xev 487 20 xlaw 18 xlo0 [] xh0 [(.gt, .int 0, .sub (.arg 49) (.int 6), false), (.lt, .int 0, .arg 49, true), (.eq, .op2 .iand (.arg 0) (.int 63), .int 10, true), (.lt, .int 1, .arg 49, true), (.lt, .int 2, .arg 49, true), (.lt, .int 3, .arg 49, true), (.lt, .arg 3, .int 1, false), (.le, .arg 3, .int 8, true), (.le, .add (.int 0) (.arg 3), .int 60, true), (.ge, .int 0, .arg 3, false), (.ge, .int 1, .arg 3, false), (.ge, .int 2, .arg 3, false), (.ge, .int 3, .arg 3, false), (.ge, .int 4, .arg 3, false), (.ge, .int 5, .arg 3, true), (.lt, .int 1, .arg 49, true), (.lt, .int 2, .arg 49, true), (.lt, .int 3, .arg 49, true), (.lt, .arg 3, .int 1, false), (.gt, .arg 3, .int 8, false), (.le, .add (.int 0) (.arg 3), .int 60, true), (.ge, .int 0, .arg 3, false), (.ge, .int 1, .arg 3, false), (.ge, .int 2, .arg 3, false), (.ge, .int 3, .arg 3, false), (.ge, .int 4, .arg 3, false), (.ge, .int 5, .arg 3, true), (.gt, .int 6, .sub (.arg 49) (.int 6), true)]) = true := by decide +kernel
theorem lf_10_6 : xfin (xev 555 20 xlaw 18 xlo0 [] xh0 [(.gt, .int 0, .sub (.arg 49) (.int 6), false), (.lt, .int 0, .arg 49, true), (.eq, .op2 .iand (.arg 0) (.int 63), .int 10, true), (.lt, .int 1, .arg 49, true), (.lt, .int 2, .arg 49, true), (.lt, .int 3, .arg 49, true), (.lt, .arg 3, .int 1, false), (.le, .arg 3, .int 8, true), (.le, .add (.int 0) (.arg 3), .int 60, true), (.ge, .int 0, .arg 3, false), (.ge, .int 1, .arg 3, false), (.ge, .int 2, .arg 3, false), (.ge, .int 3, .arg 3, false), (.ge, .int 4, .arg 3, false), (.ge, .int 5, .arg 3, false), (.ge, .int 6, .arg 3, true), (.lt, .int 1, .arg 49, true), (.lt, .int 2, .arg 49, true), (.lt, .int 3, .arg 49, true), (.lt, .arg 3, .int 1, false), (.gt, .arg 3, .int 8, false), (.le, .add (.int 0) (.arg 3), .int 60, true), (.ge, .int 0, .arg 3, false), (.ge, .int 1, .arg 3, false), (.ge, .int 2, .arg 3, false), (.ge, .int 3, .arg 3, false), (.ge, .int 4, .arg 3, false), (.ge, .int 5, .arg 3, false), (.ge, .int 6, .arg 3, true), (.gt, .int 6, .sub (.arg 49) (.int 6), true)]) = true := by decide +kernel
theorem lf_10_7 : xfin (xev 623 20 xlaw 18 xlo0 [] xh0 [(.gt, .int 0, .sub (.arg 49) (.int 6), false), (.lt, .int 0, .arg 49, true), (.eq, .op2 .iand (.arg 0) (.int 63), .int 10, true), (.lt, .int 1, .arg 49, true), (.lt, .int 2, .arg 49, true), (.lt, .int 3, .arg 49, true), (.lt, .arg 3, .int 1, false), (.le, .arg 3, .int 8, true), (.le, .add (.int 0) (.arg 3), .int 60, true), (.ge, .int 0, .arg 3, false), (.ge, .int 1, .arg 3, false), (.ge, .int 2, .arg 3, false), (.ge, .int 3, .arg 3, false), (.ge, .int 4, .arg 3, false), (.ge, .int 5, .arg 3, false), (.ge, .int 6, .arg 3, false), (.ge, .int 7, .arg 3, true), (.lt, .int 1, .arg 49, true), (.lt, .int 2, .arg 49, true), (.lt, .int 3, .arg 49, true), (.lt, .arg 3, .int 1, false), (.gt, .arg 3, .int 8, false), (.le, .add (.int 0) (.arg 3), .int 60, true), (.ge, .int 0, .arg 3, false), (.ge, .int 1, .arg 3, false), (.ge, .int 2, .arg 3, false), (.ge, .int 3, .arg 3, false), (.ge, .int 4, .arg 3, false), (.ge, .int 5, .arg 3, false), (.ge, .int 6, .arg 3, false), (.ge, .int 7, .arg 3, true), (.gt, .int 6, .sub (.arg 49) (.int 6), true)]) = true := by decide +kernel
theorem lf_10_8 : xfin (xev 691 20 xlaw 18 xlo0 [] xh0 [(.gt, .int 0, .sub (.arg 49) (.int 6), false), (.lt, .int 0, .arg 49, true), (.eq, .op2 .iand (.arg 0) (.int 63), .int 10, true), (.lt, .int 1, .arg 49, true), (.lt, .int 2, .arg 49, true), (.lt, .int 3, .arg 49, true), (.lt, .arg 3, .int 1, false), (.le, .arg 3, .int 8, true), (.le, .add (.int 0) (.arg 3), .int 60, true), (.ge, .int 0, .arg 3, false), (.ge, .int 1, .arg 3, false), (.ge, .int 2, .arg 3, false), (.ge, .int 3, .arg 3, false), (.ge, .int 4, .arg 3, false), (.ge, .int 5, .arg 3, false), (.ge, .int 6, .arg 3, false), (.ge, .int 7, .arg 3, false), (.ge, .int 8, .arg 3, true), (.lt, .int 1, .arg 49, true), (.lt, .int 2, .arg 49, true), (.lt, .int 3, .arg 49, true), (.lt, .arg 3, .int 1, false), (.gt, .arg 3, .int 8, false), (.le, .add (.int 0) (.arg 3), .int 60, true), (.ge, .int 0, .arg 3, false), (.ge, .int 1, .arg 3, false), (.ge, .int 2, .arg 3, false), (.ge, .int 3, .arg 3, false), (.ge, .int 4, .arg 3, false), (.ge, .int 5, .arg 3, false), (.ge, .int 6, .arg 3, false), (.ge, .int 7, .arg 3, false), (.ge, .int 8, .arg 3, true), (.gt, .int 6, .sub (.arg 49) (.int 6), true)]) = true := by decide +kernel
theorem lf_10_9 : xfin (xev 142 20 xlaw 18 xlo0 [] xh0 [(.gt, .int 0, .sub (.arg 49) (.int 6), false), (.lt, .int 0, .arg 49, true), (.eq, .op2 .iand (.arg 0) (.int 63), .int 10, true), (.lt, .int 1, .arg 49, true), (.lt, .int 2, .arg 49, true), (.lt, .int 3, .arg 49, true), (.lt, .arg 3, .int 1, false), (.le, .arg 3, .int 8, false), (.lt, .int 1, .arg 49, true), (.lt, .int 2, .arg 49, true), (.lt, .int 3, .arg 49, true), (.lt, .arg 3, .int 1, false), (.gt, .arg 3, .int 8, true), (.gt, .int 6, .sub (.arg 49) (.int 6), true)]) = true := by decide +kernel
set_option maxHeartbeats 4000000 in
theorem cv_10 {r : Nat → Value} (h49 : XI r (.arg 49) = 6) (hs : XI r (.sub (.arg 49) (.int 6)) = 0) (hk : XI r (.op2 .iand (.arg 0) (.int 63)) = 10) : ∃ (f : Nat) (E : List xB), (∀ q ∈ E, xhold r q) ∧ xfin (xev f 20 xlaw 18 xlo0 [] xh0 E) = true := by
  have h0 : ¬ (XI r (.sub (.arg 49) (.int 6)) < (0 : Int)) := by omega
  have h1 : (0 : Int) < XI r (.arg 49) := by omega
  have b0 : xhid (-2147483648 ≤ XI r (.arg 0)) := XI_lo r (.arg 0)
  have d0 : xhid (XI r (.arg 0) < 2147483648) := XI_hi r (.arg 0)
  have b1 : xhid (-2147483648 ≤ XI r (.arg 1)) := XI_lo r (.arg 1)
  have d1 : xhid (XI r (.arg 1) < 2147483648) := XI_hi r (.arg 1)
  have b2 : xhid (-2147483648 ≤ XI r (.arg 2)) := XI_lo r (.arg 2)
  have d2 : xhid (XI r (.arg 2) < 2147483648) := XI_hi r (.arg 2)
  have b3 : xhid (-2147483648 ≤ XI r (.arg 3)) := XI_lo r (.arg 3)
  have d3 : xhid (XI r (.arg 3) < 2147483648) := XI_hi r (.arg 3)
  have b4 : xhid (-2147483648 ≤ XI r (.arg 4)) := XI_lo r (.arg 4)
  have d4 : xhid (XI r (.arg 4) < 2147483648) := XI_hi r (.arg 4)
  have b5 : xhid (-2147483648 ≤ XI r (.arg 5)) := XI_lo r (.arg 5)
  have d5 : xhid (XI r (.arg 5) < 2147483648) := XI_hi r (.arg 5)
  have c1 : xhid ((1 : Int) < XI r (.arg 49)) := ((by have z0 : ¬ (XI r (.sub (.arg 49) (.int 6)) < (0 : Int)) := h0; omega) : (1 : Int) < XI r (.arg 49))
  have c2 : xhid ((2 : Int) < XI r (.arg 49)) := ((by have z0 : ¬ (XI r (.sub (.arg 49) (.int 6)) < (0 : Int)) := h0; omega) : (2 : Int) < XI r (.arg 49))
  have c3 : xhid ((3 : Int) < XI r (.arg 49)) := ((by have z0 : ¬ (XI r (.sub (.arg 49) (.int 6)) < (0 : Int)) := h0; omega) : (3 : Int) < XI r (.arg 49))
  refine (Classical.em (XI r (.arg 3) < (1 : Int))).elim (fun (c4 : xhid (XI r (.arg 3) < (1 : Int))) => ?_) (fun (c4 : xhid (¬ (XI r (.arg 3) < (1 : Int)))) => ?_)
  ·
    have c5 : xhid ((1 : Int) < XI r (.arg 49)) := ((by have z0 : (3 : Int) < XI r (.arg 49) := c3; omega) : (1 : Int) < XI r (.arg 49))
    have c6 : xhid ((2 : Int) < XI r (.arg 49)) := ((by have z0 : (3 : Int) < XI r (.arg 49) := c3; omega) : (2 : Int) < XI r (.arg 49))
    have c7 : xhid ((3 : Int) < XI r (.arg 49)) := ((by have z0 : (3 : Int) < XI r (.arg 49) := c3; omega) : (3 : Int) < XI r (.arg 49))
    have c8 : xhid (XI r (.arg 3) < (1 : Int)) := ((by have z0 : XI r (.arg 3) < (1 : Int) := c4; have z1 : -2147483648 ≤ XI r (.arg 3) := b3; have z2 : XI r (.arg 3) < 2147483648 := d3; omega) : XI r (.arg 3) < (1 : Int))
    have c9 : xhid (XI r (.sub (.arg 49) (.int 6)) < (6 : Int)) := ((by omega) : XI r (.sub (.arg 49) (.int 6)) < (6 : Int))
    refine ⟨136, _, ?_, lf_10_0⟩
    refine xc_cons (xh_gt_F (XI_lit (by decide +kernel)) rfl h0) ?_
    refine xc_cons (xh_lt_T (XI_lit (by decide +kernel)) rfl h1) ?_
    refine xc_cons (xh_eq_T rfl (XI_lit (by decide +kernel)) hk) ?_
    refine xc_cons (xh_lt_T (XI_lit (by decide +kernel)) rfl c1) ?_
    refine xc_cons (xh_lt_T (XI_lit (by decide +kernel)) rfl c2) ?_
    refine xc_cons (xh_lt_T (XI_lit (by decide +kernel)) rfl c3) ?_
    refine xc_cons (xh_lt_T rfl (XI_lit (by decide +kernel)) c4) ?_
    refine xc_cons (xh_lt_T (XI_lit (by decide +kernel)) rfl c5) ?_
    refine xc_cons (xh_lt_T (XI_lit (by decide +kernel)) rfl c6) ?_
    refine xc_cons (xh_lt_T (XI_lit (by decide +kernel)) rfl c7) ?_
    refine xc_cons (xh_lt_T rfl (XI_lit (by decide +kernel)) c8) ?_
    refine xc_cons (xh_gt_T (XI_lit (by decide +kernel)) rfl c9) ?_
    exact xc_nil
  ·
    refine (Classical.em (XI r (.arg 3) ≤ (8 : Int))).elim (fun (c10 : xhid (XI r (.arg 3) ≤ (8 : Int))) => ?_) (fun (c10 : xhid (¬ (XI r (.arg 3) ≤ (8 : Int)))) => ?_)
    ·
      have c11 : xhid (XI r (.add (.int 0) (.arg 3)) = (0 : Int) + XI r (.arg 3)) := XI_add (XI_lit (by decide +kernel)) rfl (by have z0 : ¬ (XI r (.arg 3) < (1 : Int)) := c4; have z1 : XI r (.arg 3) ≤ (8 : Int) := c10; have z2 : -2147483648 ≤ XI r (.arg 3) := b3; have z3 : XI r (.arg 3) < 2147483648 := d3; omega) (by have z0 : ¬ (XI r (.arg 3) < (1 : Int)) := c4; have z1 : XI r (.arg 3) ≤ (8 : Int) := c10; have z2 : -2147483648 ≤ XI r (.arg 3) := b3; have z3 : XI r (.arg 3) < 2147483648 := d3; omega)
      have c12 : xhid (XI r (.add (.int 0) (.arg 3)) ≤ (60 : Int)) := ((by have z0 : XI r (.arg 3) ≤ (8 : Int) := c10; have z1 : XI r (.add (.int 0) (.arg 3)) = (0 : Int) + XI r (.arg 3) := c11; have z2 : -2147483648 ≤ XI r (.arg 3) := b3; have z3 : XI r (.arg 3) < 2147483648 := d3; omega) : XI r (.add (.int 0) (.arg 3)) ≤ (60 : Int))
      have c13 : xhid (¬ (XI r (.arg 3) ≤ (0 : Int))) := ((by have z0 : ¬ (XI r (.arg 3) < (1 : Int)) := c4; have z1 : -2147483648 ≤ XI r (.arg 3) := b3; have z2 : XI r (.arg 3) < 2147483648 := d3; omega) : ¬ (XI r (.arg 3) ≤ (0 : Int)))
      refine (Classical.em (XI r (.arg 3) ≤ (1 : Int))).elim (fun (c14 : xhid (XI r (.arg 3) ≤ (1 : Int))) => ?_) (fun (c14 : xhid (¬ (XI r (.arg 3) ≤ (1 : Int)))) => ?_)
      ·
        have c15 : xhid ((1 : Int) < XI r (.arg 49)) := ((by have z0 : (3 : Int) < XI r (.arg 49) := c3; omega) : (1 : Int) < XI r (.arg 49))
        have c16 : xhid ((2 : Int) < XI r (.arg 49)) := ((by have z0 : (3 : Int) < XI r (.arg 49) := c3; omega) : (2 : Int) < XI r (.arg 49))
        have c17 : xhid ((3 : Int) < XI r (.arg 49)) := ((by have z0 : (3 : Int) < XI r (.arg 49) := c3; omega) : (3 : Int) < XI r (.arg 49))
        have c18 : xhid (¬ (XI r (.arg 3) < (1 : Int))) := ((by have z0 : ¬ (XI r (.arg 3) ≤ (0 : Int)) := c13; have z1 : -2147483648 ≤ XI r (.arg 3) := b3; have z2 : XI r (.arg 3) < 2147483648 := d3; omega) : ¬ (XI r (.arg 3) < (1 : Int)))
        have c19 : xhid (¬ ((8 : Int) < XI r (.arg 3))) := ((by have z0 : XI r (.arg 3) ≤ (1 : Int) := c14; have z1 : -2147483648 ≤ XI r (.arg 3) := b3; have z2 : XI r (.arg 3) < 2147483648 := d3; omega) : ¬ ((8 : Int) < XI r (.arg 3)))
        have c20 : xhid (XI r (.add (.int 0) (.arg 3)) ≤ (60 : Int)) := ((by have z0 : ¬ ((8 : Int) < XI r (.arg 3)) := c19; have z1 : XI r (.add (.int 0) (.arg 3)) = (0 : Int) + XI r (.arg 3) := c11; have z2 : -2147483648 ≤ XI r (.arg 3) := b3; have z3 : XI r (.arg 3) < 2147483648 := d3; omega) : XI r (.add (.int 0) (.arg 3)) ≤ (60 : Int))
        have c21 : xhid (¬ (XI r (.arg 3) ≤ (0 : Int))) := ((by have z0 : ¬ (XI r (.arg 3) < (1 : Int)) := c18; have z1 : -2147483648 ≤ XI r (.arg 3) := b3; have z2 : XI r (.arg 3) < 2147483648 := d3; omega) : ¬ (XI r (.arg 3) ≤ (0 : Int)))
        have c22 : xhid (XI r (.arg 3) ≤ (1 : Int)) := ((by have z0 : XI r (.arg 3) ≤ (1 : Int) := c14; have z1 : -2147483648 ≤ XI r (.arg 3) := b3; have z2 : XI r (.arg 3) < 2147483648 := d3; omega) : XI r (.arg 3) ≤ (1 : Int))
        have c23 : xhid (XI r (.sub (.arg 49) (.int 6)) < (6 : Int)) := ((by omega) : XI r (.sub (.arg 49) (.int 6)) < (6 : Int))
        refine ⟨215, _, ?_, lf_10_1⟩
        refine xc_cons (xh_gt_F (XI_lit (by decide +kernel)) rfl h0) ?_
        refine xc_cons (xh_lt_T (XI_lit (by decide +kernel)) rfl h1) ?_
        refine xc_cons (xh_eq_T rfl (XI_lit (by decide +kernel)) hk) ?_
        refine xc_cons (xh_lt_T (XI_lit (by decide +kernel)) rfl c1) ?_
        refine xc_cons (xh_lt_T (XI_lit (by decide +kernel)) rfl c2) ?_
        refine xc_cons (xh_lt_T (XI_lit (by decide +kernel)) rfl c3) ?_
        refine xc_cons (xh_lt_F rfl (XI_lit (by decide +kernel)) c4) ?_
        refine xc_cons (xh_le_T rfl (XI_lit (by decide +kernel)) c10) ?_
        refine xc_cons (xh_le_T rfl (XI_lit (by decide +kernel)) c12) ?_
        refine xc_cons (xh_ge_F (XI_lit (by decide +kernel)) rfl c13) ?_
        refine xc_cons (xh_ge_T (XI_lit (by decide +kernel)) rfl c14) ?_
        refine xc_cons (xh_lt_T (XI_lit (by decide +kernel)) rfl c15) ?_
        refine xc_cons (xh_lt_T (XI_lit (by decide +kernel)) rfl c16) ?_
        refine xc_cons (xh_lt_T (XI_lit (by decide +kernel)) rfl c17) ?_
        refine xc_cons (xh_lt_F rfl (XI_lit (by decide +kernel)) c18) ?_
        refine xc_cons (xh_gt_F rfl (XI_lit (by decide +kernel)) c19) ?_
        refine xc_cons (xh_le_T rfl (XI_lit (by decide +kernel)) c20) ?_
        refine xc_cons (xh_ge_F (XI_lit (by decide +kernel)) rfl c21) ?_
        refine xc_cons (xh_ge_T (XI_lit (by decide +kernel)) rfl c22) ?_
        refine xc_cons (xh_gt_T (XI_lit (by decide +kernel)) rfl c23) ?_
        exact xc_nil
      ·
        refine (Classical.em (XI r (.arg 3) ≤ (2 : Int))).elim (fun (c24 : xhid (XI r (.arg 3) ≤ (2 : Int))) => ?_) (fun (c24 : xhid (¬ (XI r (.arg 3) ≤ (2 : Int)))) => ?_)
        ·
          have c25 : xhid ((1 : Int) < XI r (.arg 49)) := ((by have z0 : (3 : Int) < XI r (.arg 49) := c3; omega) : (1 : Int) < XI r (.arg 49))
          have c26 : xhid ((2 : Int) < XI r (.arg 49)) := ((by have z0 : (3 : Int) < XI r (.arg 49) := c3; omega) : (2 : Int) < XI r (.arg 49))
          have c27 : xhid ((3 : Int) < XI r (.arg 49)) := ((by have z0 : (3 : Int) < XI r (.arg 49) := c3; omega) : (3 : Int) < XI r (.arg 49))
          have c28 : xhid (¬ (XI r (.arg 3) < (1 : Int))) := ((by have z0 : ¬ (XI r (.arg 3) ≤ (1 : Int)) := c14; have z1 : -2147483648 ≤ XI r (.arg 3) := b3; have z2 : XI r (.arg 3) < 2147483648 := d3; omega) : ¬ (XI r (.arg 3) < (1 : Int)))
          have c29 : xhid (¬ ((8 : Int) < XI r (.arg 3))) := ((by have z0 : XI r (.arg 3) ≤ (2 : Int) := c24; have z1 : -2147483648 ≤ XI r (.arg 3) := b3; have z2 : XI r (.arg 3) < 2147483648 := d3; omega) : ¬ ((8 : Int) < XI r (.arg 3)))
          have c30 : xhid (XI r (.add (.int 0) (.arg 3)) ≤ (60 : Int)) := ((by have z0 : ¬ ((8 : Int) < XI r (.arg 3)) := c29; have z1 : XI r (.add (.int 0) (.arg 3)) = (0 : Int) + XI r (.arg 3) := c11; have z2 : -2147483648 ≤ XI r (.arg 3) := b3; have z3 : XI r (.arg 3) < 2147483648 := d3; omega) : XI r (.add (.int 0) (.arg 3)) ≤ (60 : Int))
          have c31 : xhid (¬ (XI r (.arg 3) ≤ (0 : Int))) := ((by have z0 : ¬ (XI r (.arg 3) < (1 : Int)) := c28; have z1 : -2147483648 ≤ XI r (.arg 3) := b3; have z2 : XI r (.arg 3) < 2147483648 := d3; omega) : ¬ (XI r (.arg 3) ≤ (0 : Int)))
          have c32 : xhid (¬ (XI r (.arg 3) ≤ (1 : Int))) := ((by have z0 : ¬ (XI r (.arg 3) ≤ (1 : Int)) := c14; have z1 : -2147483648 ≤ XI r (.arg 3) := b3; have z2 : XI r (.arg 3) < 2147483648 := d3; omega) : ¬ (XI r (.arg 3) ≤ (1 : Int)))
          have c33 : xhid (XI r (.arg 3) ≤ (2 : Int)) := ((by have z0 : XI r (.arg 3) ≤ (2 : Int) := c24; have z1 : -2147483648 ≤ XI r (.arg 3) := b3; have z2 : XI r (.arg 3) < 2147483648 := d3; omega) : XI r (.arg 3) ≤ (2 : Int))
          have c34 : xhid (XI r (.sub (.arg 49) (.int 6)) < (6 : Int)) := ((by omega) : XI r (.sub (.arg 49) (.int 6)) < (6 : Int))
          refine ⟨283, _, ?_, lf_10_2⟩
          refine xc_cons (xh_gt_F (XI_lit (by decide +kernel)) rfl h0) ?_
          refine xc_cons (xh_lt_T (XI_lit (by decide +kernel)) rfl h1) ?_
          refine xc_cons (xh_eq_T rfl (XI_lit (by decide +kernel)) hk) ?_
          refine xc_cons (xh_lt_T (XI_lit (by decide +kernel)) rfl c1) ?_
          refine xc_cons (xh_lt_T (XI_lit (by decide +kernel)) rfl c2) ?_
          refine xc_cons (xh_lt_T (XI_lit (by decide +kernel)) rfl c3) ?_
          refine xc_cons (xh_lt_F rfl (XI_lit (by decide +kernel)) c4) ?_
          refine xc_cons (xh_le_T rfl (XI_lit (by decide +kernel)) c10) ?_
          refine xc_cons (xh_le_T rfl (XI_lit (by decide +kernel)) c12) ?_
          refine xc_cons (xh_ge_F (XI_lit (by decide +kernel)) rfl c13) ?_
          refine xc_cons (xh_ge_F (XI_lit (by decide +kernel)) rfl c14) ?_
          refine xc_cons (xh_ge_T (XI_lit (by decide +kernel)) rfl c24) ?_
          refine xc_cons (xh_lt_T (XI_lit (by decide +kernel)) rfl c25) ?_
          refine xc_cons (xh_lt_T (XI_lit (by decide +kernel)) rfl c26) ?_
          refine xc_cons (xh_lt_T (XI_lit (by decide +kernel)) rfl c27) ?_
          refine xc_cons (xh_lt_F rfl (XI_lit (by decide +kernel)) c28) ?_
          refine xc_cons (xh_gt_F rfl (XI_lit (by decide +kernel)) c29) ?_
          refine xc_cons (xh_le_T rfl (XI_lit (by decide +kernel)) c30) ?_
          refine xc_cons (xh_ge_F (XI_lit (by decide +kernel)) rfl c31) ?_
          refine xc_cons (xh_ge_F (XI_lit (by decide +kernel)) rfl c32) ?_
          refine xc_cons (xh_ge_T (XI_lit (by decide +kernel)) rfl c33) ?_
          refine xc_cons (xh_gt_T (XI_lit (by decide +kernel)) rfl c34) ?_
          exact xc_nil
        ·
          refine (Classical.em (XI r (.arg 3) ≤ (3 : Int))).elim (fun (c35 : xhid (XI r (.arg 3) ≤ (3 : Int))) => ?_) (fun (c35 : xhid (¬ (XI r (.arg 3) ≤ (3 : Int)))) => ?_)
          ·
            have c36 : xhid ((1 : Int) < XI r (.arg 49)) := ((by have z0 : (3 : Int) < XI r (.arg 49) := c3; omega) : (1 : Int) < XI r (.arg 49))
            have c37 : xhid ((2 : Int) < XI r (.arg 49)) := ((by have z0 : (3 : Int) < XI r (.arg 49) := c3; omega) : (2 : Int) < XI r (.arg 49))
            have c38 : xhid ((3 : Int) < XI r (.arg 49)) := ((by have z0 : (3 : Int) < XI r (.arg 49) := c3; omega) : (3 : Int) < XI r (.arg 49))
            have c39 : xhid (¬ (XI r (.arg 3) < (1 : Int))) := ((by have z0 : ¬ (XI r (.arg 3) ≤ (2 : Int)) := c24; have z1 : -2147483648 ≤ XI r (.arg 3) := b3; have z2 : XI r (.arg 3) < 2147483648 := d3; omega) : ¬ (XI r (.arg 3) < (1 : Int)))
            have c40 : xhid (¬ ((8 : Int) < XI r (.arg 3))) := ((by have z0 : XI r (.arg 3) ≤ (3 : Int) := c35; have z1 : -2147483648 ≤ XI r (.arg 3) := b3; have z2 : XI r (.arg 3) < 2147483648 := d3; omega) : ¬ ((8 : Int) < XI r (.arg 3)))
            have c41 : xhid (XI r (.add (.int 0) (.arg 3)) ≤ (60 : Int)) := ((by have z0 : ¬ ((8 : Int) < XI r (.arg 3)) := c40; have z1 : XI r (.add (.int 0) (.arg 3)) = (0 : Int) + XI r (.arg 3) := c11; have z2 : -2147483648 ≤ XI r (.arg 3) := b3; have z3 : XI r (.arg 3) < 2147483648 := d3; omega) : XI r (.add (.int 0) (.arg 3)) ≤ (60 : Int))
            have c42 : xhid (¬ (XI r (.arg 3) ≤ (0 : Int))) := ((by have z0 : ¬ (XI r (.arg 3) < (1 : Int)) := c39; have z1 : -2147483648 ≤ XI r (.arg 3) := b3; have z2 : XI r (.arg 3) < 2147483648 := d3; omega) : ¬ (XI r (.arg 3) ≤ (0 : Int)))
            have c43 : xhid (¬ (XI r (.arg 3) ≤ (1 : Int))) := ((by have z0 : ¬ (XI r (.arg 3) ≤ (2 : Int)) := c24; have z1 : -2147483648 ≤ XI r (.arg 3) := b3; have z2 : XI r (.arg 3) < 2147483648 := d3; omega) : ¬ (XI r (.arg 3) ≤ (1 : Int)))
            have c44 : xhid (¬ (XI r (.arg 3) ≤ (2 : Int))) := ((by have z0 : ¬ (XI r (.arg 3) ≤ (2 : Int)) := c24; have z1 : -2147483648 ≤ XI r (.arg 3) := b3; have z2 : XI r (.arg 3) < 2147483648 := d3; omega) : ¬ (XI r (.arg 3) ≤ (2 : Int)))
            have c45 : xhid (XI r (.arg 3) ≤ (3 : Int)) := ((by have z0 : XI r (.arg 3) ≤ (3 : Int) := c35; have z1 : -2147483648 ≤ XI r (.arg 3) := b3; have z2 : XI r (.arg 3) < 2147483648 := d3; omega) : XI r (.arg 3) ≤ (3 : Int))
            have c46 : xhid (XI r (.sub (.arg 49) (.int 6)) < (6 : Int)) := ((by omega) : XI r (.sub (.arg 49) (.int 6)) < (6 : Int))
            refine ⟨351, _, ?_, lf_10_3⟩
            refine xc_cons (xh_gt_F (XI_lit (by decide +kernel)) rfl h0) ?_
            refine xc_cons (xh_lt_T (XI_lit (by decide +kernel)) rfl h1) ?_
            refine xc_cons (xh_eq_T rfl (XI_lit (by decide +kernel)) hk) ?_
            refine xc_cons (xh_lt_T (XI_lit (by decide +kernel)) rfl c1) ?_
            refine xc_cons (xh_lt_T (XI_lit (by decide +kernel)) rfl c2) ?_
            refine xc_cons (xh_lt_T (XI_lit (by decide +kernel)) rfl c3) ?_
            refine xc_cons (xh_lt_F rfl (XI_lit (by decide +kernel)) c4) ?_
            refine xc_cons (xh_le_T rfl (XI_lit (by decide +kernel)) c10) ?_
            refine xc_cons (xh_le_T rfl (XI_lit (by decide +kernel)) c12) ?_
            refine xc_cons (xh_ge_F (XI_lit (by decide +kernel)) rfl c13) ?_
            refine xc_cons (xh_ge_F (XI_lit (by decide +kernel)) rfl c14) ?_
            refine xc_cons (xh_ge_F (XI_lit (by decide +kernel)) rfl c24) ?_
            refine xc_cons (xh_ge_T (XI_lit (by decide +kernel)) rfl c35) ?_
            refine xc_cons (xh_lt_T (XI_lit (by decide +kernel)) rfl c36) ?_
            refine xc_cons (xh_lt_T (XI_lit (by decide +kernel)) rfl c37) ?_
            refine xc_cons (xh_lt_T (XI_lit (by decide +kernel)) rfl c38) ?_
            refine xc_cons (xh_lt_F rfl (XI_lit (by decide +kernel)) c39) ?_
            refine xc_cons (xh_gt_F rfl (XI_lit (by decide +kernel)) c40) ?_
            refine xc_cons (xh_le_T rfl (XI_lit (by decide +kernel)) c41) ?_
            refine xc_cons (xh_ge_F (XI_lit (by decide +kernel)) rfl c42) ?_
            refine xc_cons (xh_ge_F (XI_lit (by decide +kernel)) rfl c43) ?_
            refine xc_cons (xh_ge_F (XI_lit (by decide +kernel)) rfl c44) ?_
            refine xc_cons (xh_ge_T (XI_lit (by decide +kernel)) rfl c45) ?_
            refine xc_cons (xh_gt_T (XI_lit (by decide +kernel)) rfl c46) ?_
            exact xc_nil
          ·
            refine (Classical.em (XI r (.arg 3) ≤ (4 : Int))).elim (fun (c47 : xhid (XI r (.arg 3) ≤ (4 : Int))) => ?_) (fun (c47 : xhid (¬ (XI r (.arg 3) ≤ (4 : Int)))) => ?_)
            ·
              have c48 : xhid ((1 : Int) < XI r (.arg 49)) := ((by have z0 : (3 : Int) < XI r (.arg 49) := c3; omega) : (1 : Int) < XI r (.arg 49))
              have c49 : xhid ((2 : Int) < XI r (.arg 49)) := ((by have z0 : (3 : Int) < XI r (.arg 49) := c3; omega) : (2 : Int) < XI r (.arg 49))
              have c50 : xhid ((3 : Int) < XI r (.arg 49)) := ((by have z0 : (3 : Int) < XI r (.arg 49) := c3; omega) : (3 : Int) < XI r (.arg 49))
              have c51 : xhid (¬ (XI r (.arg 3) < (1 : Int))) := ((by have z0 : ¬ (XI r (.arg 3) ≤ (3 : Int)) := c35; have z1 : -2147483648 ≤ XI r (.arg 3) := b3; have z2 : XI r (.arg 3) < 2147483648 := d3; omega) : ¬ (XI r (.arg 3) < (1 : Int)))
              have c52 : xhid (¬ ((8 : Int) < XI r (.arg 3))) := ((by have z0 : XI r (.arg 3) ≤ (4 : Int) := c47; have z1 : -2147483648 ≤ XI r (.arg 3) := b3; have z2 : XI r (.arg 3) < 2147483648 := d3; omega) : ¬ ((8 : Int) < XI r (.arg 3)))
              have c53 : xhid (XI r (.add (.int 0) (.arg 3)) ≤ (60 : Int)) := ((by have z0 : ¬ ((8 : Int) < XI r (.arg 3)) := c52; have z1 : XI r (.add (.int 0) (.arg 3)) = (0 : Int) + XI r (.arg 3) := c11; have z2 : -2147483648 ≤ XI r (.arg 3) := b3; have z3 : XI r (.arg 3) < 2147483648 := d3; omega) : XI r (.add (.int 0) (.arg 3)) ≤ (60 : Int))
              have c54 : xhid (¬ (XI r (.arg 3) ≤ (0 : Int))) := ((by have z0 : ¬ (XI r (.arg 3) < (1 : Int)) := c51; have z1 : -2147483648 ≤ XI r (.arg 3) := b3; have z2 : XI r (.arg 3) < 2147483648 := d3; omega) : ¬ (XI r (.arg 3) ≤ (0 : Int)))
              have c55 : xhid (¬ (XI r (.arg 3) ≤ (1 : Int))) := ((by have z0 : ¬ (XI r (.arg 3) ≤ (3 : Int)) := c35; have z1 : -2147483648 ≤ XI r (.arg 3) := b3; have z2 : XI r (.arg 3) < 2147483648 := d3; omega) : ¬ (XI r (.arg 3) ≤ (1 : Int)))
              have c56 : xhid (¬ (XI r (.arg 3) ≤ (2 : Int))) := ((by have z0 : ¬ (XI r (.arg 3) ≤ (3 : Int)) := c35; have z1 : -2147483648 ≤ XI r (.arg 3) := b3; have z2 : XI r (.arg 3) < 2147483648 := d3; omega) : ¬ (XI r (.arg 3) ≤ (2 : Int)))
              have c57 : xhid (¬ (XI r (.arg 3) ≤ (3 : Int))) := ((by have z0 : ¬ (XI r (.arg 3) ≤ (3 : Int)) := c35; have z1 : -2147483648 ≤ XI r (.arg 3) := b3; have z2 : XI r (.arg 3) < 2147483648 := d3; omega) : ¬ (XI r (.arg 3) ≤ (3 : Int)))
              have c58 : xhid (XI r (.arg 3) ≤ (4 : Int)) := ((by have z0 : XI r (.arg 3) ≤ (4 : Int) := c47; have z1 : -2147483648 ≤ XI r (.arg 3) := b3; have z2 : XI r (.arg 3) < 2147483648 := d3; omega) : XI r (.arg 3) ≤ (4 : Int))
              have c59 : xhid (XI r (.sub (.arg 49) (.int 6)) < (6 : Int)) := ((by omega) : XI r (.sub (.arg 49) (.int 6)) < (6 : Int))
              refine ⟨419, _, ?_, lf_10_4⟩
              refine xc_cons (xh_gt_F (XI_lit (by decide +kernel)) rfl h0) ?_
              refine xc_cons (xh_lt_T (XI_lit (by decide +kernel)) rfl h1) ?_
              refine xc_cons (xh_eq_T rfl (XI_lit (by decide +kernel)) hk) ?_
              refine xc_cons (xh_lt_T (XI_lit (by decide +kernel)) rfl c1) ?_
              refine xc_cons (xh_lt_T (XI_lit (by decide +kernel)) rfl c2) ?_
              refine xc_cons (xh_lt_T (XI_lit (by decide +kernel)) rfl c3) ?_
              refine xc_cons (xh_lt_F rfl (XI_lit (by decide +kernel)) c4) ?_
              refine xc_cons (xh_le_T rfl (XI_lit (by decide +kernel)) c10) ?_
              refine xc_cons (xh_le_T rfl (XI_lit (by decide +kernel)) c12) ?_
              refine xc_cons (xh_ge_F (XI_lit (by decide +kernel)) rfl c13) ?_
              refine xc_cons (xh_ge_F (XI_lit (by decide +kernel)) rfl c14) ?_
              refine xc_cons (xh_ge_F (XI_lit (by decide +kernel)) rfl c24) ?_
              refine xc_cons (xh_ge_F (XI_lit (by decide +kernel)) rfl c35) ?_
              refine xc_cons (xh_ge_T (XI_lit (by decide +kernel)) rfl c47) ?_
              refine xc_cons (xh_lt_T (XI_lit (by decide +kernel)) rfl c48) ?_
              refine xc_cons (xh_lt_T (XI_lit (by decide +kernel)) rfl c49) ?_
              refine xc_cons (xh_lt_T (XI_lit (by decide +kernel)) rfl c50) ?_
              refine xc_cons (xh_lt_F rfl (XI_lit (by decide +kernel)) c51) ?_
              refine xc_cons (xh_gt_F rfl (XI_lit (by decide +kernel)) c52) ?_
              refine xc_cons (xh_le_T rfl (XI_lit (by decide +kernel)) c53) ?_
              refine xc_cons (xh_ge_F (XI_lit (by decide +kernel)) rfl c54) ?_
              refine xc_cons (xh_ge_F (XI_lit (by decide +kernel)) rfl c55) ?_
              refine xc_cons (xh_ge_F (XI_lit (by decide +kernel)) rfl c56) ?_
              refine xc_cons (xh_ge_F (XI_lit (by decide +kernel)) rfl c57) ?_
              refine xc_cons (xh_ge_T (XI_lit (by decide +kernel)) rfl c58) ?_
              refine xc_cons (xh_gt_T (XI_lit (by decide +kernel)) rfl c59) ?_
              exact xc_nil
            ·
              refine (Classical.em (XI r (.arg 3) ≤ (5 : Int))).elim (fun (c60 : xhid (XI r (.arg 3) ≤ (5 : Int))) => ?_) (fun (c60 : xhid (¬ (XI r (.arg 3) ≤ (5 : Int)))) => ?_)
              ·
                have c61 : xhid ((1 : Int) < XI r (.arg 49)) := ((by have z0 : (3 : Int) < XI r (.arg 49) := c3; omega) : (1 : Int) < XI r (.arg 49))
                have c62 : xhid ((2 : Int) < XI r (.arg 49)) := ((by have z0 : (3 : Int) < XI r (.arg 49) := c3; omega) : (2 : Int) < XI r (.arg 49))
                have c63 : xhid ((3 : Int) < XI r (.arg 49)) := ((by have z0 : (3 : Int) < XI r (.arg 49) := c3; omega) : (3 : Int) < XI r (.arg 49))
                have c64 : xhid (¬ (XI r (.arg 3) < (1 : Int))) := ((by have z0 : ¬ (XI r (.arg 3) ≤ (4 : Int)) := c47; have z1 : -2147483648 ≤ XI r (.arg 3) := b3; have z2 : XI r (.arg 3) < 2147483648 := d3; omega) : ¬ (XI r (.arg 3) < (1 : Int)))
                have c65 : xhid (¬ ((8 : Int) < XI r (.arg 3))) := ((by have z0 : XI r (.arg 3) ≤ (5 : Int) := c60; have z1 : -2147483648 ≤ XI r (.arg 3) := b3; have z2 : XI r (.arg 3) < 2147483648 := d3; omega) : ¬ ((8 : Int) < XI r (.arg 3)))
                have c66 : xhid (XI r (.add (.int 0) (.arg 3)) ≤ (60 : Int)) := ((by have z0 : ¬ ((8 : Int) < XI r (.arg 3)) := c65; have z1 : XI r (.add (.int 0) (.arg 3)) = (0 : Int) + XI r (.arg 3) := c11; have z2 : -2147483648 ≤ XI r (.arg 3) := b3; have z3 : XI r (.arg 3) < 2147483648 := d3; omega) : XI r (.add (.int 0) (.arg 3)) ≤ (60 : Int))
                have c67 : xhid (¬ (XI r (.arg 3) ≤ (0 : Int))) := ((by have z0 : ¬ (XI r (.arg 3) < (1 : Int)) := c64; have z1 : -2147483648 ≤ XI r (.arg 3) := b3; have z2 : XI r (.arg 3) < 2147483648 := d3; omega) : ¬ (XI r (.arg 3) ≤ (0 : Int)))
                have c68 : xhid (¬ (XI r (.arg 3) ≤ (1 : Int))) := ((by have z0 : ¬ (XI r (.arg 3) ≤ (4 : Int)) := c47; have z1 : -2147483648 ≤ XI r (.arg 3) := b3; have z2 : XI r (.arg 3) < 2147483648 := d3; omega) : ¬ (XI r (.arg 3) ≤ (1 : Int)))
                have c69 : xhid (¬ (XI r (.arg 3) ≤ (2 : Int))) := ((by have z0 : ¬ (XI r (.arg 3) ≤ (4 : Int)) := c47; have z1 : -2147483648 ≤ XI r (.arg 3) := b3; have z2 : XI r (.arg 3) < 2147483648 := d3; omega) : ¬ (XI r (.arg 3) ≤ (2 : Int)))
                have c70 : xhid (¬ (XI r (.arg 3) ≤ (3 : Int))) := ((by have z0 : ¬ (XI r (.arg 3) ≤ (4 : Int)) := c47; have z1 : -2147483648 ≤ XI r (.arg 3) := b3; have z2 : XI r (.arg 3) < 2147483648 := d3; omega) : ¬ (XI r (.arg 3) ≤ (3 : Int)))
                have c71 : xhid (¬ (XI r (.arg 3) ≤ (4 : Int))) := ((by have z0 : ¬ (XI r (.arg 3) ≤ (4 : Int)) := c47; have z1 : -2147483648 ≤ XI r (.arg 3) := b3; have z2 : XI r (.arg 3) < 2147483648 := d3; omega) : ¬ (XI r (.arg 3) ≤ (4 : Int)))
                have c72 : xhid (XI r (.arg 3) ≤ (5 : Int)) := ((by have z0 : XI r (.arg 3) ≤ (5 : Int) := c60; have z1 : -2147483648 ≤ XI r (.arg 3) := b3; have z2 : XI r (.arg 3) < 2147483648 := d3; omega) : XI r (.arg 3) ≤ (5 : Int))
                have c73 : xhid (XI r (.sub (.arg 49) (.int 6)) < (6 : Int)) := ((by omega) : XI r (.sub (.arg 49) (.int 6)) < (6 : Int))
                refine ⟨487, _, ?_, lf_10_5⟩
                refine xc_cons (xh_gt_F (XI_lit (by decide +kernel)) rfl h0) ?_
                refine xc_cons (xh_lt_T (XI_lit (by decide +kernel)) rfl h1) ?_
                refine xc_cons (xh_eq_T rfl (XI_lit (by decide +kernel)) hk) ?_
                refine xc_cons (xh_lt_T (XI_lit (by decide +kernel)) rfl c1) ?_
                refine xc_cons (xh_lt_T (XI_lit (by decide +kernel)) rfl c2) ?_
                refine xc_cons (xh_lt_T (XI_lit (by decide +kernel)) rfl c3) ?_
                refine xc_cons (xh_lt_F rfl (XI_lit (by decide +kernel)) c4) ?_
                refine xc_cons (xh_le_T rfl (XI_lit (by decide +kernel)) c10) ?_
                refine xc_cons (xh_le_T rfl (XI_lit (by decide +kernel)) c12) ?_
                refine xc_cons (xh_ge_F (XI_lit (by decide +kernel)) rfl c13) ?_
                refine xc_cons (xh_ge_F (XI_lit (by decide +kernel)) rfl c14) ?_
                refine xc_cons (xh_ge_F (XI_lit (by decide +kernel)) rfl c24) ?_
                refine xc_cons (xh_ge_F (XI_lit (by decide +kernel)) rfl c35) ?_
                refine xc_cons (xh_ge_F (XI_lit (by decide +kernel)) rfl c47) ?_
                refine xc_cons (xh_ge_T (XI_lit (by decide +kernel)) rfl c60) ?_
                refine xc_cons (xh_lt_T (XI_lit (by decide +kernel)) rfl c61) ?_
                refine xc_cons (xh_lt_T (XI_lit (by decide +kernel)) rfl c62) ?_
                refine xc_cons (xh_lt_T (XI_lit (by decide +kernel)) rfl c63) ?_
                refine xc_cons (xh_lt_F rfl (XI_lit (by decide +kernel)) c64) ?_
                refine xc_cons (xh_gt_F rfl (XI_lit (by decide +kernel)) c65) ?_
                refine xc_cons (xh_le_T rfl (XI_lit (by decide +kernel)) c66) ?_
                refine xc_cons (xh_ge_F (XI_lit (by decide +kernel)) rfl c67) ?_
                refine xc_cons (xh_ge_F (XI_lit (by decide +kernel)) rfl c68) ?_
                refine xc_cons (xh_ge_F (XI_lit (by decide +kernel)) rfl c69) ?_
                refine xc_cons (xh_ge_F (XI_lit (by decide +kernel)) rfl c70) ?_
                refine xc_cons (xh_ge_F (XI_lit (by decide +kernel)) rfl c71) ?_
                refine xc_cons (xh_ge_T (XI_lit (by decide +kernel)) rfl c72) ?_
                refine xc_cons (xh_gt_T (XI_lit (by decide +kernel)) rfl c73) ?_
                exact xc_nil
              ·
                refine (Classical.em (XI r (.arg 3) ≤ (6 : Int))).elim (fun (c74 : xhid (XI r (.arg 3) ≤ (6 : Int))) => ?_) (fun (c74 : xhid (¬ (XI r (.arg 3) ≤ (6 : Int)))) => ?_)
                ·
                  have c75 : xhid ((1 : Int) < XI r (.arg 49)) := ((by have z0 : (3 : Int) < XI r (.arg 49) := c3; omega) : (1 : Int) < XI r (.arg 49))
                  have c76 : xhid ((2 : Int) < XI r (.arg 49)) := ((by have z0 : (3 : Int) < XI r (.arg 49) := c3; omega) : (2 : Int) < XI r (.arg 49))
                  have c77 : xhid ((3 : Int) < XI r (.arg 49)) := ((by have z0 : (3 : Int) < XI r (.arg 49) := c3; omega) : (3 : Int) < XI r (.arg 49))
                  have c78 : xhid (¬ (XI r (.arg 3) < (1 : Int))) := ((by have z0 : ¬ (XI r (.arg 3) ≤ (5 : Int)) := c60; have z1 : -2147483648 ≤ XI r (.arg 3) := b3; have z2 : XI r (.arg 3) < 2147483648 := d3; omega) : ¬ (XI r (.arg 3) < (1 : Int)))
                  have c79 : xhid (¬ ((8 : Int) < XI r (.arg 3))) := ((by have z0 : XI r (.arg 3) ≤ (6 : Int) := c74; have z1 : -2147483648 ≤ XI r (.arg 3) := b3; have z2 : XI r (.arg 3) < 2147483648 := d3; omega) : ¬ ((8 : Int) < XI r (.arg 3)))
                  have c80 : xhid (XI r (.add (.int 0) (.arg 3)) ≤ (60 : Int)) := ((by have z0 : ¬ ((8 : Int) < XI r (.arg 3)) := c79; have z1 : XI r (.add (.int 0) (.arg 3)) = (0 : Int) + XI r (.arg 3) := c11; have z2 : -2147483648 ≤ XI r (.arg 3) := b3; have z3 : XI r (.arg 3) < 2147483648 := d3; omega) : XI r (.add (.int 0) (.arg 3)) ≤ (60 : Int))
                  have c81 : xhid (¬ (XI r (.arg 3) ≤ (0 : Int))) := ((by have z0 : ¬ (XI r (.arg 3) < (1 : Int)) := c78; have z1 : -2147483648 ≤ XI r (.arg 3) := b3; have z2 : XI r (.arg 3) < 2147483648 := d3; omega) : ¬ (XI r (.arg 3) ≤ (0 : Int)))
                  have c82 : xhid (¬ (XI r (.arg 3) ≤ (1 : Int))) := ((by have z0 : ¬ (XI r (.arg 3) ≤ (5 : Int)) := c60; have z1 : -2147483648 ≤ XI r (.arg 3) := b3; have z2 : XI r (.arg 3) < 2147483648 := d3; omega) : ¬ (XI r (.arg 3) ≤ (1 : Int)))
                  have c83 : xhid (¬ (XI r (.arg 3) ≤ (2 : Int))) := ((by have z0 : ¬ (XI r (.arg 3) ≤ (5 : Int)) := c60; have z1 : -2147483648 ≤ XI r (.arg 3) := b3; have z2 : XI r (.arg 3) < 2147483648 := d3; omega) : ¬ (XI r (.arg 3) ≤ (2 : Int)))
                  have c84 : xhid (¬ (XI r (.arg 3) ≤ (3 : Int))) := ((by have z0 : ¬ (XI r (.arg 3) ≤ (5 : Int)) := c60; have z1 : -2147483648 ≤ XI r (.arg 3) := b3; have z2 : XI r (.arg 3) < 2147483648 := d3; omega) : ¬ (XI r (.arg 3) ≤ (3 : Int)))
                  have c85 : xhid (¬ (XI r (.arg 3) ≤ (4 : Int))) := ((by have z0 : ¬ (XI r (.arg 3) ≤ (5 : Int)) := c60; have z1 : -2147483648 ≤ XI r (.arg 3) := b3; have z2 : XI r (.arg 3) < 2147483648 := d3; omega) : ¬ (XI r (.arg 3) ≤ (4 : Int)))
                  have c86 : xhid (¬ (XI r (.arg 3) ≤ (5 : Int))) := ((by have z0 : ¬ (XI r (.arg 3) ≤ (5 : Int)) := c60; have z1 : -2147483648 ≤ XI r (.arg 3) := b3; have z2 : XI r (.arg 3) < 2147483648 := d3; omega) : ¬ (XI r (.arg 3) ≤ (5 : Int)))
                  have c87 : xhid (XI r (.arg 3) ≤ (6 : Int)) := ((by have z0 : XI r (.arg 3) ≤ (6 : Int) := c74; have z1 : -2147483648 ≤ XI r (.arg 3) := b3; have z2 : XI r (.arg 3) < 2147483648 := d3; omega) : XI r (.arg 3) ≤ (6 : Int))
                  have c88 : xhid (XI r (.sub (.arg 49) (.int 6)) < (6 : Int)) := ((by omega) : XI r (.sub (.arg 49) (.int 6)) < (6 : Int))
                  refine ⟨555, _, ?_, lf_10_6⟩
                  refine xc_cons (xh_gt_F (XI_lit (by decide +kernel)) rfl h0) ?_
                  refine xc_cons (xh_lt_T (XI_lit (by decide +kernel)) rfl h1) ?_
                  refine xc_cons (xh_eq_T rfl (XI_lit (by decide +kernel)) hk) ?_
                  refine xc_cons (xh_lt_T (XI_lit (by decide +kernel)) rfl c1) ?_
                  refine xc_cons (xh_lt_T (XI_lit (by decide +kernel)) rfl c2) ?_
                  refine xc_cons (xh_lt_T (XI_lit (by decide +kernel)) rfl c3) ?_
                  refine xc_cons (xh_lt_F rfl (XI_lit (by decide +kernel)) c4) ?_
                  refine xc_cons (xh_le_T rfl (XI_lit (by decide +kernel)) c10) ?_
                  refine xc_cons (xh_le_T rfl (XI_lit (by decide +kernel)) c12) ?_
                  refine xc_cons (xh_ge_F (XI_lit (by decide +kernel)) rfl c13) ?_
                  refine xc_cons (xh_ge_F (XI_lit (by decide +kernel)) rfl c14) ?_
                  refine xc_cons (xh_ge_F (XI_lit (by decide +kernel)) rfl c24) ?_
                  refine xc_cons (xh_ge_F (XI_lit (by decide +kernel)) rfl c35) ?_
                  refine xc_cons (xh_ge_F (XI_lit (by decide +kernel)) rfl c47) ?_
                  refine xc_cons (xh_ge_F (XI_lit (by decide +kernel)) rfl c60) ?_
                  refine xc_cons (xh_ge_T (XI_lit (by decide +kernel)) rfl c74) ?_
                  refine xc_cons (xh_lt_T (XI_lit (by decide +kernel)) rfl c75) ?_
                  refine xc_cons (xh_lt_T (XI_lit (by decide +kernel)) rfl c76) ?_
                  refine xc_cons (xh_lt_T (XI_lit (by decide +kernel)) rfl c77) ?_
                  refine xc_cons (xh_lt_F rfl (XI_lit (by decide +kernel)) c78) ?_
                  refine xc_cons (xh_gt_F rfl (XI_lit (by decide +kernel)) c79) ?_
                  refine xc_cons (xh_le_T rfl (XI_lit (by decide +kernel)) c80) ?_
                  refine xc_cons (xh_ge_F (XI_lit (by decide +kernel)) rfl c81) ?_
                  refine xc_cons (xh_ge_F (XI_lit (by decide +kernel)) rfl c82) ?_
                  refine xc_cons (xh_ge_F (XI_lit (by decide +kernel)) rfl c83) ?_
                  refine xc_cons (xh_ge_F (XI_lit (by decide +kernel)) rfl c84) ?_
                  refine xc_cons (xh_ge_F (XI_lit (by decide +kernel)) rfl c85) ?_
                  refine xc_cons (xh_ge_F (XI_lit (by decide +kernel)) rfl c86) ?_
                  refine xc_cons (xh_ge_T (XI_lit (by decide +kernel)) rfl c87) ?_
                  refine xc_cons (xh_gt_T (XI_lit (by decide +kernel)) rfl c88) ?_
                  exact xc_nil
                ·
                  refine (Classical.em (XI r (.arg 3) ≤ (7 : Int))).elim (fun (c89 : xhid (XI r (.arg 3) ≤ (7 : Int))) => ?_) (fun (c89 : xhid (¬ (XI r (.arg 3) ≤ (7 : Int)))) => ?_)
                  ·
                    have c90 : xhid ((1 : Int) < XI r (.arg 49)) := ((by have z0 : (3 : Int) < XI r (.arg 49) := c3; omega) : (1 : Int) < XI r (.arg 49))
                    have c91 : xhid ((2 : Int) < XI r (.arg 49)) := ((by have z0 : (3 : Int) < XI r (.arg 49) := c3; omega) : (2 : Int) < XI r (.arg 49))
                    have c92 : xhid ((3 : Int) < XI r (.arg 49)) := ((by have z0 : (3 : Int) < XI r (.arg 49) := c3; omega) : (3 : Int) < XI r (.arg 49))
                    have c93 : xhid (¬ (XI r (.arg 3) < (1 : Int))) := ((by have z0 : ¬ (XI r (.arg 3) ≤ (6 : Int)) := c74; have z1 : -2147483648 ≤ XI r (.arg 3) := b3; have z2 : XI r (.arg 3) < 2147483648 := d3; omega) : ¬ (XI r (.arg 3) < (1 : Int)))
                    have c94 : xhid (¬ ((8 : Int) < XI r (.arg 3))) := ((by have z0 : XI r (.arg 3) ≤ (7 : Int) := c89; have z1 : -2147483648 ≤ XI r (.arg 3) := b3; have z2 : XI r (.arg 3) < 2147483648 := d3; omega) : ¬ ((8 : Int) < XI r (.arg 3)))
                    have c95 : xhid (XI r (.add (.int 0) (.arg 3)) ≤ (60 : Int)) := ((by have z0 : ¬ ((8 : Int) < XI r (.arg 3)) := c94; have z1 : XI r (.add (.int 0) (.arg 3)) = (0 : Int) + XI r (.arg 3) := c11; have z2 : -2147483648 ≤ XI r (.arg 3) := b3; have z3 : XI r (.arg 3) < 2147483648 := d3; omega) : XI r (.add (.int 0) (.arg 3)) ≤ (60 : Int))
                    have c96 : xhid (¬ (XI r (.arg 3) ≤ (0 : Int))) := ((by have z0 : ¬ (XI r (.arg 3) < (1 : Int)) := c93; have z1 : -2147483648 ≤ XI r (.arg 3) := b3; have z2 : XI r (.arg 3) < 2147483648 := d3; omega) : ¬ (XI r (.arg 3) ≤ (0 : Int)))
                    have c97 : xhid (¬ (XI r (.arg 3) ≤ (1 : Int))) := ((by have z0 : ¬ (XI r (.arg 3) ≤ (6 : Int)) := c74; have z1 : -2147483648 ≤ XI r (.arg 3) := b3; have z2 : XI r (.arg 3) < 2147483648 := d3; omega) : ¬ (XI r (.arg 3) ≤ (1 : Int)))
                    have c98 : xhid (¬ (XI r (.arg 3) ≤ (2 : Int))) := ((by have z0 : ¬ (XI r (.arg 3) ≤ (6 : Int)) := c74; have z1 : -2147483648 ≤ XI r (.arg 3) := b3; have z2 : XI r (.arg 3) < 2147483648 := d3; omega) : ¬ (XI r (.arg 3) ≤ (2 : Int)))
                    have c99 : xhid (¬ (XI r (.arg 3) ≤ (3 : Int))) := ((by have z0 : ¬ (XI r (.arg 3) ≤ (6 : Int)) := c74; have z1 : -2147483648 ≤ XI r (.arg 3) := b3; have z2 : XI r (.arg 3) < 2147483648 := d3; omega) : ¬ (XI r (.arg 3) ≤ (3 : Int)))
                    have c100 : xhid (¬ (XI r (.arg 3) ≤ (4 : Int))) := ((by have z0 : ¬ (XI r (.arg 3) ≤ (6 : Int)) := c74; have z1 : -2147483648 ≤ XI r (.arg 3) := b3; have z2 : XI r (.arg 3) < 2147483648 := d3; omega) : ¬ (XI r (.arg 3) ≤ (4 : Int)))
                    have c101 : xhid (¬ (XI r (.arg 3) ≤ (5 : Int))) := ((by have z0 : ¬ (XI r (.arg 3) ≤ (6 : Int)) := c74; have z1 : -2147483648 ≤ XI r (.arg 3) := b3; have z2 : XI r (.arg 3) < 2147483648 := d3; omega) : ¬ (XI r (.arg 3) ≤ (5 : Int)))
                    have c102 : xhid (¬ (XI r (.arg 3) ≤ (6 : Int))) := ((by have z0 : ¬ (XI r (.arg 3) ≤ (6 : Int)) := c74; have z1 : -2147483648 ≤ XI r (.arg 3) := b3; have z2 : XI r (.arg 3) < 2147483648 := d3; omega) : ¬ (XI r (.arg 3) ≤ (6 : Int)))
                    have c103 : xhid (XI r (.arg 3) ≤ (7 : Int)) := ((by have z0 : XI r (.arg 3) ≤ (7 : Int) := c89; have z1 : -2147483648 ≤ XI r (.arg 3) := b3; have z2 : XI r (.arg 3) < 2147483648 := d3; omega) : XI r (.arg 3) ≤ (7 : Int))
                    have c104 : xhid (XI r (.sub (.arg 49) (.int 6)) < (6 : Int)) := ((by omega) : XI r (.sub (.arg 49) (.int 6)) < (6 : Int))
                    refine ⟨623, _, ?_, lf_10_7⟩
                    refine xc_cons (xh_gt_F (XI_lit (by decide +kernel)) rfl h0) ?_
                    refine xc_cons (xh_lt_T (XI_lit (by decide +kernel)) rfl h1) ?_
                    refine xc_cons (xh_eq_T rfl (XI_lit (by decide +kernel)) hk) ?_
                    refine xc_cons (xh_lt_T (XI_lit (by decide +kernel)) rfl c1) ?_
                    refine xc_cons (xh_lt_T (XI_lit (by decide +kernel)) rfl c2) ?_
                    refine xc_cons (xh_lt_T (XI_lit (by decide +kernel)) rfl c3) ?_
                    refine xc_cons (xh_lt_F rfl (XI_lit (by decide +kernel)) c4) ?_
                    refine xc_cons (xh_le_T rfl (XI_lit (by decide +kernel)) c10) ?_
                    refine xc_cons (xh_le_T rfl (XI_lit (by decide +kernel)) c12) ?_
                    refine xc_cons (xh_ge_F (XI_lit (by decide +kernel)) rfl c13) ?_
                    refine xc_cons (xh_ge_F (XI_lit (by decide +kernel)) rfl c14) ?_
                    refine xc_cons (xh_ge_F (XI_lit (by decide +kernel)) rfl c24) ?_
                    refine xc_cons (xh_ge_F (XI_lit (by decide +kernel)) rfl c35) ?_
                    refine xc_cons (xh_ge_F (XI_lit (by decide +kernel)) rfl c47) ?_
                    refine xc_cons (xh_ge_F (XI_lit (by decide +kernel)) rfl c60) ?_
                    refine xc_cons (xh_ge_F (XI_lit (by decide +kernel)) rfl c74) ?_
                    refine xc_cons (xh_ge_T (XI_lit (by decide +kernel)) rfl c89) ?_
                    refine xc_cons (xh_lt_T (XI_lit (by decide +kernel)) rfl c90) ?_
                    refine xc_cons (xh_lt_T (XI_lit (by decide +kernel)) rfl c91) ?_
                    refine xc_cons (xh_lt_T (XI_lit (by decide +kernel)) rfl c92) ?_
                    refine xc_cons (xh_lt_F rfl (XI_lit (by decide +kernel)) c93) ?_
                    refine xc_cons (xh_gt_F rfl (XI_lit (by decide +kernel)) c94) ?_
                    refine xc_cons (xh_le_T rfl (XI_lit (by decide +kernel)) c95) ?_
                    refine xc_cons (xh_ge_F (XI_lit (by decide +kernel)) rfl c96) ?_
                    refine xc_cons (xh_ge_F (XI_lit (by decide +kernel)) rfl c97) ?_
                    refine xc_cons (xh_ge_F (XI_lit (by decide +kernel)) rfl c98) ?_
                    refine xc_cons (xh_ge_F (XI_lit (by decide +kernel)) rfl c99) ?_
                    refine xc_cons (xh_ge_F (XI_lit (by decide +kernel)) rfl c100) ?_
                    refine xc_cons (xh_ge_F (XI_lit (by decide +kernel)) rfl c101) ?_
                    refine xc_cons (xh_ge_F (XI_lit (by decide +kernel)) rfl c102) ?_
                    refine xc_cons (xh_ge_T (XI_lit (by decide +kernel)) rfl c103) ?_
                    refine xc_cons (xh_gt_T (XI_lit (by decide +kernel)) rfl c104) ?_
                    exact xc_nil
                  ·
                    have c105 : xhid (XI r (.arg 3) ≤ (8 : Int)) := ((by have z0 : XI r (.arg 3) ≤ (8 : Int) := c10; have z1 : -2147483648 ≤ XI r (.arg 3) := b3; have z2 : XI r (.arg 3) < 2147483648 := d3; omega) : XI r (.arg 3) ≤ (8 : Int))
                    have c106 : xhid ((1 : Int) < XI r (.arg 49)) := ((by have z0 : (3 : Int) < XI r (.arg 49) := c3; omega) : (1 : Int) < XI r (.arg 49))
                    have c107 : xhid ((2 : Int) < XI r (.arg 49)) := ((by have z0 : (3 : Int) < XI r (.arg 49) := c3; omega) : (2 : Int) < XI r (.arg 49))
                    have c108 : xhid ((3 : Int) < XI r (.arg 49)) := ((by have z0 : (3 : Int) < XI r (.arg 49) := c3; omega) : (3 : Int) < XI r (.arg 49))
                    have c109 : xhid (¬ (XI r (.arg 3) < (1 : Int))) := ((by have z0 : ¬ (XI r (.arg 3) ≤ (7 : Int)) := c89; have z1 : -2147483648 ≤ XI r (.arg 3) := b3; have z2 : XI r (.arg 3) < 2147483648 := d3; omega) : ¬ (XI r (.arg 3) < (1 : Int)))
                    have c110 : xhid (¬ ((8 : Int) < XI r (.arg 3))) := ((by have z0 : XI r (.arg 3) ≤ (8 : Int) := c105; have z1 : -2147483648 ≤ XI r (.arg 3) := b3; have z2 : XI r (.arg 3) < 2147483648 := d3; omega) : ¬ ((8 : Int) < XI r (.arg 3)))
                    have c111 : xhid (XI r (.add (.int 0) (.arg 3)) ≤ (60 : Int)) := ((by have z0 : ¬ ((8 : Int) < XI r (.arg 3)) := c110; have z1 : XI r (.add (.int 0) (.arg 3)) = (0 : Int) + XI r (.arg 3) := c11; have z2 : -2147483648 ≤ XI r (.arg 3) := b3; have z3 : XI r (.arg 3) < 2147483648 := d3; omega) : XI r (.add (.int 0) (.arg 3)) ≤ (60 : Int))
                    have c112 : xhid (¬ (XI r (.arg 3) ≤ (0 : Int))) := ((by have z0 : ¬ (XI r (.arg 3) < (1 : Int)) := c109; have z1 : -2147483648 ≤ XI r (.arg 3) := b3; have z2 : XI r (.arg 3) < 2147483648 := d3; omega) : ¬ (XI r (.arg 3) ≤ (0 : Int)))
                    have c113 : xhid (¬ (XI r (.arg 3) ≤ (1 : Int))) := ((by have z0 : ¬ (XI r (.arg 3) ≤ (7 : Int)) := c89; have z1 : -2147483648 ≤ XI r (.arg 3) := b3; have z2 : XI r (.arg 3) < 2147483648 := d3; omega) : ¬ (XI r (.arg 3) ≤ (1 : Int)))
                    have c114 : xhid (¬ (XI r (.arg 3) ≤ (2 : Int))) := ((by have z0 : ¬ (XI r (.arg 3) ≤ (7 : Int)) := c89; have z1 : -2147483648 ≤ XI r (.arg 3) := b3; have z2 : XI r (.arg 3) < 2147483648 := d3; omega) : ¬ (XI r (.arg 3) ≤ (2 : Int)))
                    have c115 : xhid (¬ (XI r (.arg 3) ≤ (3 : Int))) := ((by have z0 : ¬ (XI r (.arg 3) ≤ (7 : Int)) := c89; have z1 : -2147483648 ≤ XI r (.arg 3) := b3; have z2 : XI r (.arg 3) < 2147483648 := d3; omega) : ¬ (XI r (.arg 3) ≤ (3 : Int)))
                    have c116 : xhid (¬ (XI r (.arg 3) ≤ (4 : Int))) := ((by have z0 : ¬ (XI r (.arg 3) ≤ (7 : Int)) := c89; have z1 : -2147483648 ≤ XI r (.arg 3) := b3; have z2 : XI r (.arg 3) < 2147483648 := d3; omega) : ¬ (XI r (.arg 3) ≤ (4 : Int)))
                    have c117 : xhid (¬ (XI r (.arg 3) ≤ (5 : Int))) := ((by have z0 : ¬ (XI r (.arg 3) ≤ (7 : Int)) := c89; have z1 : -2147483648 ≤ XI r (.arg 3) := b3; have z2 : XI r (.arg 3) < 2147483648 := d3; omega) : ¬ (XI r (.arg 3) ≤ (5 : Int)))
                    have c118 : xhid (¬ (XI r (.arg 3) ≤ (6 : Int))) := ((by have z0 : ¬ (XI r (.arg 3) ≤ (7 : Int)) := c89; have z1 : -2147483648 ≤ XI r (.arg 3) := b3; have z2 : XI r (.arg 3) < 2147483648 := d3; omega) : ¬ (XI r (.arg 3) ≤ (6 : Int)))
                    have c119 : xhid (¬ (XI r (.arg 3) ≤ (7 : Int))) := ((by have z0 : ¬ (XI r (.arg 3) ≤ (7 : Int)) := c89; have z1 : -2147483648 ≤ XI r (.arg 3) := b3; have z2 : XI r (.arg 3) < 2147483648 := d3; omega) : ¬ (XI r (.arg 3) ≤ (7 : Int)))
                    have c120 : xhid (XI r (.arg 3) ≤ (8 : Int)) := ((by have z0 : ¬ ((8 : Int) < XI r (.arg 3)) := c110; have z1 : -2147483648 ≤ XI r (.arg 3) := b3; have z2 : XI r (.arg 3) < 2147483648 := d3; omega) : XI r (.arg 3) ≤ (8 : Int))
                    have c121 : xhid (XI r (.sub (.arg 49) (.int 6)) < (6 : Int)) := ((by omega) : XI r (.sub (.arg 49) (.int 6)) < (6 : Int))
                    refine ⟨691, _, ?_, lf_10_8⟩
                    refine xc_cons (xh_gt_F (XI_lit (by decide +kernel)) rfl h0) ?_
                    refine xc_cons (xh_lt_T (XI_lit (by decide +kernel)) rfl h1) ?_
                    refine xc_cons (xh_eq_T rfl (XI_lit (by decide +kernel)) hk) ?_
                    refine xc_cons (xh_lt_T (XI_lit (by decide +kernel)) rfl c1) ?_
                    refine xc_cons (xh_lt_T (XI_lit (by decide +kernel)) rfl c2) ?_
                    refine xc_cons (xh_lt_T (XI_lit (by decide +kernel)) rfl c3) ?_
                    refine xc_cons (xh_lt_F rfl (XI_lit (by decide +kernel)) c4) ?_
                    refine xc_cons (xh_le_T rfl (XI_lit (by decide +kernel)) c10) ?_
                    refine xc_cons (xh_le_T rfl (XI_lit (by decide +kernel)) c12) ?_
                    refine xc_cons (xh_ge_F (XI_lit (by decide +kernel)) rfl c13) ?_
                    refine xc_cons (xh_ge_F (XI_lit (by decide +kernel)) rfl c14) ?_
                    refine xc_cons (xh_ge_F (XI_lit (by decide +kernel)) rfl c24) ?_
                    refine xc_cons (xh_ge_F (XI_lit (by decide +kernel)) rfl c35) ?_
                    refine xc_cons (xh_ge_F (XI_lit (by decide +kernel)) rfl c47) ?_
                    refine xc_cons (xh_ge_F (XI_lit (by decide +kernel)) rfl c60) ?_
                    refine xc_cons (xh_ge_F (XI_lit (by decide +kernel)) rfl c74) ?_
                    refine xc_cons (xh_ge_F (XI_lit (by decide +kernel)) rfl c89) ?_
                    refine xc_cons (xh_ge_T (XI_lit (by decide +kernel)) rfl c105) ?_
                    refine xc_cons (xh_lt_T (XI_lit (by decide +kernel)) rfl c106) ?_
                    refine xc_cons (xh_lt_T (XI_lit (by decide +kernel)) rfl c107) ?_
                    refine xc_cons (xh_lt_T (XI_lit (by decide +kernel)) rfl c108) ?_
                    refine xc_cons (xh_lt_F rfl (XI_lit (by decide +kernel)) c109) ?_
                    refine xc_cons (xh_gt_F rfl (XI_lit (by decide +kernel)) c110) ?_
                    refine xc_cons (xh_le_T rfl (XI_lit (by decide +kernel)) c111) ?_
                    refine xc_cons (xh_ge_F (XI_lit (by decide +kernel)) rfl c112) ?_
                    refine xc_cons (xh_ge_F (XI_lit (by decide +kernel)) rfl c113) ?_
                    refine xc_cons (xh_ge_F (XI_lit (by decide +kernel)) rfl c114) ?_
                    refine xc_cons (xh_ge_F (XI_lit (by decide +kernel)) rfl c115) ?_
                    refine xc_cons (xh_ge_F (XI_lit (by decide +kernel)) rfl c116) ?_
                    refine xc_cons (xh_ge_F (XI_lit (by decide +kernel)) rfl c117) ?_
                    refine xc_cons (xh_ge_F (XI_lit (by decide +kernel)) rfl c118) ?_
                    refine xc_cons (xh_ge_F (XI_lit (by decide +kernel)) rfl c119) ?_
                    refine xc_cons (xh_ge_T (XI_lit (by decide +kernel)) rfl c120) ?_
                    refine xc_cons (xh_gt_T (XI_lit (by decide +kernel)) rfl c121) ?_
                    exact xc_nil
    ·
      have c122 : xhid ((1 : Int) < XI r (.arg 49)) := ((by have z0 : (3 : Int) < XI r (.arg 49) := c3; omega) : (1 : Int) < XI r (.arg 49))
      have c123 : xhid ((2 : Int) < XI r (.arg 49)) := ((by have z0 : (3 : Int) < XI r (.arg 49) := c3; omega) : (2 : Int) < XI r (.arg 49))
      have c124 : xhid ((3 : Int) < XI r (.arg 49)) := ((by have z0 : (3 : Int) < XI r (.arg 49) := c3; omega) : (3 : Int) < XI r (.arg 49))
      have c125 : xhid (¬ (XI r (.arg 3) < (1 : Int))) := ((by have z0 : ¬ (XI r (.arg 3) ≤ (8 : Int)) := c10; have z1 : -2147483648 ≤ XI r (.arg 3) := b3; have z2 : XI r (.arg 3) < 2147483648 := d3; omega) : ¬ (XI r (.arg 3) < (1 : Int)))
      have c126 : xhid ((8 : Int) < XI r (.arg 3)) := ((by have z0 : ¬ (XI r (.arg 3) ≤ (8 : Int)) := c10; have z1 : -2147483648 ≤ XI r (.arg 3) := b3; have z2 : XI r (.arg 3) < 2147483648 := d3; omega) : (8 : Int) < XI r (.arg 3))
      have c127 : xhid (XI r (.sub (.arg 49) (.int 6)) < (6 : Int)) := ((by omega) : XI r (.sub (.arg 49) (.int 6)) < (6 : Int))
      refine ⟨142, _, ?_, lf_10_9⟩
      refine xc_cons (xh_gt_F (XI_lit (by decide +kernel)) rfl h0) ?_
      refine xc_cons (xh_lt_T (XI_lit (by decide +kernel)) rfl h1) ?_
      refine xc_cons (xh_eq_T rfl (XI_lit (by decide +kernel)) hk) ?_
      refine xc_cons (xh_lt_T (XI_lit (by decide +kernel)) rfl c1) ?_
      refine xc_cons (xh_lt_T (XI_lit (by decide +kernel)) rfl c2) ?_
      refine xc_cons (xh_lt_T (XI_lit (by decide +kernel)) rfl c3) ?_
      refine xc_cons (xh_lt_F rfl (XI_lit (by decide +kernel)) c4) ?_
      refine xc_cons (xh_le_F rfl (XI_lit (by decide +kernel)) c10) ?_
      refine xc_cons (xh_lt_T (XI_lit (by decide +kernel)) rfl c122) ?_
      refine xc_cons (xh_lt_T (XI_lit (by decide +kernel)) rfl c123) ?_
      refine xc_cons (xh_lt_T (XI_lit (by decide +kernel)) rfl c124) ?_
      refine xc_cons (xh_lt_F rfl (XI_lit (by decide +kernel)) c125) ?_
      refine xc_cons (xh_gt_T rfl (XI_lit (by decide +kernel)) c126) ?_
      refine xc_cons (xh_gt_T (XI_lit (by decide +kernel)) rfl c127) ?_
      exact xc_nil
theorem lf_11_0 : xfin (xev 406 20 xlaw 18 xlo0 [] xh0 [(.gt, .int 0, .sub (.arg 49) (.int 6), false), (.lt, .int 0, .arg 49, true), (.eq, .op2 .iand (.arg 0) (.int 63), .int 11, true), (.lt, .int 1, .arg 49, true), (.eq, .arg 1, .int 0, true), (.lt, .int 1, .arg 49, true), (.eq, .arg 1, .int 0, true), (.gt, .int 6, .sub (.arg 49) (.int 6), true)]) = true := by decide +kernel
theorem lf_11_1 : xfin (xev 404 20 xlaw 18 xlo0 [] xh0 [(.gt, .int 0, .sub (.arg 49) (.int 6), false), (.lt, .int 0, .arg 49, true), (.eq, .op2 .iand (.arg 0) (.int 63), .int 11, true), (.lt, .int 1, .arg 49, true), (.eq, .arg 1, .int 1, true), (.lt, .int 1, .arg 49, true), (.eq, .arg 1, .int 1, true), (.gt, .int 6, .sub (.arg 49) (.int 6), true)]) = true := by decide +kernel
theorem lf_11_2 : xfin (xev 106 20 xlaw 18 xlo0 [] xh0 [(.gt, .int 0, .sub (.arg 49) (.int 6), false), (.lt, .int 0, .arg 49, true), (.eq, .op2 .iand (.arg 0) (.int 63), .int 11, true), (.lt, .int 1, .arg 49, true), (.lt, .arg 1, .int 0, true), (.lt, .int 1, .arg 49, true), (.lt, .arg 1, .int 0, true), (.gt, .int 6, .sub (.arg 49) (.int 6), true)]) = true := by decide +kernel
theorem lf_11_3 : xfin (xev 112 20 xlaw 18 xlo0 [] xh0 [(.gt, .int 0, .sub (.arg 49) (.int 6), false), (.lt, .int 0, .arg 49, true), (.eq, .op2 .iand (.arg 0) (.int 63), .int 11, true), (.lt, .int 1, .arg 49, true), (.lt, .arg 1, .int 0, false), (.ge, .arg 1, .int 2, true), (.lt, .int 1, .arg 49, true), (.lt, .arg 1, .int 0, false), (.gt, .arg 1, .int 1, true), (.gt, .int 6, .sub (.arg 49) (.int 6), true)]) = true := by decide +kernel
set_option maxHeartbeats 4000000 in
theorem cv_11 {r : Nat → Value} (h49 : XI r (.arg 49) = 6) (hs : XI r (.sub (.arg 49) (.int 6)) = 0) (hk : XI r (.op2 .iand (.arg 0) (.int 63)) = 11) : ∃ (f : Nat) (E : List xB), (∀ q ∈ E, xhold r q) ∧ xfin (xev f 20 xlaw 18 xlo0 [] xh0 E) = true := by
  have h0 : ¬ (XI r (.sub (.arg 49) (.int 6)) < (0 : Int)) := by omega
  have h1 : (0 : Int) < XI r (.arg 49) := by omega
  have b0 : xhid (-2147483648 ≤ XI r (.arg 0)) := XI_lo r (.arg 0)
  have d0 : xhid (XI r (.arg 0) < 2147483648) := XI_hi r (.arg 0)
  have b1 : xhid (-2147483648 ≤ XI r (.arg 1)) := XI_lo r (.arg 1)
  have d1 : xhid (XI r (.arg 1) < 2147483648) := XI_hi r (.arg 1)
  have b2 : xhid (-2147483648 ≤ XI r (.arg 2)) := XI_lo r (.arg 2)
  have d2 : xhid (XI r (.arg 2) < 2147483648) := XI_hi r (.arg 2)
  have b3 : xhid (-2147483648 ≤ XI r (.arg 3)) := XI_lo r (.arg 3)
  have d3 : xhid (XI r (.arg 3) < 2147483648) := XI_hi r (.arg 3)
  have b4 : xhid (-2147483648 ≤ XI r (.arg 4)) := XI_lo r (.arg 4)
  have d4 : xhid (XI r (.arg 4) < 2147483648) := XI_hi r (.arg 4)
  have b5 : xhid (-2147483648 ≤ XI r (.arg 5)) := XI_lo r (.arg 5)
  have d5 : xhid (XI r (.arg 5) < 2147483648) := XI_hi r (.arg 5)
  have c1 : xhid ((1 : Int) < XI r (.arg 49)) := ((by have z0 : ¬ (XI r (.sub (.arg 49) (.int 6)) < (0 : Int)) := h0; omega) : (1 : Int) < XI r (.arg 49))
  refine (Classical.em (XI r (.arg 1) = (0 : Int))).elim (fun (c2 : xhid (XI r (.arg 1) = (0 : Int))) => ?_) (fun (c2 : xhid (¬ (XI r (.arg 1) = (0 : Int)))) => ?_)
  ·
    have c3 : xhid ((1 : Int) < XI r (.arg 49)) := ((by have z0 : (1 : Int) < XI r (.arg 49) := c1; omega) : (1 : Int) < XI r (.arg 49))
    have c4 : xhid (XI r (.sub (.arg 49) (.int 6)) < (6 : Int)) := ((by omega) : XI r (.sub (.arg 49) (.int 6)) < (6 : Int))
    refine ⟨406, _, ?_, lf_11_0⟩
    refine xc_cons (xh_gt_F (XI_lit (by decide +kernel)) rfl h0) ?_
    refine xc_cons (xh_lt_T (XI_lit (by decide +kernel)) rfl h1) ?_
    refine xc_cons (xh_eq_T rfl (XI_lit (by decide +kernel)) hk) ?_
    refine xc_cons (xh_lt_T (XI_lit (by decide +kernel)) rfl c1) ?_
    refine xc_cons (xh_eq_T rfl (XI_lit (by decide +kernel)) c2) ?_
    refine xc_cons (xh_lt_T (XI_lit (by decide +kernel)) rfl c3) ?_
    refine xc_cons (xh_eq_T rfl (XI_lit (by decide +kernel)) c2) ?_
    refine xc_cons (xh_gt_T (XI_lit (by decide +kernel)) rfl c4) ?_
    exact xc_nil
  refine (Classical.em (XI r (.arg 1) = (1 : Int))).elim (fun (c5 : xhid (XI r (.arg 1) = (1 : Int))) => ?_) (fun (c5 : xhid (¬ (XI r (.arg 1) = (1 : Int)))) => ?_)
  ·
    have c6 : xhid ((1 : Int) < XI r (.arg 49)) := ((by have z0 : (1 : Int) < XI r (.arg 49) := c1; omega) : (1 : Int) < XI r (.arg 49))
    have c7 : xhid (XI r (.sub (.arg 49) (.int 6)) < (6 : Int)) := ((by omega) : XI r (.sub (.arg 49) (.int 6)) < (6 : Int))
    refine ⟨404, _, ?_, lf_11_1⟩
    refine xc_cons (xh_gt_F (XI_lit (by decide +kernel)) rfl h0) ?_
    refine xc_cons (xh_lt_T (XI_lit (by decide +kernel)) rfl h1) ?_
    refine xc_cons (xh_eq_T rfl (XI_lit (by decide +kernel)) hk) ?_
    refine xc_cons (xh_lt_T (XI_lit (by decide +kernel)) rfl c1) ?_
    refine xc_cons (xh_eq_T rfl (XI_lit (by decide +kernel)) c5) ?_
    refine xc_cons (xh_lt_T (XI_lit (by decide +kernel)) rfl c6) ?_
    refine xc_cons (xh_eq_T rfl (XI_lit (by decide +kernel)) c5) ?_
    refine xc_cons (xh_gt_T (XI_lit (by decide +kernel)) rfl c7) ?_
    exact xc_nil
  refine (Classical.em (XI r (.arg 1) < (0 : Int))).elim (fun (c8 : xhid (XI r (.arg 1) < (0 : Int))) => ?_) (fun (c8 : xhid (¬ (XI r (.arg 1) < (0 : Int)))) => ?_)
  ·
    have c9 : xhid ((1 : Int) < XI r (.arg 49)) := ((by have z0 : (1 : Int) < XI r (.arg 49) := c1; omega) : (1 : Int) < XI r (.arg 49))
    have c10 : xhid (XI r (.arg 1) < (0 : Int)) := ((by have z0 : XI r (.arg 1) < (0 : Int) := c8; have z1 : -2147483648 ≤ XI r (.arg 1) := b1; have z2 : XI r (.arg 1) < 2147483648 := d1; omega) : XI r (.arg 1) < (0 : Int))
    have c11 : xhid (XI r (.sub (.arg 49) (.int 6)) < (6 : Int)) := ((by omega) : XI r (.sub (.arg 49) (.int 6)) < (6 : Int))
    refine ⟨106, _, ?_, lf_11_2⟩
    refine xc_cons (xh_gt_F (XI_lit (by decide +kernel)) rfl h0) ?_
    refine xc_cons (xh_lt_T (XI_lit (by decide +kernel)) rfl h1) ?_
    refine xc_cons (xh_eq_T rfl (XI_lit (by decide +kernel)) hk) ?_
    refine xc_cons (xh_lt_T (XI_lit (by decide +kernel)) rfl c1) ?_
    refine xc_cons (xh_lt_T rfl (XI_lit (by decide +kernel)) c8) ?_
    refine xc_cons (xh_lt_T (XI_lit (by decide +kernel)) rfl c9) ?_
    refine xc_cons (xh_lt_T rfl (XI_lit (by decide +kernel)) c10) ?_
    refine xc_cons (xh_gt_T (XI_lit (by decide +kernel)) rfl c11) ?_
    exact xc_nil
  ·
    have c12 : xhid ((2 : Int) ≤ XI r (.arg 1)) := ((by have z0 : ¬ (XI r (.arg 1) < (0 : Int)) := c8; have z1 : ¬ (XI r (.arg 1) = (0 : Int)) := c2; have z2 : ¬ (XI r (.arg 1) = (1 : Int)) := c5; have z3 : -2147483648 ≤ XI r (.arg 1) := b1; have z4 : XI r (.arg 1) < 2147483648 := d1; omega) : (2 : Int) ≤ XI r (.arg 1))
    have c13 : xhid ((1 : Int) < XI r (.arg 49)) := ((by have z0 : (1 : Int) < XI r (.arg 49) := c1; omega) : (1 : Int) < XI r (.arg 49))
    have c14 : xhid (¬ (XI r (.arg 1) < (0 : Int))) := ((by have z0 : (2 : Int) ≤ XI r (.arg 1) := c12; have z1 : -2147483648 ≤ XI r (.arg 1) := b1; have z2 : XI r (.arg 1) < 2147483648 := d1; omega) : ¬ (XI r (.arg 1) < (0 : Int)))
    have c15 : xhid ((1 : Int) < XI r (.arg 1)) := ((by have z0 : ¬ (XI r (.arg 1) < (0 : Int)) := c14; have z1 : ¬ (XI r (.arg 1) = (0 : Int)) := c2; have z2 : ¬ (XI r (.arg 1) = (1 : Int)) := c5; have z3 : -2147483648 ≤ XI r (.arg 1) := b1; have z4 : XI r (.arg 1) < 2147483648 := d1; omega) : (1 : Int) < XI r (.arg 1))
    have c16 : xhid (XI r (.sub (.arg 49) (.int 6)) < (6 : Int)) := ((by omega) : XI r (.sub (.arg 49) (.int 6)) < (6 : Int))
    refine ⟨112, _, ?_, lf_11_3⟩
    refine xc_cons (xh_gt_F (XI_lit (by decide +kernel)) rfl h0) ?_
    refine xc_cons (xh_lt_T (XI_lit (by decide +kernel)) rfl h1) ?_
    refine xc_cons (xh_eq_T rfl (XI_lit (by decide +kernel)) hk) ?_
    refine xc_cons (xh_lt_T (XI_lit (by decide +kernel)) rfl c1) ?_
    refine xc_cons (xh_lt_F rfl (XI_lit (by decide +kernel)) c8) ?_
    refine xc_cons (xh_ge_T rfl (XI_lit (by decide +kernel)) c12) ?_
    refine xc_cons (xh_lt_T (XI_lit (by decide +kernel)) rfl c13) ?_
    refine xc_cons (xh_lt_F rfl (XI_lit (by decide +kernel)) c14) ?_
    refine xc_cons (xh_gt_T rfl (XI_lit (by decide +kernel)) c15) ?_
    refine xc_cons (xh_gt_T (XI_lit (by decide +kernel)) rfl c16) ?_
    exact xc_nil
theorem lf_12_0 : xfin (xev 138 20 xlaw 18 xlo0 [] xh0 [(.gt, .int 0, .sub (.arg 49) (.int 6), false), (.lt, .int 0, .arg 49, true), (.eq, .op2 .iand (.arg 0) (.int 63), .int 12, true), (.lt, .int 1, .arg 49, true), (.eq, .arg 1, .int 0, true), (.lt, .int 1, .arg 49, true), (.eq, .arg 1, .int 0, true), (.gt, .int 6, .sub (.arg 49) (.int 6), true)]) = true := by decide +kernel
theorem lf_12_1 : xfin (xev 138 20 xlaw 18 xlo0 [] xh0 [(.gt, .int 0, .sub (.arg 49) (.int 6), false), (.lt, .int 0, .arg 49, true), (.eq, .op2 .iand (.arg 0) (.int 63), .int 12, true), (.lt, .int 1, .arg 49, true), (.eq, .arg 1, .int 1, true), (.lt, .int 1, .arg 49, true), (.eq, .arg 1, .int 1, true), (.gt, .int 6, .sub (.arg 49) (.int 6), true)]) = true := by decide +kernel
theorem lf_12_2 : xfin (xev 106 20 xlaw 18 xlo0 [] xh0 [(.gt, .int 0, .sub (.arg 49) (.int 6), false), (.lt, .int 0, .arg 49, true), (.eq, .op2 .iand (.arg 0) (.int 63), .int 12, true), (.lt, .int 1, .arg 49, true), (.lt, .arg 1, .int 0, true), (.lt, .int 1, .arg 49, true), (.lt, .arg 1, .int 0, true), (.gt, .int 6, .sub (.arg 49) (.int 6), true)]) = true := by decide +kernel
theorem lf_12_3 : xfin (xev 112 20 xlaw 18 xlo0 [] xh0 [(.gt, .int 0, .sub (.arg 49) (.int 6), false), (.lt, .int 0, .arg 49, true), (.eq, .op2 .iand (.arg 0) (.int 63), .int 12, true), (.lt, .int 1, .arg 49, true), (.lt, .arg 1, .int 0, false), (.ge, .arg 1, .int 2, true), (.lt, .int 1, .arg 49, true), (.lt, .arg 1, .int 0, false), (.gt, .arg 1, .int 1, true), (.gt, .int 6, .sub (.arg 49) (.int 6), true)]) = true := by decide +kernel
set_option maxHeartbeats 4000000 in
theorem cv_12 {r : Nat → Value} (h49 : XI r (.arg 49) = 6) (hs : XI r (.sub (.arg 49) (.int 6)) = 0) (hk : XI r (.op2 .iand (.arg 0) (.int 63)) = 12) : ∃ (f : Nat) (E : List xB), (∀ q ∈ E, xhold r q) ∧ xfin (xev f 20 xlaw 18 xlo0 [] xh0 E) = true := by
  have h0 : ¬ (XI r (.sub (.arg 49) (.int 6)) < (0 : Int)) := by omega
  have h1 : (0 : Int) < XI r (.arg 49) := by omega
  have b0 : xhid (-2147483648 ≤ XI r (.arg 0)) := XI_lo r (.arg 0)
  have d0 : xhid (XI r (.arg 0) < 2147483648) := XI_hi r (.arg 0)
  have b1 : xhid (-2147483648 ≤ XI r (.arg 1)) := XI_lo r (.arg 1)
  have d1 : xhid (XI r (.arg 1) < 2147483648) := XI_hi r (.arg 1)
  have b2 : xhid (-2147483648 ≤ XI r (.arg 2)) := XI_lo r (.arg 2)
  have d2 : xhid (XI r (.arg 2) < 2147483648) := XI_hi r (.arg 2)
  have b3 : xhid (-2147483648 ≤ XI r (.arg 3)) := XI_lo r (.arg 3)
  have d3 : xhid (XI r (.arg 3) < 2147483648) := XI_hi r (.arg 3)
  have b4 : xhid (-2147483648 ≤ XI r (.arg 4)) := XI_lo r (.arg 4)
  have d4 : xhid (XI r (.arg 4) < 2147483648) := XI_hi r (.arg 4)
  have b5 : xhid (-2147483648 ≤ XI r (.arg 5)) := XI_lo r (.arg 5)
  have d5 : xhid (XI r (.arg 5) < 2147483648) := XI_hi r (.arg 5)
  have c1 : xhid ((1 : Int) < XI r (.arg 49)) := ((by have z0 : ¬ (XI r (.sub (.arg 49) (.int 6)) < (0 : Int)) := h0; omega) : (1 : Int) < XI r (.arg 49))
  refine (Classical.em (XI r (.arg 1) = (0 : Int))).elim (fun (c2 : xhid (XI r (.arg 1) = (0 : Int))) => ?_) (fun (c2 : xhid (¬ (XI r (.arg 1) = (0 : Int)))) => ?_)
  ·
    have c3 : xhid ((1 : Int) < XI r (.arg 49)) := ((by have z0 : (1 : Int) < XI r (.arg 49) := c1; omega) : (1 : Int) < XI r (.arg 49))
    have c4 : xhid (XI r (.sub (.arg 49) (.int 6)) < (6 : Int)) := ((by omega) : XI r (.sub (.arg 49) (.int 6)) < (6 : Int))
    refine ⟨138, _, ?_, lf_12_0⟩
    refine xc_cons (xh_gt_F (XI_lit (by decide +kernel)) rfl h0) ?_
    refine xc_cons (xh_lt_T (XI_lit (by decide +kernel)) rfl h1) ?_
    refine xc_cons (xh_eq_T rfl (XI_lit (by decide +kernel)) hk) ?_
    refine xc_cons (xh_lt_T (XI_lit (by decide +kernel)) rfl c1) ?_
    refine xc_cons (xh_eq_T rfl (XI_lit (by decide +kernel)) c2) ?_
    refine xc_cons (xh_lt_T (XI_lit (by decide +kernel)) rfl c3) ?_
    refine xc_cons (xh_eq_T rfl (XI_lit (by decide +kernel)) c2) ?_
    refine xc_cons (xh_gt_T (XI_lit (by decide +kernel)) rfl c4) ?_
    exact xc_nil
  refine (Classical.em (XI r (.arg 1) = (1 : Int))).elim (fun (c5 : xhid (XI r (.arg 1) = (1 : Int))) => ?_) (fun (c5 : xhid (¬ (XI r (.arg 1) = (1 : Int)))) => ?_)
  ·
    have c6 : xhid ((1 : Int) < XI r (.arg 49)) := ((by have z0 : (1 : Int) < XI r (.arg 49) := c1; omega) : (1 : Int) < XI r (.arg 49))
    have c7 : xhid (XI r (.sub (.arg 49) (.int 6)) < (6 : Int)) := ((by omega) : XI r (.sub (.arg 49) (.int 6)) < (6 : Int))
    refine ⟨138, _, ?_, lf_12_1⟩
    refine xc_cons (xh_gt_F (XI_lit (by decide +kernel)) rfl h0) ?_
    refine xc_cons (xh_lt_T (XI_lit (by decide +kernel)) rfl h1) ?_
    refine xc_cons (xh_eq_T rfl (XI_lit (by decide +kernel)) hk) ?_
    refine xc_cons (xh_lt_T (XI_lit (by decide +kernel)) rfl c1) ?_
    refine xc_cons (xh_eq_T rfl (XI_lit (by decide +kernel)) c5) ?_
    refine xc_cons (xh_lt_T (XI_lit (by decide +kernel)) rfl c6) ?_
    refine xc_cons (xh_eq_T rfl (XI_lit (by decide +kernel)) c5) ?_
    refine xc_cons (xh_gt_T (XI_lit (by decide +kernel)) rfl c7) ?_
    exact xc_nil
  refine (Classical.em (XI r (.arg 1) < (0 : Int))).elim (fun (c8 : xhid (XI r (.arg 1) < (0 : Int))) => ?_) (fun (c8 : xhid (¬ (XI r (.arg 1) < (0 : Int)))) => ?_)
  ·
    have c9 : xhid ((1 : Int) < XI r (.arg 49)) := ((by have z0 : (1 : Int) < XI r (.arg 49) := c1; omega) : (1 : Int) < XI r (.arg 49))
    have c10 : xhid (XI r (.arg 1) < (0 : Int)) := ((by have z0 : XI r (.arg 1) < (0 : Int) := c8; have z1 : -2147483648 ≤ XI r (.arg 1) := b1; have z2 : XI r (.arg 1) < 2147483648 := d1; omega) : XI r (.arg 1) < (0 : Int))
    have c11 : xhid (XI r (.sub (.arg 49) (.int 6)) < (6 : Int)) := ((by omega) : XI r (.sub (.arg 49) (.int 6)) < (6 : Int))
    refine ⟨106, _, ?_, lf_12_2⟩
    refine xc_cons (xh_gt_F (XI_lit (by decide +kernel)) rfl h0) ?_
    refine xc_cons (xh_lt_T (XI_lit (by decide +kernel)) rfl h1) ?_
    refine xc_cons (xh_eq_T rfl (XI_lit (by decide +kernel)) hk) ?_
    refine xc_cons (xh_lt_T (XI_lit (by decide +kernel)) rfl c1) ?_
    refine xc_cons (xh_lt_T rfl (XI_lit (by decide +kernel)) c8) ?_
    refine xc_cons (xh_lt_T (XI_lit (by decide +kernel)) rfl c9) ?_
    refine xc_cons (xh_lt_T rfl (XI_lit (by decide +kernel)) c10) ?_
    refine xc_cons (xh_gt_T (XI_lit (by decide +kernel)) rfl c11) ?_
    exact xc_nil
  ·
    have c12 : xhid ((2 : Int) ≤ XI r (.arg 1)) := ((by have z0 : ¬ (XI r (.arg 1) < (0 : Int)) := c8; have z1 : ¬ (XI r (.arg 1) = (0 : Int)) := c2; have z2 : ¬ (XI r (.arg 1) = (1 : Int)) := c5; have z3 : -2147483648 ≤ XI r (.arg 1) := b1; have z4 : XI r (.arg 1) < 2147483648 := d1; omega) : (2 : Int) ≤ XI r (.arg 1))
    have c13 : xhid ((1 : Int) < XI r (.arg 49)) := ((by have z0 : (1 : Int) < XI r (.arg 49) := c1; omega) : (1 : Int) < XI r (.arg 49))
    have c14 : xhid (¬ (XI r (.arg 1) < (0 : Int))) := ((by have z0 : (2 : Int) ≤ XI r (.arg 1) := c12; have z1 : -2147483648 ≤ XI r (.arg 1) := b1; have z2 : XI r (.arg 1) < 2147483648 := d1; omega) : ¬ (XI r (.arg 1) < (0 : Int)))
    have c15 : xhid ((1 : Int) < XI r (.arg 1)) := ((by have z0 : ¬ (XI r (.arg 1) < (0 : Int)) := c14; have z1 : ¬ (XI r (.arg 1) = (0 : Int)) := c2; have z2 : ¬ (XI r (.arg 1) = (1 : Int)) := c5; have z3 : -2147483648 ≤ XI r (.arg 1) := b1; have z4 : XI r (.arg 1) < 2147483648 := d1; omega) : (1 : Int) < XI r (.arg 1))
    have c16 : xhid (XI r (.sub (.arg 49) (.int 6)) < (6 : Int)) := ((by omega) : XI r (.sub (.arg 49) (.int 6)) < (6 : Int))
    refine ⟨112, _, ?_, lf_12_3⟩
    refine xc_cons (xh_gt_F (XI_lit (by decide +kernel)) rfl h0) ?_
    refine xc_cons (xh_lt_T (XI_lit (by decide +kernel)) rfl h1) ?_
    refine xc_cons (xh_eq_T rfl (XI_lit (by decide +kernel)) hk) ?_
    refine xc_cons (xh_lt_T (XI_lit (by decide +kernel)) rfl c1) ?_
    refine xc_cons (xh_lt_F rfl (XI_lit (by decide +kernel)) c8) ?_
    refine xc_cons (xh_ge_T rfl (XI_lit (by decide +kernel)) c12) ?_
    refine xc_cons (xh_lt_T (XI_lit (by decide +kernel)) rfl c13) ?_
    refine xc_cons (xh_lt_F rfl (XI_lit (by decide +kernel)) c14) ?_
    refine xc_cons (xh_gt_T rfl (XI_lit (by decide +kernel)) c15) ?_
    refine xc_cons (xh_gt_T (XI_lit (by decide +kernel)) rfl c16) ?_
    exact xc_nil
theorem lf_13_0 : xfin (xev 136 20 xlaw 18 xlo0 [] xh0 [(.gt, .int 0, .sub (.arg 49) (.int 6), false), (.lt, .int 0, .arg 49, true), (.eq, .op2 .iand (.arg 0) (.int 63), .int 13, true), (.lt, .int 1, .arg 49, true), (.lt, .int 2, .arg 49, true), (.lt, .int 3, .arg 49, true), (.lt, .arg 1, .int 0, true), (.lt, .int 1, .arg 49, true), (.lt, .int 2, .arg 49, true), (.lt, .int 3, .arg 49, true), (.lt, .arg 1, .int 0, true), (.gt, .int 6, .sub (.arg 49) (.int 6), true)]) = true := by decide +kernel
theorem lf_13_1 : xfin (xev 144 20 xlaw 18 xlo0 [] xh0 [(.gt, .int 0, .sub (.arg 49) (.int 6), false), (.lt, .int 0, .arg 49, true), (.eq, .op2 .iand (.arg 0) (.int 63), .int 13, true), (.lt, .int 1, .arg 49, true), (.lt, .int 2, .arg 49, true), (.lt, .int 3, .arg 49, true), (.lt, .arg 1, .int 0, false), (.ge, .arg 1, .int 0, true), (.lt, .int 1, .arg 49, true), (.lt, .int 2, .arg 49, true), (.lt, .int 3, .arg 49, true), (.lt, .arg 1, .int 0, false), (.gt, .arg 1, .int (-1), true), (.gt, .int 6, .sub (.arg 49) (.int 6), true)]) = true := by decide +kernel
set_option maxHeartbeats 4000000 in
theorem cv_13 {r : Nat → Value} (h49 : XI r (.arg 49) = 6) (hs : XI r (.sub (.arg 49) (.int 6)) = 0) (hk : XI r (.op2 .iand (.arg 0) (.int 63)) = 13) : ∃ (f : Nat) (E : List xB), (∀ q ∈ E, xhold r q) ∧ xfin (xev f 20 xlaw 18 xlo0 [] xh0 E) = true := by
  have h0 : ¬ (XI r (.sub (.arg 49) (.int 6)) < (0 : Int)) := by omega
  have h1 : (0 : Int) < XI r (.arg 49) := by omega
  have b0 : xhid (-2147483648 ≤ XI r (.arg 0)) := XI_lo r (.arg 0)
  have d0 : xhid (XI r (.arg 0) < 2147483648) := XI_hi r (.arg 0)
  have b1 : xhid (-2147483648 ≤ XI r (.arg 1)) := XI_lo r (.arg 1)
  have d1 : xhid (XI r (.arg 1) < 2147483648) := XI_hi r (.arg 1)
  have b2 : xhid (-2147483648 ≤ XI r (.arg 2)) := XI_lo r (.arg 2)
  have d2 : xhid (XI r (.arg 2) < 2147483648) := XI_hi r (.arg 2)
  have b3 : xhid (-2147483648 ≤ XI r (.arg 3)) := XI_lo r (.arg 3)
  have d3 : xhid (XI r (.arg 3) < 2147483648) := XI_hi r (.arg 3)
  have b4 : xhid (-2147483648 ≤ XI r (.arg 4)) := XI_lo r (.arg 4)
  have d4 : xhid (XI r (.arg 4) < 2147483648) := XI_hi r (.arg 4)
  have b5 : xhid (-2147483648 ≤ XI r (.arg 5)) := XI_lo r (.arg 5)
  have d5 : xhid (XI r (.arg 5) < 2147483648) := XI_hi r (.arg 5)
  have c1 : xhid ((1 : Int) < XI r (.arg 49)) := ((by have z0 : ¬ (XI r (.sub (.arg 49) (.int 6)) < (0 : Int)) := h0; omega) : (1 : Int) < XI r (.arg 49))
  have c2 : xhid ((2 : Int) < XI r (.arg 49)) := ((by have z0 : ¬ (XI r (.sub (.arg 49) (.int 6)) < (0 : Int)) := h0; omega) : (2 : Int) < XI r (.arg 49))
  have c3 : xhid ((3 : Int) < XI r (.arg 49)) := ((by have z0 : ¬ (XI r (.sub (.arg 49) (.int 6)) < (0 : Int)) := h0; omega) : (3 : Int) < XI r (.arg 49))
  refine (Classical.em (XI r (.arg 1) < (0 : Int))).elim (fun (c4 : xhid (XI r (.arg 1) < (0 : Int))) => ?_) (fun (c4 : xhid (¬ (XI r (.arg 1) < (0 : Int)))) => ?_)
  ·
    have c5 : xhid ((1 : Int) < XI r (.arg 49)) := ((by have z0 : (3 : Int) < XI r (.arg 49) := c3; omega) : (1 : Int) < XI r (.arg 49))
    have c6 : xhid ((2 : Int) < XI r (.arg 49)) := ((by have z0 : (3 : Int) < XI r (.arg 49) := c3; omega) : (2 : Int) < XI r (.arg 49))
    have c7 : xhid ((3 : Int) < XI r (.arg 49)) := ((by have z0 : (3 : Int) < XI r (.arg 49) := c3; omega) : (3 : Int) < XI r (.arg 49))
    have c8 : xhid (XI r (.arg 1) < (0 : Int)) := ((by have z0 : XI r (.arg 1) < (0 : Int) := c4; have z1 : -2147483648 ≤ XI r (.arg 1) := b1; have z2 : XI r (.arg 1) < 2147483648 := d1; omega) : XI r (.arg 1) < (0 : Int))
    have c9 : xhid (XI r (.sub (.arg 49) (.int 6)) < (6 : Int)) := ((by omega) : XI r (.sub (.arg 49) (.int 6)) < (6 : Int))
    refine ⟨136, _, ?_, lf_13_0⟩
    refine xc_cons (xh_gt_F (XI_lit (by decide +kernel)) rfl h0) ?_
    refine xc_cons (xh_lt_T (XI_lit (by decide +kernel)) rfl h1) ?_
    refine xc_cons (xh_eq_T rfl (XI_lit (by decide +kernel)) hk) ?_
    refine xc_cons (xh_lt_T (XI_lit (by decide +kernel)) rfl c1) ?_
    refine xc_cons (xh_lt_T (XI_lit (by decide +kernel)) rfl c2) ?_
    refine xc_cons (xh_lt_T (XI_lit (by decide +kernel)) rfl c3) ?_
    refine xc_cons (xh_lt_T rfl (XI_lit (by decide +kernel)) c4) ?_
    refine xc_cons (xh_lt_T (XI_lit (by decide +kernel)) rfl c5) ?_
    refine xc_cons (xh_lt_T (XI_lit (by decide +kernel)) rfl c6) ?_
    refine xc_cons (xh_lt_T (XI_lit (by decide +kernel)) rfl c7) ?_
    refine xc_cons (xh_lt_T rfl (XI_lit (by decide +kernel)) c8) ?_
    refine xc_cons (xh_gt_T (XI_lit (by decide +kernel)) rfl c9) ?_
    exact xc_nil
  ·
    have c10 : xhid ((0 : Int) ≤ XI r (.arg 1)) := ((by have z0 : ¬ (XI r (.arg 1) < (0 : Int)) := c4; have z1 : -2147483648 ≤ XI r (.arg 1) := b1; have z2 : XI r (.arg 1) < 2147483648 := d1; omega) : (0 : Int) ≤ XI r (.arg 1))
    have c11 : xhid ((1 : Int) < XI r (.arg 49)) := ((by have z0 : (3 : Int) < XI r (.arg 49) := c3; omega) : (1 : Int) < XI r (.arg 49))
    have c12 : xhid ((2 : Int) < XI r (.arg 49)) := ((by have z0 : (3 : Int) < XI r (.arg 49) := c3; omega) : (2 : Int) < XI r (.arg 49))
    have c13 : xhid ((3 : Int) < XI r (.arg 49)) := ((by have z0 : (3 : Int) < XI r (.arg 49) := c3; omega) : (3 : Int) < XI r (.arg 49))
    have c14 : xhid (¬ (XI r (.arg 1) < (0 : Int))) := ((by have z0 : (0 : Int) ≤ XI r (.arg 1) := c10; have z1 : -2147483648 ≤ XI r (.arg 1) := b1; have z2 : XI r (.arg 1) < 2147483648 := d1; omega) : ¬ (XI r (.arg 1) < (0 : Int)))
    have c15 : xhid ((-1 : Int) < XI r (.arg 1)) := ((by have z0 : ¬ (XI r (.arg 1) < (0 : Int)) := c14; have z1 : -2147483648 ≤ XI r (.arg 1) := b1; have z2 : XI r (.arg 1) < 2147483648 := d1; omega) : (-1 : Int) < XI r (.arg 1))
    have c16 : xhid (XI r (.sub (.arg 49) (.int 6)) < (6 : Int)) := ((by omega) : XI r (.sub (.arg 49) (.int 6)) < (6 : Int))
    refine ⟨144, _, ?_, lf_13_1⟩
    refine xc_cons (xh_gt_F (XI_lit (by decide +kernel)) rfl h0) ?_
    refine xc_cons (xh_lt_T (XI_lit (by decide +kernel)) rfl h1) ?_
    refine xc_cons (xh_eq_T rfl (XI_lit (by decide +kernel)) hk) ?_
    refine xc_cons (xh_lt_T (XI_lit (by decide +kernel)) rfl c1) ?_
    refine xc_cons (xh_lt_T (XI_lit (by decide +kernel)) rfl c2) ?_
    refine xc_cons (xh_lt_T (XI_lit (by decide +kernel)) rfl c3) ?_
    refine xc_cons (xh_lt_F rfl (XI_lit (by decide +kernel)) c4) ?_
    refine xc_cons (xh_ge_T rfl (XI_lit (by decide +kernel)) c10) ?_
    refine xc_cons (xh_lt_T (XI_lit (by decide +kernel)) rfl c11) ?_
    refine xc_cons (xh_lt_T (XI_lit (by decide +kernel)) rfl c12) ?_
    refine xc_cons (xh_lt_T (XI_lit (by decide +kernel)) rfl c13) ?_
    refine xc_cons (xh_lt_F rfl (XI_lit (by decide +kernel)) c14) ?_
    refine xc_cons (xh_gt_T rfl (XI_lit (by decide +kernel)) c15) ?_
    refine xc_cons (xh_gt_T (XI_lit (by decide +kernel)) rfl c16) ?_
    exact xc_nil
theorem lf_14_0 : xfin (xev 126 20 xlaw 18 xlo0 [] xh0 [(.gt, .int 0, .sub (.arg 49) (.int 6), false), (.lt, .int 0, .arg 49, true), (.eq, .op2 .iand (.arg 0) (.int 63), .int 14, true), (.lt, .int 1, .arg 49, true), (.lt, .int 2, .arg 49, true), (.lt, .arg 1, .int 0, true), (.lt, .int 1, .arg 49, true), (.lt, .int 2, .arg 49, true), (.lt, .arg 1, .int 0, true), (.gt, .int 6, .sub (.arg 49) (.int 6), true)]) = true := by decide +kernel
theorem lf_14_1 : xfin (xev 134 20 xlaw 18 xlo0 [] xh0 [(.gt, .int 0, .sub (.arg 49) (.int 6), false), (.lt, .int 0, .arg 49, true), (.eq, .op2 .iand (.arg 0) (.int 63), .int 14, true), (.lt, .int 1, .arg 49, true), (.lt, .int 2, .arg 49, true), (.lt, .arg 1, .int 0, false), (.ge, .arg 1, .int 0, true), (.lt, .int 1, .arg 49, true), (.lt, .int 2, .arg 49, true), (.lt, .arg 1, .int 0, false), (.gt, .arg 1, .int (-1), true), (.gt, .int 6, .sub (.arg 49) (.int 6), true)]) = true := by decide +kernel
set_option maxHeartbeats 4000000 in
theorem cv_14 {r : Nat → Value} (h49 : XI r (.arg 49) = 6) (hs : XI r (.sub (.arg 49) (.int 6)) = 0) (hk : XI r (.op2 .iand (.arg 0) (.int 63)) = 14) : ∃ (f : Nat) (E : List xB), (∀ q ∈ E, xhold r q) ∧ xfin (xev f 20 xlaw 18 xlo0 [] xh0 E) = true := by
  have h0 : ¬ (XI r (.sub (.arg 49) (.int 6)) < (0 : Int)) := by omega
  have h1 : (0 : Int) < XI r (.arg 49) := by omega
  have b0 : xhid (-2147483648 ≤ XI r (.arg 0)) := XI_lo r (.arg 0)
  have d0 : xhid (XI r (.arg 0) < 2147483648) := XI_hi r (.arg 0)
  have b1 : xhid (-2147483648 ≤ XI r (.arg 1)) := XI_lo r (.arg 1)
  have d1 : xhid (XI r (.arg 1) < 2147483648) := XI_hi r (.arg 1)
  have b2 : xhid (-2147483648 ≤ XI r (.arg 2)) := XI_lo r (.arg 2)
  have d2 : xhid (XI r (.arg 2) < 2147483648) := XI_hi r (.arg 2)
  have b3 : xhid (-2147483648 ≤ XI r (.arg 3)) := XI_lo r (.arg 3)
  have d3 : xhid (XI r (.arg 3) < 2147483648) := XI_hi r (.arg 3)
  have b4 : xhid (-2147483648 ≤ XI r (.arg 4)) := XI_lo r (.arg 4)
  have d4 : xhid (XI r (.arg 4) < 2147483648) := XI_hi r (.arg 4)
  have b5 : xhid (-2147483648 ≤ XI r (.arg 5)) := XI_lo r (.arg 5)
  have d5 : xhid (XI r (.arg 5) < 2147483648) := XI_hi r (.arg 5)
  have c1 : xhid ((1 : Int) < XI r (.arg 49)) := ((by have z0 : ¬ (XI r (.sub (.arg 49) (.int 6)) < (0 : Int)) := h0; omega) : (1 : Int) < XI r (.arg 49))
  have c2 : xhid ((2 : Int) < XI r (.arg 49)) := ((by have z0 : ¬ (XI r (.sub (.arg 49) (.int 6)) < (0 : Int)) := h0; omega) : (2 : Int) < XI r (.arg 49))
  refine (Classical.em (XI r (.arg 1) < (0 : Int))).elim (fun (c3 : xhid (XI r (.arg 1) < (0 : Int))) => ?_) (fun (c3 : xhid (¬ (XI r (.arg 1) < (0 : Int)))) => ?_)
  ·
    have c4 : xhid ((1 : Int) < XI r (.arg 49)) := ((by have z0 : (2 : Int) < XI r (.arg 49) := c2; omega) : (1 : Int) < XI r (.arg 49))
    have c5 : xhid ((2 : Int) < XI r (.arg 49)) := ((by have z0 : (2 : Int) < XI r (.arg 49) := c2; omega) : (2 : Int) < XI r (.arg 49))
    have c6 : xhid (XI r (.arg 1) < (0 : Int)) := ((by have z0 : XI r (.arg 1) < (0 : Int) := c3; have z1 : -2147483648 ≤ XI r (.arg 1) := b1; have z2 : XI r (.arg 1) < 2147483648 := d1; omega) : XI r (.arg 1) < (0 : Int))
    have c7 : xhid (XI r (.sub (.arg 49) (.int 6)) < (6 : Int)) := ((by omega) : XI r (.sub (.arg 49) (.int 6)) < (6 : Int))
    refine ⟨126, _, ?_, lf_14_0⟩
    refine xc_cons (xh_gt_F (XI_lit (by decide +kernel)) rfl h0) ?_
    refine xc_cons (xh_lt_T (XI_lit (by decide +kernel)) rfl h1) ?_
    refine xc_cons (xh_eq_T rfl (XI_lit (by decide +kernel)) hk) ?_
    refine xc_cons (xh_lt_T (XI_lit (by decide +kernel)) rfl c1) ?_
    refine xc_cons (xh_lt_T (XI_lit (by decide +kernel)) rfl c2) ?_
    refine xc_cons (xh_lt_T rfl (XI_lit (by decide +kernel)) c3) ?_
    refine xc_cons (xh_lt_T (XI_lit (by decide +kernel)) rfl c4) ?_
    refine xc_cons (xh_lt_T (XI_lit (by decide +kernel)) rfl c5) ?_
    refine xc_cons (xh_lt_T rfl (XI_lit (by decide +kernel)) c6) ?_
    refine xc_cons (xh_gt_T (XI_lit (by decide +kernel)) rfl c7) ?_
    exact xc_nil
  ·
    have c8 : xhid ((0 : Int) ≤ XI r (.arg 1)) := ((by have z0 : ¬ (XI r (.arg 1) < (0 : Int)) := c3; have z1 : -2147483648 ≤ XI r (.arg 1) := b1; have z2 : XI r (.arg 1) < 2147483648 := d1; omega) : (0 : Int) ≤ XI r (.arg 1))
    have c9 : xhid ((1 : Int) < XI r (.arg 49)) := ((by have z0 : (2 : Int) < XI r (.arg 49) := c2; omega) : (1 : Int) < XI r (.arg 49))
    have c10 : xhid ((2 : Int) < XI r (.arg 49)) := ((by have z0 : (2 : Int) < XI r (.arg 49) := c2; omega) : (2 : Int) < XI r (.arg 49))
    have c11 : xhid (¬ (XI r (.arg 1) < (0 : Int))) := ((by have z0 : (0 : Int) ≤ XI r (.arg 1) := c8; have z1 : -2147483648 ≤ XI r (.arg 1) := b1; have z2 : XI r (.arg 1) < 2147483648 := d1; omega) : ¬ (XI r (.arg 1) < (0 : Int)))
    have c12 : xhid ((-1 : Int) < XI r (.arg 1)) := ((by have z0 : ¬ (XI r (.arg 1) < (0 : Int)) := c11; have z1 : -2147483648 ≤ XI r (.arg 1) := b1; have z2 : XI r (.arg 1) < 2147483648 := d1; omega) : (-1 : Int) < XI r (.arg 1))
    have c13 : xhid (XI r (.sub (.arg 49) (.int 6)) < (6 : Int)) := ((by omega) : XI r (.sub (.arg 49) (.int 6)) < (6 : Int))
    refine ⟨134, _, ?_, lf_14_1⟩
    refine xc_cons (xh_gt_F (XI_lit (by decide +kernel)) rfl h0) ?_
    refine xc_cons (xh_lt_T (XI_lit (by decide +kernel)) rfl h1) ?_
    refine xc_cons (xh_eq_T rfl (XI_lit (by decide +kernel)) hk) ?_
    refine xc_cons (xh_lt_T (XI_lit (by decide +kernel)) rfl c1) ?_
    refine xc_cons (xh_lt_T (XI_lit (by decide +kernel)) rfl c2) ?_
    refine xc_cons (xh_lt_F rfl (XI_lit (by decide +kernel)) c3) ?_
    refine xc_cons (xh_ge_T rfl (XI_lit (by decide +kernel)) c8) ?_
    refine xc_cons (xh_lt_T (XI_lit (by decide +kernel)) rfl c9) ?_
    refine xc_cons (xh_lt_T (XI_lit (by decide +kernel)) rfl c10) ?_
    refine xc_cons (xh_lt_F rfl (XI_lit (by decide +kernel)) c11) ?_
    refine xc_cons (xh_gt_T rfl (XI_lit (by decide +kernel)) c12) ?_
    refine xc_cons (xh_gt_T (XI_lit (by decide +kernel)) rfl c13) ?_
    exact xc_nil
theorem lf_15_0 : xfin (xev 200 20 xlaw 18 xlo0 [] xh0 [(.gt, .int 0, .sub (.arg 49) (.int 6), false), (.lt, .int 0, .arg 49, true), (.eq, .op2 .iand (.arg 0) (.int 63), .int 15, true), (.lt, .int 1, .arg 49, true), (.eq, .arg 1, .int 0, true), (.lt, .int 1, .arg 49, true), (.eq, .arg 1, .int 0, true), (.gt, .int 6, .sub (.arg 49) (.int 6), true)]) = true := by decide +kernel
theorem lf_15_1 : xfin (xev 126 20 xlaw 18 xlo0 [] xh0 [(.gt, .int 0, .sub (.arg 49) (.int 6), false), (.lt, .int 0, .arg 49, true), (.eq, .op2 .iand (.arg 0) (.int 63), .int 15, true), (.lt, .int 1, .arg 49, true), (.lt, .arg 1, .int 0, true), (.lt, .int 1, .arg 49, true), (.lt, .arg 1, .int 0, true), (.le, .arg 1, .int 0, true), (.gt, .int 6, .sub (.arg 49) (.int 6), true)]) = true := by decide +kernel
theorem lf_15_2 : xfin (xev 183 20 xlaw 18 xlo0 [] xh0 [(.gt, .int 0, .sub (.arg 49) (.int 6), false), (.lt, .int 0, .arg 49, true), (.eq, .op2 .iand (.arg 0) (.int 63), .int 15, true), (.lt, .int 1, .arg 49, true), (.lt, .arg 1, .int 0, false), (.le, .arg 1, .int 9999, true), (.ne, .rem (.div (.arg 1) (.int 1000)) (.int 10), .int 0, true), (.eq, .rem (.div (.arg 1) (.int 1000)) (.int 10), .int 0, false), (.le, .rem (.div (.arg 1) (.int 1000)) (.int 10), .int 0, false), (.lt, .int 1, .arg 49, true), (.lt, .arg 1, .int 0, false), (.gt, .arg 1, .int 9999, false), (.le, .arg 1, .int 0, false), (.lt, .sub (.rem (.arg 1) (.int 10)) (.int 1), .int 0, true), (.le, .div (.arg 1) (.int 10), .int 0, true), (.gt, .int 6, .sub (.arg 49) (.int 6), true)]) = true := by decide +kernel
theorem lf_15_3 : xfin (xev 185 20 xlaw 18 xlo0 [] xh0 [(.gt, .int 0, .sub (.arg 49) (.int 6), false), (.lt, .int 0, .arg 49, true), (.eq, .op2 .iand (.arg 0) (.int 63), .int 15, true), (.lt, .int 1, .arg 49, true), (.lt, .arg 1, .int 0, false), (.le, .arg 1, .int 9999, true), (.ne, .rem (.div (.arg 1) (.int 1000)) (.int 10), .int 0, true), (.eq, .rem (.div (.arg 1) (.int 1000)) (.int 10), .int 0, false), (.le, .rem (.div (.arg 1) (.int 1000)) (.int 10), .int 0, false), (.lt, .int 1, .arg 49, true), (.lt, .arg 1, .int 0, false), (.gt, .arg 1, .int 9999, false), (.le, .arg 1, .int 0, false), (.lt, .sub (.rem (.arg 1) (.int 10)) (.int 1), .int 0, true), (.le, .div (.arg 1) (.int 10), .int 0, false), (.gt, .int 6, .sub (.arg 49) (.int 6), true)]) = true := by decide +kernel
theorem lf_15_4 : xfin (xev 186 20 xlaw 18 xlo0 [] xh0 [(.gt, .int 0, .sub (.arg 49) (.int 6), false), (.lt, .int 0, .arg 49, true), (.eq, .op2 .iand (.arg 0) (.int 63), .int 15, true), (.lt, .int 1, .arg 49, true), (.lt, .arg 1, .int 0, false), (.le, .arg 1, .int 9999, true), (.ne, .rem (.div (.arg 1) (.int 1000)) (.int 10), .int 0, true), (.eq, .rem (.div (.arg 1) (.int 1000)) (.int 10), .int 0, false), (.le, .rem (.div (.arg 1) (.int 1000)) (.int 10), .int 0, false), (.lt, .int 1, .arg 49, true), (.lt, .arg 1, .int 0, false), (.gt, .arg 1, .int 9999, false), (.le, .arg 1, .int 0, false), (.lt, .sub (.rem (.arg 1) (.int 10)) (.int 1), .int 0, false), (.gt, .sub (.rem (.arg 1) (.int 10)) (.int 1), .int (-1), true), (.le, .div (.arg 1) (.int 10), .int 0, true), (.gt, .int 6, .sub (.arg 49) (.int 6), true)]) = true := by decide +kernel
theorem lf_15_5 : xfin (xev 188 20 xlaw 18 xlo0 [] xh0 [(.gt, .int 0, .sub (.arg 49) (.int 6), false), (.lt, .int 0, .arg 49, true), (.eq, .op2 .iand (.arg 0) (.int 63), .int 15, true), (.lt, .int 1, .arg 49, true), (.lt, .arg 1, .int 0, false), (.le, .arg 1, .int 9999, true), (.ne, .rem (.div (.arg 1) (.int 1000)) (.int 10), .int 0, true), (.eq, .rem (.div (.arg 1) (.int 1000)) (.int 10), .int 0, false), (.le, .rem (.div (.arg 1) (.int 1000)) (.int 10), .int 0, false), (.lt, .int 1, .arg 49, true), (.lt, .arg 1, .int 0, false), (.gt, .arg 1, .int 9999, false), (.le, .arg 1, .int 0, false), (.lt, .sub (.rem (.arg 1) (.int 10)) (.int 1), .int 0, false), (.gt, .sub (.rem (.arg 1) (.int 10)) (.int 1), .int (-1), true), (.le, .div (.arg 1) (.int 10), .int 0, false), (.gt, .int 6, .sub (.arg 49) (.int 6), true)]) = true := by decide +kernel
theorem lf_15_6 : xfin (xev 202 20 xlaw 18 xlo0 [] xh0 [(.gt, .int 0, .sub (.arg 49) (.int 6), false), (.lt, .int 0, .arg 49, true), (.eq, .op2 .iand (.arg 0) (.int 63), .int 15, true), (.lt, .int 1, .arg 49, true), (.lt, .arg 1, .int 0, false), (.le, .arg 1, .int 9999, true), (.ne, .rem (.div (.arg 1) (.int 1000)) (.int 10), .int 0, false), (.ne, .rem (.div (.arg 1) (.int 100)) (.int 10), .int 0, true), (.eq, .rem (.div (.arg 1) (.int 100)) (.int 10), .int 0, false), (.le, .rem (.div (.arg 1) (.int 100)) (.int 10), .int 0, false), (.lt, .int 1, .arg 49, true), (.lt, .arg 1, .int 0, false), (.gt, .arg 1, .int 9999, false), (.le, .arg 1, .int 0, false), (.lt, .sub (.rem (.arg 1) (.int 10)) (.int 1), .int 0, true), (.le, .div (.arg 1) (.int 10), .int 0, true), (.gt, .int 6, .sub (.arg 49) (.int 6), true)]) = true := by decide +kernel
theorem lf_15_7 : xfin (xev 204 20 xlaw 18 xlo0 [] xh0 [(.gt, .int 0, .sub (.arg 49) (.int 6), false), (.lt, .int 0, .arg 49, true), (.eq, .op2 .iand (.arg 0) (.int 63), .int 15, true), (.lt, .int 1, .arg 49, true), (.lt, .arg 1, .int 0, false), (.le, .arg 1, .int 9999, true), (.ne, .rem (.div (.arg 1) (.int 1000)) (.int 10), .int 0, false), (.ne, .rem (.div (.arg 1) (.int 100)) (.int 10), .int 0, true), (.eq, .rem (.div (.arg 1) (.int 100)) (.int 10), .int 0, false), (.le, .rem (.div (.arg 1) (.int 100)) (.int 10), .int 0, false), (.lt, .int 1, .arg 49, true), (.lt, .arg 1, .int 0, false), (.gt, .arg 1, .int 9999, false), (.le, .arg 1, .int 0, false), (.lt, .sub (.rem (.arg 1) (.int 10)) (.int 1), .int 0, true), (.le, .div (.arg 1) (.int 10), .int 0, false), (.gt, .int 6, .sub (.arg 49) (.int 6), true)]) = true := by decide +kernel
theorem lf_15_8 : xfin (xev 205 20 xlaw 18 xlo0 [] xh0 [(.gt, .int 0, .sub (.arg 49) (.int 6), false), (.lt, .int 0, .arg 49, true), (.eq, .op2 .iand (.arg 0) (.int 63), .int 15, true), (.lt, .int 1, .arg 49, true), (.lt, .arg 1, .int 0, false), (.le, .arg 1, .int 9999, true), (.ne, .rem (.div (.arg 1) (.int 1000)) (.int 10), .int 0, false), (.ne, .rem (.div (.arg 1) (.int 100)) (.int 10), .int 0, true), (.eq, .rem (.div (.arg 1) (.int 100)) (.int 10), .int 0, false), (.le, .rem (.div (.arg 1) (.int 100)) (.int 10), .int 0, false), (.lt, .int 1, .arg 49, true), (.lt, .arg 1, .int 0, false), (.gt, .arg 1, .int 9999, false), (.le, .arg 1, .int 0, false), (.lt, .sub (.rem (.arg 1) (.int 10)) (.int 1), .int 0, false), (.gt, .sub (.rem (.arg 1) (.int 10)) (.int 1), .int (-1), true), (.le, .div (.arg 1) (.int 10), .int 0, true), (.gt, .int 6, .sub (.arg 49) (.int 6), true)]) = true := by decide +kernel
theorem lf_15_9 : xfin (xev 207 20 xlaw 18 xlo0 [] xh0 [(.gt, .int 0, .sub (.arg 49) (.int 6), false), (.lt, .int 0, .arg 49, true), (.eq, .op2 .iand (.arg 0) (.int 63), .int 15, true), (.lt, .int 1, .arg 49, true), (.lt, .arg 1, .int 0, false), (.le, .arg 1, .int 9999, true), (.ne, .rem (.div (.arg 1) (.int 1000)) (.int 10), .int 0, false), (.ne, .rem (.div (.arg 1) (.int 100)) (.int 10), .int 0, true), (.eq, .rem (.div (.arg 1) (.int 100)) (.int 10), .int 0, false), (.le, .rem (.div (.arg 1) (.int 100)) (.int 10), .int 0, false), (.lt, .int 1, .arg 49, true), (.lt, .arg 1, .int 0, false), (.gt, .arg 1, .int 9999, false), (.le, .arg 1, .int 0, false), (.lt, .sub (.rem (.arg 1) (.int 10)) (.int 1), .int 0, false), (.gt, .sub (.rem (.arg 1) (.int 10)) (.int 1), .int (-1), true), (.le, .div (.arg 1) (.int 10), .int 0, false), (.gt, .int 6, .sub (.arg 49) (.int 6), true)]) = true := by decide +kernel
theorem lf_15_10 : xfin (xev 223 20 xlaw 18 xlo0 [] xh0 [(.gt, .int 0, .sub (.arg 49) (.int 6), false), (.lt, .int 0, .arg 49, true), (.eq, .op2 .iand (.arg 0) (.int 63), .int 15, true), (.lt, .int 1, .arg 49, true), (.lt, .arg 1, .int 0, false), (.le, .arg 1, .int 9999, true), (.ne, .rem (.div (.arg 1) (.int 1000)) (.int 10), .int 0, false), (.ne, .rem (.div (.arg 1) (.int 100)) (.int 10), .int 0, false), (.ne, .rem (.div (.arg 1) (.int 10)) (.int 10), .int 0, true), (.eq, .rem (.div (.arg 1) (.int 10)) (.int 10), .int 0, false), (.le, .rem (.div (.arg 1) (.int 10)) (.int 10), .int 0, false), (.lt, .int 1, .arg 49, true), (.lt, .arg 1, .int 0, false), (.gt, .arg 1, .int 9999, false), (.le, .arg 1, .int 0, false), (.lt, .sub (.rem (.arg 1) (.int 10)) (.int 1), .int 0, true), (.le, .div (.arg 1) (.int 10), .int 0, false), (.gt, .int 6, .sub (.arg 49) (.int 6), true)]) = true := by decide +kernel
theorem lf_15_11 : xfin (xev 226 20 xlaw 18 xlo0 [] xh0 [(.gt, .int 0, .sub (.arg 49) (.int 6), false), (.lt, .int 0, .arg 49, true), (.eq, .op2 .iand (.arg 0) (.int 63), .int 15, true), (.lt, .int 1, .arg 49, true), (.lt, .arg 1, .int 0, false), (.le, .arg 1, .int 9999, true), (.ne, .rem (.div (.arg 1) (.int 1000)) (.int 10), .int 0, false), (.ne, .rem (.div (.arg 1) (.int 100)) (.int 10), .int 0, false), (.ne, .rem (.div (.arg 1) (.int 10)) (.int 10), .int 0, true), (.eq, .rem (.div (.arg 1) (.int 10)) (.int 10), .int 0, false), (.le, .rem (.div (.arg 1) (.int 10)) (.int 10), .int 0, false), (.lt, .int 1, .arg 49, true), (.lt, .arg 1, .int 0, false), (.gt, .arg 1, .int 9999, false), (.le, .arg 1, .int 0, false), (.lt, .sub (.rem (.arg 1) (.int 10)) (.int 1), .int 0, false), (.gt, .sub (.rem (.arg 1) (.int 10)) (.int 1), .int (-1), true), (.le, .div (.arg 1) (.int 10), .int 0, false), (.gt, .int 6, .sub (.arg 49) (.int 6), true)]) = true := by decide +kernel
theorem lf_15_12 : xfin (xev 240 20 xlaw 18 xlo0 [] xh0 [(.gt, .int 0, .sub (.arg 49) (.int 6), false), (.lt, .int 0, .arg 49, true), (.eq, .op2 .iand (.arg 0) (.int 63), .int 15, true), (.lt, .int 1, .arg 49, true), (.lt, .arg 1, .int 0, false), (.le, .arg 1, .int 9999, true), (.ne, .rem (.div (.arg 1) (.int 1000)) (.int 10), .int 0, false), (.ne, .rem (.div (.arg 1) (.int 100)) (.int 10), .int 0, false), (.ne, .rem (.div (.arg 1) (.int 10)) (.int 10), .int 0, false), (.ne, .rem (.div (.arg 1) (.int 1)) (.int 10), .int 0, true), (.eq, .rem (.div (.arg 1) (.int 1)) (.int 10), .int 0, false), (.le, .rem (.div (.arg 1) (.int 1)) (.int 10), .int 0, false), (.lt, .int 1, .arg 49, true), (.lt, .arg 1, .int 0, false), (.gt, .arg 1, .int 9999, false), (.le, .arg 1, .int 0, false), (.lt, .sub (.rem (.arg 1) (.int 10)) (.int 1), .int 0, true), (.le, .div (.arg 1) (.int 10), .int 0, true), (.gt, .int 6, .sub (.arg 49) (.int 6), true)]) = true := by decide +kernel
theorem lf_15_13 : xfin (xev 242 20 xlaw 18 xlo0 [] xh0 [(.gt, .int 0, .sub (.arg 49) (.int 6), false), (.lt, .int 0, .arg 49, true), (.eq, .op2 .iand (.arg 0) (.int 63), .int 15, true), (.lt, .int 1, .arg 49, true), (.lt, .arg 1, .int 0, false), (.le, .arg 1, .int 9999, true), (.ne, .rem (.div (.arg 1) (.int 1000)) (.int 10), .int 0, false), (.ne, .rem (.div (.arg 1) (.int 100)) (.int 10), .int 0, false), (.ne, .rem (.div (.arg 1) (.int 10)) (.int 10), .int 0, false), (.ne, .rem (.div (.arg 1) (.int 1)) (.int 10), .int 0, true), (.eq, .rem (.div (.arg 1) (.int 1)) (.int 10), .int 0, false), (.le, .rem (.div (.arg 1) (.int 1)) (.int 10), .int 0, false), (.lt, .int 1, .arg 49, true), (.lt, .arg 1, .int 0, false), (.gt, .arg 1, .int 9999, false), (.le, .arg 1, .int 0, false), (.lt, .sub (.rem (.arg 1) (.int 10)) (.int 1), .int 0, true), (.le, .div (.arg 1) (.int 10), .int 0, false), (.gt, .int 6, .sub (.arg 49) (.int 6), true)]) = true := by decide +kernel
theorem lf_15_14 : xfin (xev 243 20 xlaw 18 xlo0 [] xh0 [(.gt, .int 0, .sub (.arg 49) (.int 6), false), (.lt, .int 0, .arg 49, true), (.eq, .op2 .iand (.arg 0) (.int 63), .int 15, true), (.lt, .int 1, .arg 49, true), (.lt, .arg 1, .int 0, false), (.le, .arg 1, .int 9999, true), (.ne, .rem (.div (.arg 1) (.int 1000)) (.int 10), .int 0, false), (.ne, .rem (.div (.arg 1) (.int 100)) (.int 10), .int 0, false), (.ne, .rem (.div (.arg 1) (.int 10)) (.int 10), .int 0, false), (.ne, .rem (.div (.arg 1) (.int 1)) (.int 10), .int 0, true), (.eq, .rem (.div (.arg 1) (.int 1)) (.int 10), .int 0, false), (.le, .rem (.div (.arg 1) (.int 1)) (.int 10), .int 0, false), (.lt, .int 1, .arg 49, true), (.lt, .arg 1, .int 0, false), (.gt, .arg 1, .int 9999, false), (.le, .arg 1, .int 0, false), (.lt, .sub (.rem (.arg 1) (.int 10)) (.int 1), .int 0, false), (.gt, .sub (.rem (.arg 1) (.int 10)) (.int 1), .int (-1), true), (.le, .div (.arg 1) (.int 10), .int 0, true), (.gt, .int 6, .sub (.arg 49) (.int 6), true)]) = true := by decide +kernel
theorem lf_15_15 : xfin (xev 245 20 xlaw 18 xlo0 [] xh0 [(.gt, .int 0, .sub (.arg 49) (.int 6), false), (.lt, .int 0, .arg 49, true), (.eq, .op2 .iand (.arg 0) (.int 63), .int 15, true), (.lt, .int 1, .arg 49, true), (.lt, .arg 1, .int 0, false), (.le, .arg 1, .int 9999, true), (.ne, .rem (.div (.arg 1) (.int 1000)) (.int 10), .int 0, false), (.ne, .rem (.div (.arg 1) (.int 100)) (.int 10), .int 0, false), (.ne, .rem (.div (.arg 1) (.int 10)) (.int 10), .int 0, false), (.ne, .rem (.div (.arg 1) (.int 1)) (.int 10), .int 0, true), (.eq, .rem (.div (.arg 1) (.int 1)) (.int 10), .int 0, false), (.le, .rem (.div (.arg 1) (.int 1)) (.int 10), .int 0, false), (.lt, .int 1, .arg 49, true), (.lt, .arg 1, .int 0, false), (.gt, .arg 1, .int 9999, false), (.le, .arg 1, .int 0, false), (.lt, .sub (.rem (.arg 1) (.int 10)) (.int 1), .int 0, false), (.gt, .sub (.rem (.arg 1) (.int 10)) (.int 1), .int (-1), true), (.le, .div (.arg 1) (.int 10), .int 0, false), (.gt, .int 6, .sub (.arg 49) (.int 6), true)]) = true := by decide +kernel
theorem lf_15_16 : xfin (xev 134 20 xlaw 18 xlo0 [] xh0 [(.gt, .int 0, .sub (.arg 49) (.int 6), false), (.lt, .int 0, .arg 49, true), (.eq, .op2 .iand (.arg 0) (.int 63), .int 15, true), (.lt, .int 1, .arg 49, true), (.lt, .arg 1, .int 0, false), (.le, .arg 1, .int 9999, false), (.lt, .int 1, .arg 49, true), (.lt, .arg 1, .int 0, false), (.gt, .arg 1, .int 9999, true), (.le, .arg 1, .int 0, false), (.gt, .int 6, .sub (.arg 49) (.int 6), true)]) = true := by decide +kernel
set_option maxHeartbeats 4000000 in
theorem cv_15 {r : Nat → Value} (h49 : XI r (.arg 49) = 6) (hs : XI r (.sub (.arg 49) (.int 6)) = 0) (hk : XI r (.op2 .iand (.arg 0) (.int 63)) = 15) : ∃ (f : Nat) (E : List xB), (∀ q ∈ E, xhold r q) ∧ xfin (xev f 20 xlaw 18 xlo0 [] xh0 E) = true := by
  have h0 : ¬ (XI r (.sub (.arg 49) (.int 6)) < (0 : Int)) := by omega
  have h1 : (0 : Int) < XI r (.arg 49) := by omega
  have b0 : xhid (-2147483648 ≤ XI r (.arg 0)) := XI_lo r (.arg 0)
  have d0 : xhid (XI r (.arg 0) < 2147483648) := XI_hi r (.arg 0)
  have b1 : xhid (-2147483648 ≤ XI r (.arg 1)) := XI_lo r (.arg 1)
  have d1 : xhid (XI r (.arg 1) < 2147483648) := XI_hi r (.arg 1)
  have b2 : xhid (-2147483648 ≤ XI r (.arg 2)) := XI_lo r (.arg 2)
  have d2 : xhid (XI r (.arg 2) < 2147483648) := XI_hi r (.arg 2)
  have b3 : xhid (-2147483648 ≤ XI r (.arg 3)) := XI_lo r (.arg 3)
  have d3 : xhid (XI r (.arg 3) < 2147483648) := XI_hi r (.arg 3)
  have b4 : xhid (-2147483648 ≤ XI r (.arg 4)) := XI_lo r (.arg 4)
  have d4 : xhid (XI r (.arg 4) < 2147483648) := XI_hi r (.arg 4)
  have b5 : xhid (-2147483648 ≤ XI r (.arg 5)) := XI_lo r (.arg 5)
  have d5 : xhid (XI r (.arg 5) < 2147483648) := XI_hi r (.arg 5)
  have c1 : xhid ((1 : Int) < XI r (.arg 49)) := ((by have z0 : ¬ (XI r (.sub (.arg 49) (.int 6)) < (0 : Int)) := h0; omega) : (1 : Int) < XI r (.arg 49))
  refine (Classical.em (XI r (.arg 1) = (0 : Int))).elim (fun (c2 : xhid (XI r (.arg 1) = (0 : Int))) => ?_) (fun (c2 : xhid (¬ (XI r (.arg 1) = (0 : Int)))) => ?_)
  ·
    have c3 : xhid ((1 : Int) < XI r (.arg 49)) := ((by have z0 : (1 : Int) < XI r (.arg 49) := c1; omega) : (1 : Int) < XI r (.arg 49))
    have c4 : xhid (XI r (.sub (.arg 49) (.int 6)) < (6 : Int)) := ((by omega) : XI r (.sub (.arg 49) (.int 6)) < (6 : Int))
    refine ⟨200, _, ?_, lf_15_0⟩
    refine xc_cons (xh_gt_F (XI_lit (by decide +kernel)) rfl h0) ?_
    refine xc_cons (xh_lt_T (XI_lit (by decide +kernel)) rfl h1) ?_
    refine xc_cons (xh_eq_T rfl (XI_lit (by decide +kernel)) hk) ?_
    refine xc_cons (xh_lt_T (XI_lit (by decide +kernel)) rfl c1) ?_
    refine xc_cons (xh_eq_T rfl (XI_lit (by decide +kernel)) c2) ?_
    refine xc_cons (xh_lt_T (XI_lit (by decide +kernel)) rfl c3) ?_
    refine xc_cons (xh_eq_T rfl (XI_lit (by decide +kernel)) c2) ?_
    refine xc_cons (xh_gt_T (XI_lit (by decide +kernel)) rfl c4) ?_
    exact xc_nil
  refine (Classical.em (XI r (.arg 1) < (0 : Int))).elim (fun (c5 : xhid (XI r (.arg 1) < (0 : Int))) => ?_) (fun (c5 : xhid (¬ (XI r (.arg 1) < (0 : Int)))) => ?_)
  ·
    have c6 : xhid ((1 : Int) < XI r (.arg 49)) := ((by have z0 : (1 : Int) < XI r (.arg 49) := c1; omega) : (1 : Int) < XI r (.arg 49))
    have c7 : xhid (XI r (.arg 1) < (0 : Int)) := ((by have z0 : XI r (.arg 1) < (0 : Int) := c5; have z1 : -2147483648 ≤ XI r (.arg 1) := b1; have z2 : XI r (.arg 1) < 2147483648 := d1; omega) : XI r (.arg 1) < (0 : Int))
    have c8 : xhid (XI r (.arg 1) ≤ (0 : Int)) := ((by have z0 : XI r (.arg 1) < (0 : Int) := c7; have z1 : -2147483648 ≤ XI r (.arg 1) := b1; have z2 : XI r (.arg 1) < 2147483648 := d1; omega) : XI r (.arg 1) ≤ (0 : Int))
    have c9 : xhid (XI r (.sub (.arg 49) (.int 6)) < (6 : Int)) := ((by omega) : XI r (.sub (.arg 49) (.int 6)) < (6 : Int))
    refine ⟨126, _, ?_, lf_15_1⟩
    refine xc_cons (xh_gt_F (XI_lit (by decide +kernel)) rfl h0) ?_
    refine xc_cons (xh_lt_T (XI_lit (by decide +kernel)) rfl h1) ?_
    refine xc_cons (xh_eq_T rfl (XI_lit (by decide +kernel)) hk) ?_
    refine xc_cons (xh_lt_T (XI_lit (by decide +kernel)) rfl c1) ?_
    refine xc_cons (xh_lt_T rfl (XI_lit (by decide +kernel)) c5) ?_
    refine xc_cons (xh_lt_T (XI_lit (by decide +kernel)) rfl c6) ?_
    refine xc_cons (xh_lt_T rfl (XI_lit (by decide +kernel)) c7) ?_
    refine xc_cons (xh_le_T rfl (XI_lit (by decide +kernel)) c8) ?_
    refine xc_cons (xh_gt_T (XI_lit (by decide +kernel)) rfl c9) ?_
    exact xc_nil
  ·
    refine (Classical.em (XI r (.arg 1) ≤ (9999 : Int))).elim (fun (c10 : xhid (XI r (.arg 1) ≤ (9999 : Int))) => ?_) (fun (c10 : xhid (¬ (XI r (.arg 1) ≤ (9999 : Int)))) => ?_)
    ·
      have c11 : xhid (XI r (.div (.arg 1) (.int 1000)) = XI r (.arg 1) / 1000) := XI_div rfl (by decide +kernel) (by have z0 : ¬ (XI r (.arg 1) < (0 : Int)) := c5; have z1 : XI r (.arg 1) ≤ (9999 : Int) := c10; have z2 : -2147483648 ≤ XI r (.arg 1) := b1; have z3 : XI r (.arg 1) < 2147483648 := d1; omega) (by decide)
      have c12 : xhid (XI r (.rem (.div (.arg 1) (.int 1000)) (.int 10)) = XI r (.div (.arg 1) (.int 1000)) % 10) := XI_rem rfl (by decide +kernel) (by have z0 : ¬ (XI r (.arg 1) < (0 : Int)) := c5; have z1 : XI r (.arg 1) ≤ (9999 : Int) := c10; have z2 : XI r (.div (.arg 1) (.int 1000)) = XI r (.arg 1) / 1000 := c11; have z3 : -2147483648 ≤ XI r (.arg 1) := b1; have z4 : XI r (.arg 1) < 2147483648 := d1; omega) (by decide)
      refine (Classical.em (¬ XI r (.rem (.div (.arg 1) (.int 1000)) (.int 10)) = (0 : Int))).elim (fun (c13 : xhid (¬ XI r (.rem (.div (.arg 1) (.int 1000)) (.int 10)) = (0 : Int))) => ?_) (fun (c13 : xhid (¬ (¬ XI r (.rem (.div (.arg 1) (.int 1000)) (.int 10)) = (0 : Int)))) => ?_)
      ·
        have c14 : xhid (¬ (XI r (.rem (.div (.arg 1) (.int 1000)) (.int 10)) = (0 : Int))) := ((by have z0 : ¬ XI r (.rem (.div (.arg 1) (.int 1000)) (.int 10)) = (0 : Int) := c13; have z1 : XI r (.div (.arg 1) (.int 1000)) = XI r (.arg 1) / 1000 := c11; have z2 : XI r (.rem (.div (.arg 1) (.int 1000)) (.int 10)) = XI r (.div (.arg 1) (.int 1000)) % 10 := c12; have z3 : -2147483648 ≤ XI r (.arg 1) := b1; have z4 : XI r (.arg 1) < 2147483648 := d1; omega) : ¬ (XI r (.rem (.div (.arg 1) (.int 1000)) (.int 10)) = (0 : Int)))
        have c15 : xhid (¬ (XI r (.rem (.div (.arg 1) (.int 1000)) (.int 10)) ≤ (0 : Int))) := ((by have z0 : ¬ (XI r (.arg 1) < (0 : Int)) := c5; have z1 : ¬ (XI r (.rem (.div (.arg 1) (.int 1000)) (.int 10)) = (0 : Int)) := c14; have z2 : XI r (.div (.arg 1) (.int 1000)) = XI r (.arg 1) / 1000 := c11; have z3 : XI r (.rem (.div (.arg 1) (.int 1000)) (.int 10)) = XI r (.div (.arg 1) (.int 1000)) % 10 := c12; have z4 : -2147483648 ≤ XI r (.arg 1) := b1; have z5 : XI r (.arg 1) < 2147483648 := d1; omega) : ¬ (XI r (.rem (.div (.arg 1) (.int 1000)) (.int 10)) ≤ (0 : Int)))
        have c16 : xhid ((1 : Int) < XI r (.arg 49)) := ((by have z0 : (1 : Int) < XI r (.arg 49) := c1; omega) : (1 : Int) < XI r (.arg 49))
        have c17 : xhid (¬ (XI r (.arg 1) < (0 : Int))) := ((by have z0 : ¬ (XI r (.arg 1) < (0 : Int)) := c5; have z1 : -2147483648 ≤ XI r (.arg 1) := b1; have z2 : XI r (.arg 1) < 2147483648 := d1; omega) : ¬ (XI r (.arg 1) < (0 : Int)))
        have c18 : xhid (¬ ((9999 : Int) < XI r (.arg 1))) := ((by have z0 : XI r (.arg 1) ≤ (9999 : Int) := c10; have z1 : -2147483648 ≤ XI r (.arg 1) := b1; have z2 : XI r (.arg 1) < 2147483648 := d1; omega) : ¬ ((9999 : Int) < XI r (.arg 1)))
        have c19 : xhid (¬ (XI r (.arg 1) ≤ (0 : Int))) := ((by have z0 : ¬ (XI r (.arg 1) < (0 : Int)) := c17; have z1 : ¬ (XI r (.arg 1) = (0 : Int)) := c2; have z2 : -2147483648 ≤ XI r (.arg 1) := b1; have z3 : XI r (.arg 1) < 2147483648 := d1; omega) : ¬ (XI r (.arg 1) ≤ (0 : Int)))
        have c20 : xhid (XI r (.rem (.arg 1) (.int 10)) = XI r (.arg 1) % 10) := XI_rem rfl (by decide +kernel) (by have z0 : ¬ (XI r (.arg 1) < (0 : Int)) := c5; have z1 : XI r (.arg 1) ≤ (9999 : Int) := c10; have z2 : ¬ (XI r (.arg 1) < (0 : Int)) := c17; have z3 : ¬ ((9999 : Int) < XI r (.arg 1)) := c18; have z4 : ¬ (XI r (.arg 1) ≤ (0 : Int)) := c19; have z5 : -2147483648 ≤ XI r (.arg 1) := b1; have z6 : XI r (.arg 1) < 2147483648 := d1; omega) (by decide)
        have c21 : xhid (XI r (.sub (.rem (.arg 1) (.int 10)) (.int 1)) = XI r (.rem (.arg 1) (.int 10)) - (1 : Int)) := XI_sub rfl (XI_lit (by decide +kernel)) (by have z0 : ¬ (XI r (.arg 1) < (0 : Int)) := c5; have z1 : XI r (.arg 1) ≤ (9999 : Int) := c10; have z2 : ¬ (XI r (.arg 1) < (0 : Int)) := c17; have z3 : ¬ ((9999 : Int) < XI r (.arg 1)) := c18; have z4 : ¬ (XI r (.arg 1) ≤ (0 : Int)) := c19; have z5 : XI r (.rem (.arg 1) (.int 10)) = XI r (.arg 1) % 10 := c20; have z6 : -2147483648 ≤ XI r (.arg 1) := b1; have z7 : XI r (.arg 1) < 2147483648 := d1; omega) (by have z0 : ¬ (XI r (.arg 1) < (0 : Int)) := c5; have z1 : XI r (.arg 1) ≤ (9999 : Int) := c10; have z2 : ¬ (XI r (.arg 1) < (0 : Int)) := c17; have z3 : ¬ ((9999 : Int) < XI r (.arg 1)) := c18; have z4 : ¬ (XI r (.arg 1) ≤ (0 : Int)) := c19; have z5 : XI r (.rem (.arg 1) (.int 10)) = XI r (.arg 1) % 10 := c20; have z6 : -2147483648 ≤ XI r (.arg 1) := b1; have z7 : XI r (.arg 1) < 2147483648 := d1; omega)
        refine (Classical.em (XI r (.sub (.rem (.arg 1) (.int 10)) (.int 1)) < (0 : Int))).elim (fun (c22 : xhid (XI r (.sub (.rem (.arg 1) (.int 10)) (.int 1)) < (0 : Int))) => ?_) (fun (c22 : xhid (¬ (XI r (.sub (.rem (.arg 1) (.int 10)) (.int 1)) < (0 : Int)))) => ?_)
        ·
          have c23 : xhid (XI r (.div (.arg 1) (.int 10)) = XI r (.arg 1) / 10) := XI_div rfl (by decide +kernel) (by have z0 : ¬ (XI r (.arg 1) < (0 : Int)) := c5; have z1 : XI r (.arg 1) ≤ (9999 : Int) := c10; have z2 : ¬ (XI r (.arg 1) < (0 : Int)) := c17; have z3 : ¬ ((9999 : Int) < XI r (.arg 1)) := c18; have z4 : ¬ (XI r (.arg 1) ≤ (0 : Int)) := c19; have z5 : -2147483648 ≤ XI r (.arg 1) := b1; have z6 : XI r (.arg 1) < 2147483648 := d1; omega) (by decide)
          refine (Classical.em (XI r (.div (.arg 1) (.int 10)) ≤ (0 : Int))).elim (fun (c24 : xhid (XI r (.div (.arg 1) (.int 10)) ≤ (0 : Int))) => ?_) (fun (c24 : xhid (¬ (XI r (.div (.arg 1) (.int 10)) ≤ (0 : Int)))) => ?_)
          ·
            have c25 : xhid (XI r (.sub (.arg 49) (.int 6)) < (6 : Int)) := ((by omega) : XI r (.sub (.arg 49) (.int 6)) < (6 : Int))
            refine ⟨183, _, ?_, lf_15_2⟩
            refine xc_cons (xh_gt_F (XI_lit (by decide +kernel)) rfl h0) ?_
            refine xc_cons (xh_lt_T (XI_lit (by decide +kernel)) rfl h1) ?_
            refine xc_cons (xh_eq_T rfl (XI_lit (by decide +kernel)) hk) ?_
            refine xc_cons (xh_lt_T (XI_lit (by decide +kernel)) rfl c1) ?_
            refine xc_cons (xh_lt_F rfl (XI_lit (by decide +kernel)) c5) ?_
            refine xc_cons (xh_le_T rfl (XI_lit (by decide +kernel)) c10) ?_
            refine xc_cons (xh_ne_T rfl (XI_lit (by decide +kernel)) c13) ?_
            refine xc_cons (xh_eq_F rfl (XI_lit (by decide +kernel)) c14) ?_
            refine xc_cons (xh_le_F rfl (XI_lit (by decide +kernel)) c15) ?_
            refine xc_cons (xh_lt_T (XI_lit (by decide +kernel)) rfl c16) ?_
            refine xc_cons (xh_lt_F rfl (XI_lit (by decide +kernel)) c17) ?_
            refine xc_cons (xh_gt_F rfl (XI_lit (by decide +kernel)) c18) ?_
            refine xc_cons (xh_le_F rfl (XI_lit (by decide +kernel)) c19) ?_
            refine xc_cons (xh_lt_T rfl (XI_lit (by decide +kernel)) c22) ?_
            refine xc_cons (xh_le_T rfl (XI_lit (by decide +kernel)) c24) ?_
            refine xc_cons (xh_gt_T (XI_lit (by decide +kernel)) rfl c25) ?_
            exact xc_nil
          ·
            have c26 : xhid (XI r (.sub (.arg 49) (.int 6)) < (6 : Int)) := ((by omega) : XI r (.sub (.arg 49) (.int 6)) < (6 : Int))
            refine ⟨185, _, ?_, lf_15_3⟩
            refine xc_cons (xh_gt_F (XI_lit (by decide +kernel)) rfl h0) ?_
            refine xc_cons (xh_lt_T (XI_lit (by decide +kernel)) rfl h1) ?_
            refine xc_cons (xh_eq_T rfl (XI_lit (by decide +kernel)) hk) ?_
            refine xc_cons (xh_lt_T (XI_lit (by decide +kernel)) rfl c1) ?_
            refine xc_cons (xh_lt_F rfl (XI_lit (by decide +kernel)) c5) ?_
            refine xc_cons (xh_le_T rfl (XI_lit (by decide +kernel)) c10) ?_
            refine xc_cons (xh_ne_T rfl (XI_lit (by decide +kernel)) c13) ?_
            refine xc_cons (xh_eq_F rfl (XI_lit (by decide +kernel)) c14) ?_
            refine xc_cons (xh_le_F rfl (XI_lit (by decide +kernel)) c15) ?_
            refine xc_cons (xh_lt_T (XI_lit (by decide +kernel)) rfl c16) ?_
            refine xc_cons (xh_lt_F rfl (XI_lit (by decide +kernel)) c17) ?_
            refine xc_cons (xh_gt_F rfl (XI_lit (by decide +kernel)) c18) ?_
            refine xc_cons (xh_le_F rfl (XI_lit (by decide +kernel)) c19) ?_
            refine xc_cons (xh_lt_T rfl (XI_lit (by decide +kernel)) c22) ?_
            refine xc_cons (xh_le_F rfl (XI_lit (by decide +kernel)) c24) ?_
            refine xc_cons (xh_gt_T (XI_lit (by decide +kernel)) rfl c26) ?_
            exact xc_nil
        ·
          have c27 : xhid ((-1 : Int) < XI r (.sub (.rem (.arg 1) (.int 10)) (.int 1))) := ((by have z0 : ¬ (XI r (.sub (.rem (.arg 1) (.int 10)) (.int 1)) < (0 : Int)) := c22; have z1 : XI r (.rem (.arg 1) (.int 10)) = XI r (.arg 1) % 10 := c20; have z2 : XI r (.sub (.rem (.arg 1) (.int 10)) (.int 1)) = XI r (.rem (.arg 1) (.int 10)) - (1 : Int) := c21; have z3 : -2147483648 ≤ XI r (.arg 1) := b1; have z4 : XI r (.arg 1) < 2147483648 := d1; omega) : (-1 : Int) < XI r (.sub (.rem (.arg 1) (.int 10)) (.int 1)))
          have c28 : xhid (XI r (.div (.arg 1) (.int 10)) = XI r (.arg 1) / 10) := XI_div rfl (by decide +kernel) (by have z0 : ¬ (XI r (.arg 1) < (0 : Int)) := c5; have z1 : XI r (.arg 1) ≤ (9999 : Int) := c10; have z2 : ¬ (XI r (.arg 1) < (0 : Int)) := c17; have z3 : ¬ ((9999 : Int) < XI r (.arg 1)) := c18; have z4 : ¬ (XI r (.arg 1) ≤ (0 : Int)) := c19; have z5 : -2147483648 ≤ XI r (.arg 1) := b1; have z6 : XI r (.arg 1) < 2147483648 := d1; omega) (by decide)
          refine (Classical.em (XI r (.div (.arg 1) (.int 10)) ≤ (0 : Int))).elim (fun (c29 : xhid (XI r (.div (.arg 1) (.int 10)) ≤ (0 : Int))) => ?_) (fun (c29 : xhid (¬ (XI r (.div (.arg 1) (.int 10)) ≤ (0 : Int)))) => ?_)
          ·
            have c30 : xhid (XI r (.sub (.arg 49) (.int 6)) < (6 : Int)) := ((by omega) : XI r (.sub (.arg 49) (.int 6)) < (6 : Int))
            refine ⟨186, _, ?_, lf_15_4⟩
            refine xc_cons (xh_gt_F (XI_lit (by decide +kernel)) rfl h0) ?_
            refine xc_cons (xh_lt_T (XI_lit (by decide +kernel)) rfl h1) ?_
            refine xc_cons (xh_eq_T rfl (XI_lit (by decide +kernel)) hk) ?_
            refine xc_cons (xh_lt_T (XI_lit (by decide +kernel)) rfl c1) ?_
            refine xc_cons (xh_lt_F rfl (XI_lit (by decide +kernel)) c5) ?_
            refine xc_cons (xh_le_T rfl (XI_lit (by decide +kernel)) c10) ?_
            refine xc_cons (xh_ne_T rfl (XI_lit (by decide +kernel)) c13) ?_
            refine xc_cons (xh_eq_F rfl (XI_lit (by decide +kernel)) c14) ?_
            refine xc_cons (xh_le_F rfl (XI_lit (by decide +kernel)) c15) ?_
            refine xc_cons (xh_lt_T (XI_lit (by decide +kernel)) rfl c16) ?_
            refine xc_cons (xh_lt_F rfl (XI_lit (by decide +kernel)) c17) ?_
            refine xc_cons (xh_gt_F rfl (XI_lit (by decide +kernel)) c18) ?_
            refine xc_cons (xh_le_F rfl (XI_lit (by decide +kernel)) c19) ?_
            refine xc_cons (xh_lt_F rfl (XI_lit (by decide +kernel)) c22) ?_
            refine xc_cons (xh_gt_T rfl (XI_lit (by decide +kernel)) c27) ?_
            refine xc_cons (xh_le_T rfl (XI_lit (by decide +kernel)) c29) ?_
            refine xc_cons (xh_gt_T (XI_lit (by decide +kernel)) rfl c30) ?_
            exact xc_nil
          ·
            have c31 : xhid (XI r (.sub (.arg 49) (.int 6)) < (6 : Int)) := ((by omega) : XI r (.sub (.arg 49) (.int 6)) < (6 : Int))
            refine ⟨188, _, ?_, lf_15_5⟩
            refine xc_cons (xh_gt_F (XI_lit (by decide +kernel)) rfl h0) ?_
            refine xc_cons (xh_lt_T (XI_lit (by decide +kernel)) rfl h1) ?_
            refine xc_cons (xh_eq_T rfl (XI_lit (by decide +kernel)) hk) ?_
            refine xc_cons (xh_lt_T (XI_lit (by decide +kernel)) rfl c1) ?_
            refine xc_cons (xh_lt_F rfl (XI_lit (by decide +kernel)) c5) ?_
            refine xc_cons (xh_le_T rfl (XI_lit (by decide +kernel)) c10) ?_
            refine xc_cons (xh_ne_T rfl (XI_lit (by decide +kernel)) c13) ?_
            refine xc_cons (xh_eq_F rfl (XI_lit (by decide +kernel)) c14) ?_
            refine xc_cons (xh_le_F rfl (XI_lit (by decide +kernel)) c15) ?_
            refine xc_cons (xh_lt_T (XI_lit (by decide +kernel)) rfl c16) ?_
            refine xc_cons (xh_lt_F rfl (XI_lit (by decide +kernel)) c17) ?_
            refine xc_cons (xh_gt_F rfl (XI_lit (by decide +kernel)) c18) ?_
            refine xc_cons (xh_le_F rfl (XI_lit (by decide +kernel)) c19) ?_
            refine xc_cons (xh_lt_F rfl (XI_lit (by decide +kernel)) c22) ?_
            refine xc_cons (xh_gt_T rfl (XI_lit (by decide +kernel)) c27) ?_
            refine xc_cons (xh_le_F rfl (XI_lit (by decide +kernel)) c29) ?_
            refine xc_cons (xh_gt_T (XI_lit (by decide +kernel)) rfl c31) ?_
            exact xc_nil
      ·
        have c32 : xhid (XI r (.div (.arg 1) (.int 100)) = XI r (.arg 1) / 100) := XI_div rfl (by decide +kernel) (by have z0 : ¬ (XI r (.arg 1) < (0 : Int)) := c5; have z1 : XI r (.arg 1) ≤ (9999 : Int) := c10; have z2 : -2147483648 ≤ XI r (.arg 1) := b1; have z3 : XI r (.arg 1) < 2147483648 := d1; omega) (by decide)
        have c33 : xhid (XI r (.rem (.div (.arg 1) (.int 100)) (.int 10)) = XI r (.div (.arg 1) (.int 100)) % 10) := XI_rem rfl (by decide +kernel) (by have z0 : ¬ (XI r (.arg 1) < (0 : Int)) := c5; have z1 : XI r (.arg 1) ≤ (9999 : Int) := c10; have z2 : XI r (.div (.arg 1) (.int 100)) = XI r (.arg 1) / 100 := c32; have z3 : -2147483648 ≤ XI r (.arg 1) := b1; have z4 : XI r (.arg 1) < 2147483648 := d1; omega) (by decide)
        refine (Classical.em (¬ XI r (.rem (.div (.arg 1) (.int 100)) (.int 10)) = (0 : Int))).elim (fun (c34 : xhid (¬ XI r (.rem (.div (.arg 1) (.int 100)) (.int 10)) = (0 : Int))) => ?_) (fun (c34 : xhid (¬ (¬ XI r (.rem (.div (.arg 1) (.int 100)) (.int 10)) = (0 : Int)))) => ?_)
        ·
          have c35 : xhid (¬ (XI r (.rem (.div (.arg 1) (.int 100)) (.int 10)) = (0 : Int))) := ((by have z0 : ¬ XI r (.rem (.div (.arg 1) (.int 100)) (.int 10)) = (0 : Int) := c34; have z1 : XI r (.div (.arg 1) (.int 100)) = XI r (.arg 1) / 100 := c32; have z2 : XI r (.rem (.div (.arg 1) (.int 100)) (.int 10)) = XI r (.div (.arg 1) (.int 100)) % 10 := c33; have z3 : -2147483648 ≤ XI r (.arg 1) := b1; have z4 : XI r (.arg 1) < 2147483648 := d1; omega) : ¬ (XI r (.rem (.div (.arg 1) (.int 100)) (.int 10)) = (0 : Int)))
          have c36 : xhid (¬ (XI r (.rem (.div (.arg 1) (.int 100)) (.int 10)) ≤ (0 : Int))) := ((by have z0 : ¬ (XI r (.arg 1) < (0 : Int)) := c5; have z1 : ¬ (XI r (.rem (.div (.arg 1) (.int 100)) (.int 10)) = (0 : Int)) := c35; have z2 : XI r (.div (.arg 1) (.int 100)) = XI r (.arg 1) / 100 := c32; have z3 : XI r (.rem (.div (.arg 1) (.int 100)) (.int 10)) = XI r (.div (.arg 1) (.int 100)) % 10 := c33; have z4 : -2147483648 ≤ XI r (.arg 1) := b1; have z5 : XI r (.arg 1) < 2147483648 := d1; omega) : ¬ (XI r (.rem (.div (.arg 1) (.int 100)) (.int 10)) ≤ (0 : Int)))
          have c37 : xhid ((1 : Int) < XI r (.arg 49)) := ((by have z0 : (1 : Int) < XI r (.arg 49) := c1; omega) : (1 : Int) < XI r (.arg 49))
          have c38 : xhid (¬ (XI r (.arg 1) < (0 : Int))) := ((by have z0 : ¬ (XI r (.arg 1) < (0 : Int)) := c5; have z1 : -2147483648 ≤ XI r (.arg 1) := b1; have z2 : XI r (.arg 1) < 2147483648 := d1; omega) : ¬ (XI r (.arg 1) < (0 : Int)))
          have c39 : xhid (¬ ((9999 : Int) < XI r (.arg 1))) := ((by have z0 : XI r (.arg 1) ≤ (9999 : Int) := c10; have z1 : -2147483648 ≤ XI r (.arg 1) := b1; have z2 : XI r (.arg 1) < 2147483648 := d1; omega) : ¬ ((9999 : Int) < XI r (.arg 1)))
          have c40 : xhid (¬ (XI r (.arg 1) ≤ (0 : Int))) := ((by have z0 : ¬ (XI r (.arg 1) < (0 : Int)) := c38; have z1 : ¬ (XI r (.arg 1) = (0 : Int)) := c2; have z2 : -2147483648 ≤ XI r (.arg 1) := b1; have z3 : XI r (.arg 1) < 2147483648 := d1; omega) : ¬ (XI r (.arg 1) ≤ (0 : Int)))
          have c41 : xhid (XI r (.rem (.arg 1) (.int 10)) = XI r (.arg 1) % 10) := XI_rem rfl (by decide +kernel) (by have z0 : ¬ (XI r (.arg 1) < (0 : Int)) := c5; have z1 : XI r (.arg 1) ≤ (9999 : Int) := c10; have z2 : ¬ (XI r (.arg 1) < (0 : Int)) := c38; have z3 : ¬ ((9999 : Int) < XI r (.arg 1)) := c39; have z4 : ¬ (XI r (.arg 1) ≤ (0 : Int)) := c40; have z5 : -2147483648 ≤ XI r (.arg 1) := b1; have z6 : XI r (.arg 1) < 2147483648 := d1; omega) (by decide)
          have c42 : xhid (XI r (.sub (.rem (.arg 1) (.int 10)) (.int 1)) = XI r (.rem (.arg 1) (.int 10)) - (1 : Int)) := XI_sub rfl (XI_lit (by decide +kernel)) (by have z0 : ¬ (XI r (.arg 1) < (0 : Int)) := c5; have z1 : XI r (.arg 1) ≤ (9999 : Int) := c10; have z2 : ¬ (XI r (.arg 1) < (0 : Int)) := c38; have z3 : ¬ ((9999 : Int) < XI r (.arg 1)) := c39; have z4 : ¬ (XI r (.arg 1) ≤ (0 : Int)) := c40; have z5 : XI r (.rem (.arg 1) (.int 10)) = XI r (.arg 1) % 10 := c41; have z6 : -2147483648 ≤ XI r (.arg 1) := b1; have z7 : XI r (.arg 1) < 2147483648 := d1; omega) (by have z0 : ¬ (XI r (.arg 1) < (0 : Int)) := c5; have z1 : XI r (.arg 1) ≤ (9999 : Int) := c10; have z2 : ¬ (XI r (.arg 1) < (0 : Int)) := c38; have z3 : ¬ ((9999 : Int) < XI r (.arg 1)) := c39; have z4 : ¬ (XI r (.arg 1) ≤ (0 : Int)) := c40; have z5 : XI r (.rem (.arg 1) (.int 10)) = XI r (.arg 1) % 10 := c41; have z6 : -2147483648 ≤ XI r (.arg 1) := b1; have z7 : XI r (.arg 1) < 2147483648 := d1; omega)
          refine (Classical.em (XI r (.sub (.rem (.arg 1) (.int 10)) (.int 1)) < (0 : Int))).elim (fun (c43 : xhid (XI r (.sub (.rem (.arg 1) (.int 10)) (.int 1)) < (0 : Int))) => ?_) (fun (c43 : xhid (¬ (XI r (.sub (.rem (.arg 1) (.int 10)) (.int 1)) < (0 : Int)))) => ?_)
          ·
            have c44 : xhid (XI r (.div (.arg 1) (.int 10)) = XI r (.arg 1) / 10) := XI_div rfl (by decide +kernel) (by have z0 : ¬ (XI r (.arg 1) < (0 : Int)) := c5; have z1 : XI r (.arg 1) ≤ (9999 : Int) := c10; have z2 : ¬ (XI r (.arg 1) < (0 : Int)) := c38; have z3 : ¬ ((9999 : Int) < XI r (.arg 1)) := c39; have z4 : ¬ (XI r (.arg 1) ≤ (0 : Int)) := c40; have z5 : -2147483648 ≤ XI r (.arg 1) := b1; have z6 : XI r (.arg 1) < 2147483648 := d1; omega) (by decide)
            refine (Classical.em (XI r (.div (.arg 1) (.int 10)) ≤ (0 : Int))).elim (fun (c45 : xhid (XI r (.div (.arg 1) (.int 10)) ≤ (0 : Int))) => ?_) (fun (c45 : xhid (¬ (XI r (.div (.arg 1) (.int 10)) ≤ (0 : Int)))) => ?_)
            ·
              have c46 : xhid (XI r (.sub (.arg 49) (.int 6)) < (6 : Int)) := ((by omega) : XI r (.sub (.arg 49) (.int 6)) < (6 : Int))
              refine ⟨202, _, ?_, lf_15_6⟩
              refine xc_cons (xh_gt_F (XI_lit (by decide +kernel)) rfl h0) ?_
              refine xc_cons (xh_lt_T (XI_lit (by decide +kernel)) rfl h1) ?_
              refine xc_cons (xh_eq_T rfl (XI_lit (by decide +kernel)) hk) ?_
              refine xc_cons (xh_lt_T (XI_lit (by decide +kernel)) rfl c1) ?_
              refine xc_cons (xh_lt_F rfl (XI_lit (by decide +kernel)) c5) ?_
              refine xc_cons (xh_le_T rfl (XI_lit (by decide +kernel)) c10) ?_
              refine xc_cons (xh_ne_F rfl (XI_lit (by decide +kernel)) c13) ?_
              refine xc_cons (xh_ne_T rfl (XI_lit (by decide +kernel)) c34) ?_
              refine xc_cons (xh_eq_F rfl (XI_lit (by decide +kernel)) c35) ?_
              refine xc_cons (xh_le_F rfl (XI_lit (by decide +kernel)) c36) ?_
              refine xc_cons (xh_lt_T (XI_lit (by decide +kernel)) rfl c37) ?_
              refine xc_cons (xh_lt_F rfl (XI_lit (by decide +kernel)) c38) ?_
              refine xc_cons (xh_gt_F rfl (XI_lit (by decide +kernel)) c39) ?_
              refine xc_cons (xh_le_F rfl (XI_lit (by decide +kernel)) c40) ?_
              refine xc_cons (xh_lt_T rfl (XI_lit (by decide +kernel)) c43) ?_
              refine xc_cons (xh_le_T rfl (XI_lit (by decide +kernel)) c45) ?_
              refine xc_cons (xh_gt_T (XI_lit (by decide +kernel)) rfl c46) ?_
              exact xc_nil
            ·
              have c47 : xhid (XI r (.sub (.arg 49) (.int 6)) < (6 : Int)) := ((by omega) : XI r (.sub (.arg 49) (.int 6)) < (6 : Int))
              refine ⟨204, _, ?_, lf_15_7⟩
              refine xc_cons (xh_gt_F (XI_lit (by decide +kernel)) rfl h0) ?_
              refine xc_cons (xh_lt_T (XI_lit (by decide +kernel)) rfl h1) ?_
              refine xc_cons (xh_eq_T rfl (XI_lit (by decide +kernel)) hk) ?_
              refine xc_cons (xh_lt_T (XI_lit (by decide +kernel)) rfl c1) ?_
              refine xc_cons (xh_lt_F rfl (XI_lit (by decide +kernel)) c5) ?_
              refine xc_cons (xh_le_T rfl (XI_lit (by decide +kernel)) c10) ?_
              refine xc_cons (xh_ne_F rfl (XI_lit (by decide +kernel)) c13) ?_
              refine xc_cons (xh_ne_T rfl (XI_lit (by decide +kernel)) c34) ?_
              refine xc_cons (xh_eq_F rfl (XI_lit (by decide +kernel)) c35) ?_
              refine xc_cons (xh_le_F rfl (XI_lit (by decide +kernel)) c36) ?_
              refine xc_cons (xh_lt_T (XI_lit (by decide +kernel)) rfl c37) ?_
              refine xc_cons (xh_lt_F rfl (XI_lit (by decide +kernel)) c38) ?_
              refine xc_cons (xh_gt_F rfl (XI_lit (by decide +kernel)) c39) ?_
              refine xc_cons (xh_le_F rfl (XI_lit (by decide +kernel)) c40) ?_
              refine xc_cons (xh_lt_T rfl (XI_lit (by decide +kernel)) c43) ?_
              refine xc_cons (xh_le_F rfl (XI_lit (by decide +kernel)) c45) ?_
              refine xc_cons (xh_gt_T (XI_lit (by decide +kernel)) rfl c47) ?_
              exact xc_nil
          ·
            have c48 : xhid ((-1 : Int) < XI r (.sub (.rem (.arg 1) (.int 10)) (.int 1))) := ((by have z0 : ¬ (XI r (.sub (.rem (.arg 1) (.int 10)) (.int 1)) < (0 : Int)) := c43; have z1 : XI r (.rem (.arg 1) (.int 10)) = XI r (.arg 1) % 10 := c41; have z2 : XI r (.sub (.rem (.arg 1) (.int 10)) (.int 1)) = XI r (.rem (.arg 1) (.int 10)) - (1 : Int) := c42; have z3 : -2147483648 ≤ XI r (.arg 1) := b1; have z4 : XI r (.arg 1) < 2147483648 := d1; omega) : (-1 : Int) < XI r (.sub (.rem (.arg 1) (.int 10)) (.int 1)))
            have c49 : xhid (XI r (.div (.arg 1) (.int 10)) = XI r (.arg 1) / 10) := XI_div rfl (by decide +kernel) (by have z0 : ¬ (XI r (.arg 1) < (0 : Int)) := c5; have z1 : XI r (.arg 1) ≤ (9999 : Int) := c10; have z2 : ¬ (XI r (.arg 1) < (0 : Int)) := c38; have z3 : ¬ ((9999 : Int) < XI r (.arg 1)) := c39; have z4 : ¬ (XI r (.arg 1) ≤ (0 : Int)) := c40; have z5 : -2147483648 ≤ XI r (.arg 1) := b1; have z6 : XI r (.arg 1) < 2147483648 := d1; omega) (by decide)
            refine (Classical.em (XI r (.div (.arg 1) (.int 10)) ≤ (0 : Int))).elim (fun (c50 : xhid (XI r (.div (.arg 1) (.int 10)) ≤ (0 : Int))) => ?_) (fun (c50 : xhid (¬ (XI r (.div (.arg 1) (.int 10)) ≤ (0 : Int)))) => ?_)
            ·
              have c51 : xhid (XI r (.sub (.arg 49) (.int 6)) < (6 : Int)) := ((by omega) : XI r (.sub (.arg 49) (.int 6)) < (6 : Int))
              refine ⟨205, _, ?_, lf_15_8⟩
              refine xc_cons (xh_gt_F (XI_lit (by decide +kernel)) rfl h0) ?_
              refine xc_cons (xh_lt_T (XI_lit (by decide +kernel)) rfl h1) ?_
              refine xc_cons (xh_eq_T rfl (XI_lit (by decide +kernel)) hk) ?_
              refine xc_cons (xh_lt_T (XI_lit (by decide +kernel)) rfl c1) ?_
              refine xc_cons (xh_lt_F rfl (XI_lit (by decide +kernel)) c5) ?_
              refine xc_cons (xh_le_T rfl (XI_lit (by decide +kernel)) c10) ?_
              refine xc_cons (xh_ne_F rfl (XI_lit (by decide +kernel)) c13) ?_
              refine xc_cons (xh_ne_T rfl (XI_lit (by decide +kernel)) c34) ?_
              refine xc_cons (xh_eq_F rfl (XI_lit (by decide +kernel)) c35) ?_
              refine xc_cons (xh_le_F rfl (XI_lit (by decide +kernel)) c36) ?_
              refine xc_cons (xh_lt_T (XI_lit (by decide +kernel)) rfl c37) ?_
              refine xc_cons (xh_lt_F rfl (XI_lit (by decide +kernel)) c38) ?_
              refine xc_cons (xh_gt_F rfl (XI_lit (by decide +kernel)) c39) ?_
              refine xc_cons (xh_le_F rfl (XI_lit (by decide +kernel)) c40) ?_
              refine xc_cons (xh_lt_F rfl (XI_lit (by decide +kernel)) c43) ?_
              refine xc_cons (xh_gt_T rfl (XI_lit (by decide +kernel)) c48) ?_
              refine xc_cons (xh_le_T rfl (XI_lit (by decide +kernel)) c50) ?_
              refine xc_cons (xh_gt_T (XI_lit (by decide +kernel)) rfl c51) ?_
              exact xc_nil
            ·
              have c52 : xhid (XI r (.sub (.arg 49) (.int 6)) < (6 : Int)) := ((by omega) : XI r (.sub (.arg 49) (.int 6)) < (6 : Int))
              refine ⟨207, _, ?_, lf_15_9⟩
              refine xc_cons (xh_gt_F (XI_lit (by decide +kernel)) rfl h0) ?_
              refine xc_cons (xh_lt_T (XI_lit (by decide +kernel)) rfl h1) ?_
              refine xc_cons (xh_eq_T rfl (XI_lit (by decide +kernel)) hk) ?_
              refine xc_cons (xh_lt_T (XI_lit (by decide +kernel)) rfl c1) ?_
              refine xc_cons (xh_lt_F rfl (XI_lit (by decide +kernel)) c5) ?_
              refine xc_cons (xh_le_T rfl (XI_lit (by decide +kernel)) c10) ?_
              refine xc_cons (xh_ne_F rfl (XI_lit (by decide +kernel)) c13) ?_
              refine xc_cons (xh_ne_T rfl (XI_lit (by decide +kernel)) c34) ?_
              refine xc_cons (xh_eq_F rfl (XI_lit (by decide +kernel)) c35) ?_
              refine xc_cons (xh_le_F rfl (XI_lit (by decide +kernel)) c36) ?_
              refine xc_cons (xh_lt_T (XI_lit (by decide +kernel)) rfl c37) ?_
              refine xc_cons (xh_lt_F rfl (XI_lit (by decide +kernel)) c38) ?_
              refine xc_cons (xh_gt_F rfl (XI_lit (by decide +kernel)) c39) ?_
              refine xc_cons (xh_le_F rfl (XI_lit (by decide +kernel)) c40) ?_
              refine xc_cons (xh_lt_F rfl (XI_lit (by decide +kernel)) c43) ?_
              refine xc_cons (xh_gt_T rfl (XI_lit (by decide +kernel)) c48) ?_
              refine xc_cons (xh_le_F rfl (XI_lit (by decide +kernel)) c50) ?_
              refine xc_cons (xh_gt_T (XI_lit (by decide +kernel)) rfl c52) ?_
              exact xc_nil
        ·
          have c53 : xhid (XI r (.div (.arg 1) (.int 10)) = XI r (.arg 1) / 10) := XI_div rfl (by decide +kernel) (by have z0 : ¬ (XI r (.arg 1) < (0 : Int)) := c5; have z1 : XI r (.arg 1) ≤ (9999 : Int) := c10; have z2 : -2147483648 ≤ XI r (.arg 1) := b1; have z3 : XI r (.arg 1) < 2147483648 := d1; omega) (by decide)
          have c54 : xhid (XI r (.rem (.div (.arg 1) (.int 10)) (.int 10)) = XI r (.div (.arg 1) (.int 10)) % 10) := XI_rem rfl (by decide +kernel) (by have z0 : ¬ (XI r (.arg 1) < (0 : Int)) := c5; have z1 : XI r (.arg 1) ≤ (9999 : Int) := c10; have z2 : XI r (.div (.arg 1) (.int 10)) = XI r (.arg 1) / 10 := c53; have z3 : -2147483648 ≤ XI r (.arg 1) := b1; have z4 : XI r (.arg 1) < 2147483648 := d1; omega) (by decide)
          refine (Classical.em (¬ XI r (.rem (.div (.arg 1) (.int 10)) (.int 10)) = (0 : Int))).elim (fun (c55 : xhid (¬ XI r (.rem (.div (.arg 1) (.int 10)) (.int 10)) = (0 : Int))) => ?_) (fun (c55 : xhid (¬ (¬ XI r (.rem (.div (.arg 1) (.int 10)) (.int 10)) = (0 : Int)))) => ?_)
          ·
            have c56 : xhid (¬ (XI r (.rem (.div (.arg 1) (.int 10)) (.int 10)) = (0 : Int))) := ((by have z0 : ¬ XI r (.rem (.div (.arg 1) (.int 10)) (.int 10)) = (0 : Int) := c55; have z1 : XI r (.div (.arg 1) (.int 10)) = XI r (.arg 1) / 10 := c53; have z2 : XI r (.rem (.div (.arg 1) (.int 10)) (.int 10)) = XI r (.div (.arg 1) (.int 10)) % 10 := c54; have z3 : -2147483648 ≤ XI r (.arg 1) := b1; have z4 : XI r (.arg 1) < 2147483648 := d1; omega) : ¬ (XI r (.rem (.div (.arg 1) (.int 10)) (.int 10)) = (0 : Int)))
            have c57 : xhid (¬ (XI r (.rem (.div (.arg 1) (.int 10)) (.int 10)) ≤ (0 : Int))) := ((by have z0 : ¬ (XI r (.arg 1) < (0 : Int)) := c5; have z1 : ¬ (XI r (.rem (.div (.arg 1) (.int 10)) (.int 10)) = (0 : Int)) := c56; have z2 : XI r (.div (.arg 1) (.int 10)) = XI r (.arg 1) / 10 := c53; have z3 : XI r (.rem (.div (.arg 1) (.int 10)) (.int 10)) = XI r (.div (.arg 1) (.int 10)) % 10 := c54; have z4 : -2147483648 ≤ XI r (.arg 1) := b1; have z5 : XI r (.arg 1) < 2147483648 := d1; omega) : ¬ (XI r (.rem (.div (.arg 1) (.int 10)) (.int 10)) ≤ (0 : Int)))
            have c58 : xhid ((1 : Int) < XI r (.arg 49)) := ((by have z0 : (1 : Int) < XI r (.arg 49) := c1; omega) : (1 : Int) < XI r (.arg 49))
            have c59 : xhid (¬ (XI r (.arg 1) < (0 : Int))) := ((by have z0 : ¬ (XI r (.arg 1) < (0 : Int)) := c5; have z1 : -2147483648 ≤ XI r (.arg 1) := b1; have z2 : XI r (.arg 1) < 2147483648 := d1; omega) : ¬ (XI r (.arg 1) < (0 : Int)))
            have c60 : xhid (¬ ((9999 : Int) < XI r (.arg 1))) := ((by have z0 : XI r (.arg 1) ≤ (9999 : Int) := c10; have z1 : -2147483648 ≤ XI r (.arg 1) := b1; have z2 : XI r (.arg 1) < 2147483648 := d1; omega) : ¬ ((9999 : Int) < XI r (.arg 1)))
            have c61 : xhid (¬ (XI r (.arg 1) ≤ (0 : Int))) := ((by have z0 : ¬ (XI r (.arg 1) < (0 : Int)) := c59; have z1 : ¬ (XI r (.arg 1) = (0 : Int)) := c2; have z2 : -2147483648 ≤ XI r (.arg 1) := b1; have z3 : XI r (.arg 1) < 2147483648 := d1; omega) : ¬ (XI r (.arg 1) ≤ (0 : Int)))
            have c62 : xhid (XI r (.rem (.arg 1) (.int 10)) = XI r (.arg 1) % 10) := XI_rem rfl (by decide +kernel) (by have z0 : ¬ (XI r (.arg 1) < (0 : Int)) := c5; have z1 : XI r (.arg 1) ≤ (9999 : Int) := c10; have z2 : ¬ (XI r (.arg 1) < (0 : Int)) := c59; have z3 : ¬ ((9999 : Int) < XI r (.arg 1)) := c60; have z4 : ¬ (XI r (.arg 1) ≤ (0 : Int)) := c61; have z5 : -2147483648 ≤ XI r (.arg 1) := b1; have z6 : XI r (.arg 1) < 2147483648 := d1; omega) (by decide)
            have c63 : xhid (XI r (.sub (.rem (.arg 1) (.int 10)) (.int 1)) = XI r (.rem (.arg 1) (.int 10)) - (1 : Int)) := XI_sub rfl (XI_lit (by decide +kernel)) (by have z0 : ¬ (XI r (.arg 1) < (0 : Int)) := c5; have z1 : XI r (.arg 1) ≤ (9999 : Int) := c10; have z2 : ¬ (XI r (.arg 1) < (0 : Int)) := c59; have z3 : ¬ ((9999 : Int) < XI r (.arg 1)) := c60; have z4 : ¬ (XI r (.arg 1) ≤ (0 : Int)) := c61; have z5 : XI r (.rem (.arg 1) (.int 10)) = XI r (.arg 1) % 10 := c62; have z6 : -2147483648 ≤ XI r (.arg 1) := b1; have z7 : XI r (.arg 1) < 2147483648 := d1; omega) (by have z0 : ¬ (XI r (.arg 1) < (0 : Int)) := c5; have z1 : XI r (.arg 1) ≤ (9999 : Int) := c10; have z2 : ¬ (XI r (.arg 1) < (0 : Int)) := c59; have z3 : ¬ ((9999 : Int) < XI r (.arg 1)) := c60; have z4 : ¬ (XI r (.arg 1) ≤ (0 : Int)) := c61; have z5 : XI r (.rem (.arg 1) (.int 10)) = XI r (.arg 1) % 10 := c62; have z6 : -2147483648 ≤ XI r (.arg 1) := b1; have z7 : XI r (.arg 1) < 2147483648 := d1; omega)
            refine (Classical.em (XI r (.sub (.rem (.arg 1) (.int 10)) (.int 1)) < (0 : Int))).elim (fun (c64 : xhid (XI r (.sub (.rem (.arg 1) (.int 10)) (.int 1)) < (0 : Int))) => ?_) (fun (c64 : xhid (¬ (XI r (.sub (.rem (.arg 1) (.int 10)) (.int 1)) < (0 : Int)))) => ?_)
            ·
              have c65 : xhid (¬ (XI r (.div (.arg 1) (.int 10)) ≤ (0 : Int))) := ((by have z0 : ¬ (XI r (.rem (.div (.arg 1) (.int 10)) (.int 10)) ≤ (0 : Int)) := c57; have z1 : ¬ (XI r (.arg 1) ≤ (0 : Int)) := c61; have z2 : XI r (.div (.arg 1) (.int 10)) = XI r (.arg 1) / 10 := c53; have z3 : XI r (.rem (.div (.arg 1) (.int 10)) (.int 10)) = XI r (.div (.arg 1) (.int 10)) % 10 := c54; have z4 : -2147483648 ≤ XI r (.arg 1) := b1; have z5 : XI r (.arg 1) < 2147483648 := d1; omega) : ¬ (XI r (.div (.arg 1) (.int 10)) ≤ (0 : Int)))
              have c66 : xhid (XI r (.sub (.arg 49) (.int 6)) < (6 : Int)) := ((by omega) : XI r (.sub (.arg 49) (.int 6)) < (6 : Int))
              refine ⟨223, _, ?_, lf_15_10⟩
              refine xc_cons (xh_gt_F (XI_lit (by decide +kernel)) rfl h0) ?_
              refine xc_cons (xh_lt_T (XI_lit (by decide +kernel)) rfl h1) ?_
              refine xc_cons (xh_eq_T rfl (XI_lit (by decide +kernel)) hk) ?_
              refine xc_cons (xh_lt_T (XI_lit (by decide +kernel)) rfl c1) ?_
              refine xc_cons (xh_lt_F rfl (XI_lit (by decide +kernel)) c5) ?_
              refine xc_cons (xh_le_T rfl (XI_lit (by decide +kernel)) c10) ?_
              refine xc_cons (xh_ne_F rfl (XI_lit (by decide +kernel)) c13) ?_
              refine xc_cons (xh_ne_F rfl (XI_lit (by decide +kernel)) c34) ?_
              refine xc_cons (xh_ne_T rfl (XI_lit (by decide +kernel)) c55) ?_
              refine xc_cons (xh_eq_F rfl (XI_lit (by decide +kernel)) c56) ?_
              refine xc_cons (xh_le_F rfl (XI_lit (by decide +kernel)) c57) ?_
              refine xc_cons (xh_lt_T (XI_lit (by decide +kernel)) rfl c58) ?_
              refine xc_cons (xh_lt_F rfl (XI_lit (by decide +kernel)) c59) ?_
              refine xc_cons (xh_gt_F rfl (XI_lit (by decide +kernel)) c60) ?_
              refine xc_cons (xh_le_F rfl (XI_lit (by decide +kernel)) c61) ?_
              refine xc_cons (xh_lt_T rfl (XI_lit (by decide +kernel)) c64) ?_
              refine xc_cons (xh_le_F rfl (XI_lit (by decide +kernel)) c65) ?_
              refine xc_cons (xh_gt_T (XI_lit (by decide +kernel)) rfl c66) ?_
              exact xc_nil
            ·
              have c67 : xhid ((-1 : Int) < XI r (.sub (.rem (.arg 1) (.int 10)) (.int 1))) := ((by have z0 : ¬ (XI r (.sub (.rem (.arg 1) (.int 10)) (.int 1)) < (0 : Int)) := c64; have z1 : XI r (.rem (.arg 1) (.int 10)) = XI r (.arg 1) % 10 := c62; have z2 : XI r (.sub (.rem (.arg 1) (.int 10)) (.int 1)) = XI r (.rem (.arg 1) (.int 10)) - (1 : Int) := c63; have z3 : -2147483648 ≤ XI r (.arg 1) := b1; have z4 : XI r (.arg 1) < 2147483648 := d1; omega) : (-1 : Int) < XI r (.sub (.rem (.arg 1) (.int 10)) (.int 1)))
              have c68 : xhid (¬ (XI r (.div (.arg 1) (.int 10)) ≤ (0 : Int))) := ((by have z0 : ¬ (XI r (.rem (.div (.arg 1) (.int 10)) (.int 10)) ≤ (0 : Int)) := c57; have z1 : ¬ (XI r (.arg 1) ≤ (0 : Int)) := c61; have z2 : XI r (.div (.arg 1) (.int 10)) = XI r (.arg 1) / 10 := c53; have z3 : XI r (.rem (.div (.arg 1) (.int 10)) (.int 10)) = XI r (.div (.arg 1) (.int 10)) % 10 := c54; have z4 : -2147483648 ≤ XI r (.arg 1) := b1; have z5 : XI r (.arg 1) < 2147483648 := d1; omega) : ¬ (XI r (.div (.arg 1) (.int 10)) ≤ (0 : Int)))
              have c69 : xhid (XI r (.sub (.arg 49) (.int 6)) < (6 : Int)) := ((by omega) : XI r (.sub (.arg 49) (.int 6)) < (6 : Int))
              refine ⟨226, _, ?_, lf_15_11⟩
              refine xc_cons (xh_gt_F (XI_lit (by decide +kernel)) rfl h0) ?_
              refine xc_cons (xh_lt_T (XI_lit (by decide +kernel)) rfl h1) ?_
              refine xc_cons (xh_eq_T rfl (XI_lit (by decide +kernel)) hk) ?_
              refine xc_cons (xh_lt_T (XI_lit (by decide +kernel)) rfl c1) ?_
              refine xc_cons (xh_lt_F rfl (XI_lit (by decide +kernel)) c5) ?_
              refine xc_cons (xh_le_T rfl (XI_lit (by decide +kernel)) c10) ?_
              refine xc_cons (xh_ne_F rfl (XI_lit (by decide +kernel)) c13) ?_
              refine xc_cons (xh_ne_F rfl (XI_lit (by decide +kernel)) c34) ?_
              refine xc_cons (xh_ne_T rfl (XI_lit (by decide +kernel)) c55) ?_
              refine xc_cons (xh_eq_F rfl (XI_lit (by decide +kernel)) c56) ?_
              refine xc_cons (xh_le_F rfl (XI_lit (by decide +kernel)) c57) ?_
              refine xc_cons (xh_lt_T (XI_lit (by decide +kernel)) rfl c58) ?_
              refine xc_cons (xh_lt_F rfl (XI_lit (by decide +kernel)) c59) ?_
              refine xc_cons (xh_gt_F rfl (XI_lit (by decide +kernel)) c60) ?_
              refine xc_cons (xh_le_F rfl (XI_lit (by decide +kernel)) c61) ?_
              refine xc_cons (xh_lt_F rfl (XI_lit (by decide +kernel)) c64) ?_
              refine xc_cons (xh_gt_T rfl (XI_lit (by decide +kernel)) c67) ?_
              refine xc_cons (xh_le_F rfl (XI_lit (by decide +kernel)) c68) ?_
              refine xc_cons (xh_gt_T (XI_lit (by decide +kernel)) rfl c69) ?_
              exact xc_nil
          ·
            have c70 : xhid (XI r (.div (.arg 1) (.int 1)) = XI r (.arg 1) / 1) := XI_div rfl (by decide +kernel) (by have z0 : ¬ (XI r (.arg 1) < (0 : Int)) := c5; have z1 : XI r (.arg 1) ≤ (9999 : Int) := c10; have z2 : -2147483648 ≤ XI r (.arg 1) := b1; have z3 : XI r (.arg 1) < 2147483648 := d1; omega) (by decide)
            have c71 : xhid (XI r (.rem (.div (.arg 1) (.int 1)) (.int 10)) = XI r (.div (.arg 1) (.int 1)) % 10) := XI_rem rfl (by decide +kernel) (by have z0 : ¬ (XI r (.arg 1) < (0 : Int)) := c5; have z1 : XI r (.arg 1) ≤ (9999 : Int) := c10; have z2 : XI r (.div (.arg 1) (.int 1)) = XI r (.arg 1) / 1 := c70; have z3 : -2147483648 ≤ XI r (.arg 1) := b1; have z4 : XI r (.arg 1) < 2147483648 := d1; omega) (by decide)
            have c72 : xhid (¬ XI r (.rem (.div (.arg 1) (.int 1)) (.int 10)) = (0 : Int)) := ((by have z0 : ¬ (XI r (.sub (.arg 49) (.int 6)) < (0 : Int)) := h0; have z1 : (0 : Int) < XI r (.arg 49) := h1; have z2 : XI r (.op2 .iand (.arg 0) (.int 63)) = (15 : Int) := hk; have z3 : (1 : Int) < XI r (.arg 49) := c1; have z4 : ¬ (XI r (.arg 1) < (0 : Int)) := c5; have z5 : XI r (.arg 1) ≤ (9999 : Int) := c10; have z6 : ¬ (¬ XI r (.rem (.div (.arg 1) (.int 1000)) (.int 10)) = (0 : Int)) := c13; have z7 : ¬ (¬ XI r (.rem (.div (.arg 1) (.int 100)) (.int 10)) = (0 : Int)) := c34; have z8 : ¬ (¬ XI r (.rem (.div (.arg 1) (.int 10)) (.int 10)) = (0 : Int)) := c55; have z9 : ¬ (XI r (.arg 1) = (0 : Int)) := c2; have z10 : XI r (.div (.arg 1) (.int 1)) = XI r (.arg 1) / 1 := c70; have z11 : XI r (.div (.arg 1) (.int 10)) = XI r (.arg 1) / 10 := c53; have z12 : XI r (.div (.arg 1) (.int 100)) = XI r (.arg 1) / 100 := c32; have z13 : XI r (.div (.arg 1) (.int 1000)) = XI r (.arg 1) / 1000 := c11; have z14 : XI r (.rem (.div (.arg 1) (.int 1)) (.int 10)) = XI r (.div (.arg 1) (.int 1)) % 10 := c71; have z15 : XI r (.rem (.div (.arg 1) (.int 10)) (.int 10)) = XI r (.div (.arg 1) (.int 10)) % 10 := c54; have z16 : XI r (.rem (.div (.arg 1) (.int 100)) (.int 10)) = XI r (.div (.arg 1) (.int 100)) % 10 := c33; have z17 : XI r (.rem (.div (.arg 1) (.int 1000)) (.int 10)) = XI r (.div (.arg 1) (.int 1000)) % 10 := c12; have z18 : -2147483648 ≤ XI r (.arg 0) := b0; have z19 : XI r (.arg 0) < 2147483648 := d0; have z20 : -2147483648 ≤ XI r (.arg 1) := b1; have z21 : XI r (.arg 1) < 2147483648 := d1; omega) : ¬ XI r (.rem (.div (.arg 1) (.int 1)) (.int 10)) = (0 : Int))
            have c73 : xhid (¬ (XI r (.rem (.div (.arg 1) (.int 1)) (.int 10)) = (0 : Int))) := ((by have z0 : ¬ XI r (.rem (.div (.arg 1) (.int 1)) (.int 10)) = (0 : Int) := c72; have z1 : XI r (.div (.arg 1) (.int 1)) = XI r (.arg 1) / 1 := c70; have z2 : XI r (.rem (.div (.arg 1) (.int 1)) (.int 10)) = XI r (.div (.arg 1) (.int 1)) % 10 := c71; have z3 : -2147483648 ≤ XI r (.arg 1) := b1; have z4 : XI r (.arg 1) < 2147483648 := d1; omega) : ¬ (XI r (.rem (.div (.arg 1) (.int 1)) (.int 10)) = (0 : Int)))
            have c74 : xhid (¬ (XI r (.rem (.div (.arg 1) (.int 1)) (.int 10)) ≤ (0 : Int))) := ((by have z0 : ¬ (XI r (.arg 1) < (0 : Int)) := c5; have z1 : ¬ (XI r (.rem (.div (.arg 1) (.int 1)) (.int 10)) = (0 : Int)) := c73; have z2 : XI r (.div (.arg 1) (.int 1)) = XI r (.arg 1) / 1 := c70; have z3 : XI r (.rem (.div (.arg 1) (.int 1)) (.int 10)) = XI r (.div (.arg 1) (.int 1)) % 10 := c71; have z4 : -2147483648 ≤ XI r (.arg 1) := b1; have z5 : XI r (.arg 1) < 2147483648 := d1; omega) : ¬ (XI r (.rem (.div (.arg 1) (.int 1)) (.int 10)) ≤ (0 : Int)))
            have c75 : xhid ((1 : Int) < XI r (.arg 49)) := ((by have z0 : (1 : Int) < XI r (.arg 49) := c1; omega) : (1 : Int) < XI r (.arg 49))
            have c76 : xhid (¬ (XI r (.arg 1) < (0 : Int))) := ((by have z0 : ¬ (XI r (.arg 1) < (0 : Int)) := c5; have z1 : -2147483648 ≤ XI r (.arg 1) := b1; have z2 : XI r (.arg 1) < 2147483648 := d1; omega) : ¬ (XI r (.arg 1) < (0 : Int)))
            have c77 : xhid (¬ ((9999 : Int) < XI r (.arg 1))) := ((by have z0 : XI r (.arg 1) ≤ (9999 : Int) := c10; have z1 : -2147483648 ≤ XI r (.arg 1) := b1; have z2 : XI r (.arg 1) < 2147483648 := d1; omega) : ¬ ((9999 : Int) < XI r (.arg 1)))
            have c78 : xhid (¬ (XI r (.arg 1) ≤ (0 : Int))) := ((by have z0 : ¬ (XI r (.arg 1) < (0 : Int)) := c76; have z1 : ¬ (XI r (.arg 1) = (0 : Int)) := c2; have z2 : -2147483648 ≤ XI r (.arg 1) := b1; have z3 : XI r (.arg 1) < 2147483648 := d1; omega) : ¬ (XI r (.arg 1) ≤ (0 : Int)))
            have c79 : xhid (XI r (.rem (.arg 1) (.int 10)) = XI r (.arg 1) % 10) := XI_rem rfl (by decide +kernel) (by have z0 : ¬ (XI r (.arg 1) < (0 : Int)) := c5; have z1 : XI r (.arg 1) ≤ (9999 : Int) := c10; have z2 : ¬ (XI r (.arg 1) < (0 : Int)) := c76; have z3 : ¬ ((9999 : Int) < XI r (.arg 1)) := c77; have z4 : ¬ (XI r (.arg 1) ≤ (0 : Int)) := c78; have z5 : -2147483648 ≤ XI r (.arg 1) := b1; have z6 : XI r (.arg 1) < 2147483648 := d1; omega) (by decide)
            have c80 : xhid (XI r (.sub (.rem (.arg 1) (.int 10)) (.int 1)) = XI r (.rem (.arg 1) (.int 10)) - (1 : Int)) := XI_sub rfl (XI_lit (by decide +kernel)) (by have z0 : ¬ (XI r (.arg 1) < (0 : Int)) := c5; have z1 : XI r (.arg 1) ≤ (9999 : Int) := c10; have z2 : ¬ (XI r (.arg 1) < (0 : Int)) := c76; have z3 : ¬ ((9999 : Int) < XI r (.arg 1)) := c77; have z4 : ¬ (XI r (.arg 1) ≤ (0 : Int)) := c78; have z5 : XI r (.rem (.arg 1) (.int 10)) = XI r (.arg 1) % 10 := c79; have z6 : -2147483648 ≤ XI r (.arg 1) := b1; have z7 : XI r (.arg 1) < 2147483648 := d1; omega) (by have z0 : ¬ (XI r (.arg 1) < (0 : Int)) := c5; have z1 : XI r (.arg 1) ≤ (9999 : Int) := c10; have z2 : ¬ (XI r (.arg 1) < (0 : Int)) := c76; have z3 : ¬ ((9999 : Int) < XI r (.arg 1)) := c77; have z4 : ¬ (XI r (.arg 1) ≤ (0 : Int)) := c78; have z5 : XI r (.rem (.arg 1) (.int 10)) = XI r (.arg 1) % 10 := c79; have z6 : -2147483648 ≤ XI r (.arg 1) := b1; have z7 : XI r (.arg 1) < 2147483648 := d1; omega)
            refine (Classical.em (XI r (.sub (.rem (.arg 1) (.int 10)) (.int 1)) < (0 : Int))).elim (fun (c81 : xhid (XI r (.sub (.rem (.arg 1) (.int 10)) (.int 1)) < (0 : Int))) => ?_) (fun (c81 : xhid (¬ (XI r (.sub (.rem (.arg 1) (.int 10)) (.int 1)) < (0 : Int)))) => ?_)
            ·
              refine (Classical.em (XI r (.div (.arg 1) (.int 10)) ≤ (0 : Int))).elim (fun (c82 : xhid (XI r (.div (.arg 1) (.int 10)) ≤ (0 : Int))) => ?_) (fun (c82 : xhid (¬ (XI r (.div (.arg 1) (.int 10)) ≤ (0 : Int)))) => ?_)
              ·
                have c83 : xhid (XI r (.sub (.arg 49) (.int 6)) < (6 : Int)) := ((by omega) : XI r (.sub (.arg 49) (.int 6)) < (6 : Int))
                refine ⟨240, _, ?_, lf_15_12⟩
                refine xc_cons (xh_gt_F (XI_lit (by decide +kernel)) rfl h0) ?_
                refine xc_cons (xh_lt_T (XI_lit (by decide +kernel)) rfl h1) ?_
                refine xc_cons (xh_eq_T rfl (XI_lit (by decide +kernel)) hk) ?_
                refine xc_cons (xh_lt_T (XI_lit (by decide +kernel)) rfl c1) ?_
                refine xc_cons (xh_lt_F rfl (XI_lit (by decide +kernel)) c5) ?_
                refine xc_cons (xh_le_T rfl (XI_lit (by decide +kernel)) c10) ?_
                refine xc_cons (xh_ne_F rfl (XI_lit (by decide +kernel)) c13) ?_
                refine xc_cons (xh_ne_F rfl (XI_lit (by decide +kernel)) c34) ?_
                refine xc_cons (xh_ne_F rfl (XI_lit (by decide +kernel)) c55) ?_
                refine xc_cons (xh_ne_T rfl (XI_lit (by decide +kernel)) c72) ?_
                refine xc_cons (xh_eq_F rfl (XI_lit (by decide +kernel)) c73) ?_
                refine xc_cons (xh_le_F rfl (XI_lit (by decide +kernel)) c74) ?_
                refine xc_cons (xh_lt_T (XI_lit (by decide +kernel)) rfl c75) ?_
                refine xc_cons (xh_lt_F rfl (XI_lit (by decide +kernel)) c76) ?_
                refine xc_cons (xh_gt_F rfl (XI_lit (by decide +kernel)) c77) ?_
                refine xc_cons (xh_le_F rfl (XI_lit (by decide +kernel)) c78) ?_
                refine xc_cons (xh_lt_T rfl (XI_lit (by decide +kernel)) c81) ?_
                refine xc_cons (xh_le_T rfl (XI_lit (by decide +kernel)) c82) ?_
                refine xc_cons (xh_gt_T (XI_lit (by decide +kernel)) rfl c83) ?_
                exact xc_nil
              ·
                have c84 : xhid (XI r (.sub (.arg 49) (.int 6)) < (6 : Int)) := ((by omega) : XI r (.sub (.arg 49) (.int 6)) < (6 : Int))
                refine ⟨242, _, ?_, lf_15_13⟩
                refine xc_cons (xh_gt_F (XI_lit (by decide +kernel)) rfl h0) ?_
                refine xc_cons (xh_lt_T (XI_lit (by decide +kernel)) rfl h1) ?_
                refine xc_cons (xh_eq_T rfl (XI_lit (by decide +kernel)) hk) ?_
                refine xc_cons (xh_lt_T (XI_lit (by decide +kernel)) rfl c1) ?_
                refine xc_cons (xh_lt_F rfl (XI_lit (by decide +kernel)) c5) ?_
                refine xc_cons (xh_le_T rfl (XI_lit (by decide +kernel)) c10) ?_
                refine xc_cons (xh_ne_F rfl (XI_lit (by decide +kernel)) c13) ?_
                refine xc_cons (xh_ne_F rfl (XI_lit (by decide +kernel)) c34) ?_
                refine xc_cons (xh_ne_F rfl (XI_lit (by decide +kernel)) c55) ?_
                refine xc_cons (xh_ne_T rfl (XI_lit (by decide +kernel)) c72) ?_
                refine xc_cons (xh_eq_F rfl (XI_lit (by decide +kernel)) c73) ?_
                refine xc_cons (xh_le_F rfl (XI_lit (by decide +kernel)) c74) ?_
                refine xc_cons (xh_lt_T (XI_lit (by decide +kernel)) rfl c75) ?_
                refine xc_cons (xh_lt_F rfl (XI_lit (by decide +kernel)) c76) ?_
                refine xc_cons (xh_gt_F rfl (XI_lit (by decide +kernel)) c77) ?_
                refine xc_cons (xh_le_F rfl (XI_lit (by decide +kernel)) c78) ?_
                refine xc_cons (xh_lt_T rfl (XI_lit (by decide +kernel)) c81) ?_
                refine xc_cons (xh_le_F rfl (XI_lit (by decide +kernel)) c82) ?_
                refine xc_cons (xh_gt_T (XI_lit (by decide +kernel)) rfl c84) ?_
                exact xc_nil
            ·
              have c85 : xhid ((-1 : Int) < XI r (.sub (.rem (.arg 1) (.int 10)) (.int 1))) := ((by have z0 : ¬ (XI r (.sub (.rem (.arg 1) (.int 10)) (.int 1)) < (0 : Int)) := c81; have z1 : XI r (.rem (.arg 1) (.int 10)) = XI r (.arg 1) % 10 := c79; have z2 : XI r (.sub (.rem (.arg 1) (.int 10)) (.int 1)) = XI r (.rem (.arg 1) (.int 10)) - (1 : Int) := c80; have z3 : -2147483648 ≤ XI r (.arg 1) := b1; have z4 : XI r (.arg 1) < 2147483648 := d1; omega) : (-1 : Int) < XI r (.sub (.rem (.arg 1) (.int 10)) (.int 1)))
              refine (Classical.em (XI r (.div (.arg 1) (.int 10)) ≤ (0 : Int))).elim (fun (c86 : xhid (XI r (.div (.arg 1) (.int 10)) ≤ (0 : Int))) => ?_) (fun (c86 : xhid (¬ (XI r (.div (.arg 1) (.int 10)) ≤ (0 : Int)))) => ?_)
              ·
                have c87 : xhid (XI r (.sub (.arg 49) (.int 6)) < (6 : Int)) := ((by omega) : XI r (.sub (.arg 49) (.int 6)) < (6 : Int))
                refine ⟨243, _, ?_, lf_15_14⟩
                refine xc_cons (xh_gt_F (XI_lit (by decide +kernel)) rfl h0) ?_
                refine xc_cons (xh_lt_T (XI_lit (by decide +kernel)) rfl h1) ?_
                refine xc_cons (xh_eq_T rfl (XI_lit (by decide +kernel)) hk) ?_
                refine xc_cons (xh_lt_T (XI_lit (by decide +kernel)) rfl c1) ?_
                refine xc_cons (xh_lt_F rfl (XI_lit (by decide +kernel)) c5) ?_
                refine xc_cons (xh_le_T rfl (XI_lit (by decide +kernel)) c10) ?_
                refine xc_cons (xh_ne_F rfl (XI_lit (by decide +kernel)) c13) ?_
                refine xc_cons (xh_ne_F rfl (XI_lit (by decide +kernel)) c34) ?_
                refine xc_cons (xh_ne_F rfl (XI_lit (by decide +kernel)) c55) ?_
                refine xc_cons (xh_ne_T rfl (XI_lit (by decide +kernel)) c72) ?_
                refine xc_cons (xh_eq_F rfl (XI_lit (by decide +kernel)) c73) ?_
                refine xc_cons (xh_le_F rfl (XI_lit (by decide +kernel)) c74) ?_
                refine xc_cons (xh_lt_T (XI_lit (by decide +kernel)) rfl c75) ?_
                refine xc_cons (xh_lt_F rfl (XI_lit (by decide +kernel)) c76) ?_
                refine xc_cons (xh_gt_F rfl (XI_lit (by decide +kernel)) c77) ?_
                refine xc_cons (xh_le_F rfl (XI_lit (by decide +kernel)) c78) ?_
                refine xc_cons (xh_lt_F rfl (XI_lit (by decide +kernel)) c81) ?_
                refine xc_cons (xh_gt_T rfl (XI_lit (by decide +kernel)) c85) ?_
                refine xc_cons (xh_le_T rfl (XI_lit (by decide +kernel)) c86) ?_
                refine xc_cons (xh_gt_T (XI_lit (by decide +kernel)) rfl c87) ?_
                exact xc_nil
              ·
                have c88 : xhid (XI r (.sub (.arg 49) (.int 6)) < (6 : Int)) := ((by omega) : XI r (.sub (.arg 49) (.int 6)) < (6 : Int))
                refine ⟨245, _, ?_, lf_15_15⟩
                refine xc_cons (xh_gt_F (XI_lit (by decide +kernel)) rfl h0) ?_
                refine xc_cons (xh_lt_T (XI_lit (by decide +kernel)) rfl h1) ?_
                refine xc_cons (xh_eq_T rfl (XI_lit (by decide +kernel)) hk) ?_
                refine xc_cons (xh_lt_T (XI_lit (by decide +kernel)) rfl c1) ?_
                refine xc_cons (xh_lt_F rfl (XI_lit (by decide +kernel)) c5) ?_
                refine xc_cons (xh_le_T rfl (XI_lit (by decide +kernel)) c10) ?_
                refine xc_cons (xh_ne_F rfl (XI_lit (by decide +kernel)) c13) ?_
                refine xc_cons (xh_ne_F rfl (XI_lit (by decide +kernel)) c34) ?_
                refine xc_cons (xh_ne_F rfl (XI_lit (by decide +kernel)) c55) ?_
                refine xc_cons (xh_ne_T rfl (XI_lit (by decide +kernel)) c72) ?_
                refine xc_cons (xh_eq_F rfl (XI_lit (by decide +kernel)) c73) ?_
                refine xc_cons (xh_le_F rfl (XI_lit (by decide +kernel)) c74) ?_
                refine xc_cons (xh_lt_T (XI_lit (by decide +kernel)) rfl c75) ?_
                refine xc_cons (xh_lt_F rfl (XI_lit (by decide +kernel)) c76) ?_
                refine xc_cons (xh_gt_F rfl (XI_lit (by decide +kernel)) c77) ?_
                refine xc_cons (xh_le_F rfl (XI_lit (by decide +kernel)) c78) ?_
                refine xc_cons (xh_lt_F rfl (XI_lit (by decide +kernel)) c81) ?_
                refine xc_cons (xh_gt_T rfl (XI_lit (by decide +kernel)) c85) ?_
                refine xc_cons (xh_le_F rfl (XI_lit (by decide +kernel)) c86) ?_
                refine xc_cons (xh_gt_T (XI_lit (by decide +kernel)) rfl c88) ?_
                exact xc_nil
    ·
      have c89 : xhid ((1 : Int) < XI r (.arg 49)) := ((by have z0 : (1 : Int) < XI r (.arg 49) := c1; omega) : (1 : Int) < XI r (.arg 49))
      have c90 : xhid (¬ (XI r (.arg 1) < (0 : Int))) := ((by have z0 : ¬ (XI r (.arg 1) ≤ (9999 : Int)) := c10; have z1 : -2147483648 ≤ XI r (.arg 1) := b1; have z2 : XI r (.arg 1) < 2147483648 := d1; omega) : ¬ (XI r (.arg 1) < (0 : Int)))
      have c91 : xhid ((9999 : Int) < XI r (.arg 1)) := ((by have z0 : ¬ (XI r (.arg 1) ≤ (9999 : Int)) := c10; have z1 : -2147483648 ≤ XI r (.arg 1) := b1; have z2 : XI r (.arg 1) < 2147483648 := d1; omega) : (9999 : Int) < XI r (.arg 1))
      have c92 : xhid (¬ (XI r (.arg 1) ≤ (0 : Int))) := ((by have z0 : (9999 : Int) < XI r (.arg 1) := c91; have z1 : -2147483648 ≤ XI r (.arg 1) := b1; have z2 : XI r (.arg 1) < 2147483648 := d1; omega) : ¬ (XI r (.arg 1) ≤ (0 : Int)))
      have c93 : xhid (XI r (.sub (.arg 49) (.int 6)) < (6 : Int)) := ((by omega) : XI r (.sub (.arg 49) (.int 6)) < (6 : Int))
      refine ⟨134, _, ?_, lf_15_16⟩
      refine xc_cons (xh_gt_F (XI_lit (by decide +kernel)) rfl h0) ?_
      refine xc_cons (xh_lt_T (XI_lit (by decide +kernel)) rfl h1) ?_
      refine xc_cons (xh_eq_T rfl (XI_lit (by decide +kernel)) hk) ?_
      refine xc_cons (xh_lt_T (XI_lit (by decide +kernel)) rfl c1) ?_
      refine xc_cons (xh_lt_F rfl (XI_lit (by decide +kernel)) c5) ?_
      refine xc_cons (xh_le_F rfl (XI_lit (by decide +kernel)) c10) ?_
      refine xc_cons (xh_lt_T (XI_lit (by decide +kernel)) rfl c89) ?_
      refine xc_cons (xh_lt_F rfl (XI_lit (by decide +kernel)) c90) ?_
      refine xc_cons (xh_gt_T rfl (XI_lit (by decide +kernel)) c91) ?_
      refine xc_cons (xh_le_F rfl (XI_lit (by decide +kernel)) c92) ?_
      refine xc_cons (xh_gt_T (XI_lit (by decide +kernel)) rfl c93) ?_
      exact xc_nil
theorem lf_16_0 : xfin (xev 136 20 xlaw 18 xlo0 [] xh0 [(.gt, .int 0, .sub (.arg 49) (.int 6), false), (.lt, .int 0, .arg 49, true), (.eq, .op2 .iand (.arg 0) (.int 63), .int 16, true), (.lt, .int 1, .arg 49, true), (.lt, .int 2, .arg 49, true), (.lt, .int 3, .arg 49, true), (.lt, .arg 1, .int 0, true), (.lt, .int 1, .arg 49, true), (.lt, .int 2, .arg 49, true), (.lt, .int 3, .arg 49, true), (.lt, .arg 1, .int 0, true), (.gt, .int 6, .sub (.arg 49) (.int 6), true)]) = true := by decide +kernel
theorem lf_16_1 : xfin (xev 144 20 xlaw 18 xlo0 [] xh0 [(.gt, .int 0, .sub (.arg 49) (.int 6), false), (.lt, .int 0, .arg 49, true), (.eq, .op2 .iand (.arg 0) (.int 63), .int 16, true), (.lt, .int 1, .arg 49, true), (.lt, .int 2, .arg 49, true), (.lt, .int 3, .arg 49, true), (.lt, .arg 1, .int 0, false), (.ge, .arg 1, .int 0, true), (.lt, .int 1, .arg 49, true), (.lt, .int 2, .arg 49, true), (.lt, .int 3, .arg 49, true), (.lt, .arg 1, .int 0, false), (.gt, .arg 1, .int (-1), true), (.gt, .int 6, .sub (.arg 49) (.int 6), true)]) = true := by decide +kernel
set_option maxHeartbeats 4000000 in
theorem cv_16 {r : Nat → Value} (h49 : XI r (.arg 49) = 6) (hs : XI r (.sub (.arg 49) (.int 6)) = 0) (hk : XI r (.op2 .iand (.arg 0) (.int 63)) = 16) : ∃ (f : Nat) (E : List xB), (∀ q ∈ E, xhold r q) ∧ xfin (xev f 20 xlaw 18 xlo0 [] xh0 E) = true := by
  have h0 : ¬ (XI r (.sub (.arg 49) (.int 6)) < (0 : Int)) := by omega
  have h1 : (0 : Int) < XI r (.arg 49) := by omega
  have b0 : xhid (-2147483648 ≤ XI r (.arg 0)) := XI_lo r (.arg 0)
  have d0 : xhid (XI r (.arg 0) < 2147483648) := XI_hi r (.arg 0)
  have b1 : xhid (-2147483648 ≤ XI r (.arg 1)) := XI_lo r (.arg 1)
  have d1 : xhid (XI r (.arg 1) < 2147483648) := XI_hi r (.arg 1)
  have b2 : xhid (-2147483648 ≤ XI r (.arg 2)) := XI_lo r (.arg 2)
  have d2 : xhid (XI r (.arg 2) < 2147483648) := XI_hi r (.arg 2)
  have b3 : xhid (-2147483648 ≤ XI r (.arg 3)) := XI_lo r (.arg 3)
  have d3 : xhid (XI r (.arg 3) < 2147483648) := XI_hi r (.arg 3)
  have b4 : xhid (-2147483648 ≤ XI r (.arg 4)) := XI_lo r (.arg 4)
  have d4 : xhid (XI r (.arg 4) < 2147483648) := XI_hi r (.arg 4)
  have b5 : xhid (-2147483648 ≤ XI r (.arg 5)) := XI_lo r (.arg 5)
  have d5 : xhid (XI r (.arg 5) < 2147483648) := XI_hi r (.arg 5)
  have c1 : xhid ((1 : Int) < XI r (.arg 49)) := ((by have z0 : ¬ (XI r (.sub (.arg 49) (.int 6)) < (0 : Int)) := h0; omega) : (1 : Int) < XI r (.arg 49))
  have c2 : xhid ((2 : Int) < XI r (.arg 49)) := ((by have z0 : ¬ (XI r (.sub (.arg 49) (.int 6)) < (0 : Int)) := h0; omega) : (2 : Int) < XI r (.arg 49))
  have c3 : xhid ((3 : Int) < XI r (.arg 49)) := ((by have z0 : ¬ (XI r (.sub (.arg 49) (.int 6)) < (0 : Int)) := h0; omega) : (3 : Int) < XI r (.arg 49))
  refine (Classical.em (XI r (.arg 1) < (0 : Int))).elim (fun (c4 : xhid (XI r (.arg 1) < (0 : Int))) => ?_) (fun (c4 : xhid (¬ (XI r (.arg 1) < (0 : Int)))) => ?_)
  ·
    have c5 : xhid ((1 : Int) < XI r (.arg 49)) := ((by have z0 : (3 : Int) < XI r (.arg 49) := c3; omega) : (1 : Int) < XI r (.arg 49))
    have c6 : xhid ((2 : Int) < XI r (.arg 49)) := ((by have z0 : (3 : Int) < XI r (.arg 49) := c3; omega) : (2 : Int) < XI r (.arg 49))
    have c7 : xhid ((3 : Int) < XI r (.arg 49)) := ((by have z0 : (3 : Int) < XI r (.arg 49) := c3; omega) : (3 : Int) < XI r (.arg 49))
    have c8 : xhid (XI r (.arg 1) < (0 : Int)) := ((by have z0 : XI r (.arg 1) < (0 : Int) := c4; have z1 : -2147483648 ≤ XI r (.arg 1) := b1; have z2 : XI r (.arg 1) < 2147483648 := d1; omega) : XI r (.arg 1) < (0 : Int))
    have c9 : xhid (XI r (.sub (.arg 49) (.int 6)) < (6 : Int)) := ((by omega) : XI r (.sub (.arg 49) (.int 6)) < (6 : Int))
    refine ⟨136, _, ?_, lf_16_0⟩
    refine xc_cons (xh_gt_F (XI_lit (by decide +kernel)) rfl h0) ?_
    refine xc_cons (xh_lt_T (XI_lit (by decide +kernel)) rfl h1) ?_
    refine xc_cons (xh_eq_T rfl (XI_lit (by decide +kernel)) hk) ?_
    refine xc_cons (xh_lt_T (XI_lit (by decide +kernel)) rfl c1) ?_
    refine xc_cons (xh_lt_T (XI_lit (by decide +kernel)) rfl c2) ?_
    refine xc_cons (xh_lt_T (XI_lit (by decide +kernel)) rfl c3) ?_
    refine xc_cons (xh_lt_T rfl (XI_lit (by decide +kernel)) c4) ?_
    refine xc_cons (xh_lt_T (XI_lit (by decide +kernel)) rfl c5) ?_
    refine xc_cons (xh_lt_T (XI_lit (by decide +kernel)) rfl c6) ?_
    refine xc_cons (xh_lt_T (XI_lit (by decide +kernel)) rfl c7) ?_
    refine xc_cons (xh_lt_T rfl (XI_lit (by decide +kernel)) c8) ?_
    refine xc_cons (xh_gt_T (XI_lit (by decide +kernel)) rfl c9) ?_
    exact xc_nil
  ·
    have c10 : xhid ((0 : Int) ≤ XI r (.arg 1)) := ((by have z0 : ¬ (XI r (.arg 1) < (0 : Int)) := c4; have z1 : -2147483648 ≤ XI r (.arg 1) := b1; have z2 : XI r (.arg 1) < 2147483648 := d1; omega) : (0 : Int) ≤ XI r (.arg 1))
    have c11 : xhid ((1 : Int) < XI r (.arg 49)) := ((by have z0 : (3 : Int) < XI r (.arg 49) := c3; omega) : (1 : Int) < XI r (.arg 49))
    have c12 : xhid ((2 : Int) < XI r (.arg 49)) := ((by have z0 : (3 : Int) < XI r (.arg 49) := c3; omega) : (2 : Int) < XI r (.arg 49))
    have c13 : xhid ((3 : Int) < XI r (.arg 49)) := ((by have z0 : (3 : Int) < XI r (.arg 49) := c3; omega) : (3 : Int) < XI r (.arg 49))
    have c14 : xhid (¬ (XI r (.arg 1) < (0 : Int))) := ((by have z0 : (0 : Int) ≤ XI r (.arg 1) := c10; have z1 : -2147483648 ≤ XI r (.arg 1) := b1; have z2 : XI r (.arg 1) < 2147483648 := d1; omega) : ¬ (XI r (.arg 1) < (0 : Int)))
    have c15 : xhid ((-1 : Int) < XI r (.arg 1)) := ((by have z0 : ¬ (XI r (.arg 1) < (0 : Int)) := c14; have z1 : -2147483648 ≤ XI r (.arg 1) := b1; have z2 : XI r (.arg 1) < 2147483648 := d1; omega) : (-1 : Int) < XI r (.arg 1))
    have c16 : xhid (XI r (.sub (.arg 49) (.int 6)) < (6 : Int)) := ((by omega) : XI r (.sub (.arg 49) (.int 6)) < (6 : Int))
    refine ⟨144, _, ?_, lf_16_1⟩
    refine xc_cons (xh_gt_F (XI_lit (by decide +kernel)) rfl h0) ?_
    refine xc_cons (xh_lt_T (XI_lit (by decide +kernel)) rfl h1) ?_
    refine xc_cons (xh_eq_T rfl (XI_lit (by decide +kernel)) hk) ?_
    refine xc_cons (xh_lt_T (XI_lit (by decide +kernel)) rfl c1) ?_
    refine xc_cons (xh_lt_T (XI_lit (by decide +kernel)) rfl c2) ?_
    refine xc_cons (xh_lt_T (XI_lit (by decide +kernel)) rfl c3) ?_
    refine xc_cons (xh_lt_F rfl (XI_lit (by decide +kernel)) c4) ?_
    refine xc_cons (xh_ge_T rfl (XI_lit (by decide +kernel)) c10) ?_
    refine xc_cons (xh_lt_T (XI_lit (by decide +kernel)) rfl c11) ?_
    refine xc_cons (xh_lt_T (XI_lit (by decide +kernel)) rfl c12) ?_
    refine xc_cons (xh_lt_T (XI_lit (by decide +kernel)) rfl c13) ?_
    refine xc_cons (xh_lt_F rfl (XI_lit (by decide +kernel)) c14) ?_
    refine xc_cons (xh_gt_T rfl (XI_lit (by decide +kernel)) c15) ?_
    refine xc_cons (xh_gt_T (XI_lit (by decide +kernel)) rfl c16) ?_
    exact xc_nil
