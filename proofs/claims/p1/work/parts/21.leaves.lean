theorem lf_35_0 : xfin (xev 156 20 xlaw 18 xlo0 [] xh0 [(.gt, .int 0, .sub (.arg 49) (.int 6), false), (.lt, .int 0, .arg 49, true), (.eq, .op2 .iand (.arg 0) (.int 63), .int 35, true), (.lt, .int 1, .arg 49, true), (.eq, .arg 1, .int 0, true), (.lt, .int 2, .arg 49, true), (.lt, .int 3, .arg 49, true), (.lt, .int 1, .arg 49, true), (.eq, .arg 1, .int 0, true), (.lt, .int 2, .arg 49, true), (.lt, .int 3, .arg 49, true), (.gt, .int 6, .sub (.arg 49) (.int 6), true)]) = true := by decide +kernel
theorem lf_35_1 : xfin (xev 156 20 xlaw 18 xlo0 [] xh0 [(.gt, .int 0, .sub (.arg 49) (.int 6), false), (.lt, .int 0, .arg 49, true), (.eq, .op2 .iand (.arg 0) (.int 63), .int 35, true), (.lt, .int 1, .arg 49, true), (.eq, .arg 1, .int 1, true), (.lt, .int 2, .arg 49, true), (.lt, .int 3, .arg 49, true), (.lt, .int 1, .arg 49, true), (.eq, .arg 1, .int 1, true), (.lt, .int 2, .arg 49, true), (.lt, .int 3, .arg 49, true), (.gt, .int 6, .sub (.arg 49) (.int 6), true)]) = true := by decide +kernel
theorem lf_35_2 : xfin (xev 156 20 xlaw 18 xlo0 [] xh0 [(.gt, .int 0, .sub (.arg 49) (.int 6), false), (.lt, .int 0, .arg 49, true), (.eq, .op2 .iand (.arg 0) (.int 63), .int 35, true), (.lt, .int 1, .arg 49, true), (.eq, .arg 1, .int 2, true), (.lt, .int 2, .arg 49, true), (.lt, .int 3, .arg 49, true), (.lt, .int 1, .arg 49, true), (.eq, .arg 1, .int 2, true), (.lt, .int 2, .arg 49, true), (.lt, .int 3, .arg 49, true), (.gt, .int 6, .sub (.arg 49) (.int 6), true)]) = true := by decide +kernel
theorem lf_35_3 : xfin (xev 156 20 xlaw 18 xlo0 [] xh0 [(.gt, .int 0, .sub (.arg 49) (.int 6), false), (.lt, .int 0, .arg 49, true), (.eq, .op2 .iand (.arg 0) (.int 63), .int 35, true), (.lt, .int 1, .arg 49, true), (.eq, .arg 1, .int 3, true), (.lt, .int 2, .arg 49, true), (.lt, .int 3, .arg 49, true), (.lt, .int 1, .arg 49, true), (.eq, .arg 1, .int 3, true), (.lt, .int 2, .arg 49, true), (.lt, .int 3, .arg 49, true), (.gt, .int 6, .sub (.arg 49) (.int 6), true)]) = true := by decide +kernel
theorem lf_35_4 : xfin (xev 129 20 xlaw 18 xlo0 [] xh0 [(.gt, .int 0, .sub (.arg 49) (.int 6), false), (.lt, .int 0, .arg 49, true), (.eq, .op2 .iand (.arg 0) (.int 63), .int 35, true), (.lt, .int 1, .arg 49, true), (.lt, .int 2, .arg 49, true), (.lt, .int 3, .arg 49, true), (.lt, .arg 1, .int 0, true), (.lt, .int 1, .arg 49, true), (.lt, .int 2, .arg 49, true), (.lt, .int 3, .arg 49, true), (.lt, .arg 1, .int 0, true), (.gt, .int 6, .sub (.arg 49) (.int 6), true)]) = true := by decide +kernel
theorem lf_35_5 : xfin (xev 135 20 xlaw 18 xlo0 [] xh0 [(.gt, .int 0, .sub (.arg 49) (.int 6), false), (.lt, .int 0, .arg 49, true), (.eq, .op2 .iand (.arg 0) (.int 63), .int 35, true), (.lt, .int 1, .arg 49, true), (.lt, .int 2, .arg 49, true), (.lt, .int 3, .arg 49, true), (.lt, .arg 1, .int 0, false), (.ge, .arg 1, .int 4, true), (.lt, .int 1, .arg 49, true), (.lt, .int 2, .arg 49, true), (.lt, .int 3, .arg 49, true), (.lt, .arg 1, .int 0, false), (.gt, .arg 1, .int 3, true), (.gt, .int 6, .sub (.arg 49) (.int 6), true)]) = true := by decide +kernel
set_option maxHeartbeats 4000000 in
theorem cv_35 {r : Nat → Value} (h49 : XI r (.arg 49) = 6) (hs : XI r (.sub (.arg 49) (.int 6)) = 0) (hk : XI r (.op2 .iand (.arg 0) (.int 63)) = 35) : ∃ (f : Nat) (E : List xB), (∀ q ∈ E, xhold r q) ∧ xfin (xev f 20 xlaw 18 xlo0 [] xh0 E) = true := by
  have h0 : ¬ (XI r (.sub (.arg 49) (.int 6)) < (0 : Int)) := by omega
  have h1 : (0 : Int) < XI r (.arg 49) := by omega
  have b0 : xhid (-2147483648 ≤ XI r (.arg 0)) := XI_lo r (.arg 0)
  have d0 : xhid (XI r (.arg 0) < 2147483648) := XI_hi r (.arg 0)
  have b1 : xhid (-2147483648 ≤ XI r (.arg 1)) := XI_lo r (.arg 1)
  have d1 : xhid (XI r (.arg 1) < 2147483648) := XI_hi r (.arg 1)
  have b2 : xhid (-2147483648 ≤ XI r (.arg 2)) := XI_lo r (.arg 2)
  have d2 : xhid (XI r (.arg 2) < 2147483648) := XI_hi r (.arg 2)
  have b3 : xhid (-2147483648 ≤ XI r (.arg 3)) := XI_lo r (.arg 3)
  have d3 : xhid (XI r (.arg 3) < 2147483648) := XI_hi r (.arg 3)
  have b4 : xhid (-2147483648 ≤ XI r (.arg 4)) := XI_lo r (.arg 4)
  have d4 : xhid (XI r (.arg 4) < 2147483648) := XI_hi r (.arg 4)
  have b5 : xhid (-2147483648 ≤ XI r (.arg 5)) := XI_lo r (.arg 5)
  have d5 : xhid (XI r (.arg 5) < 2147483648) := XI_hi r (.arg 5)
  have c1 : xhid ((1 : Int) < XI r (.arg 49)) := ((by have z0 : ¬ (XI r (.sub (.arg 49) (.int 6)) < (0 : Int)) := h0; omega) : (1 : Int) < XI r (.arg 49))
  refine (Classical.em (XI r (.arg 1) = (0 : Int))).elim (fun (c2 : xhid (XI r (.arg 1) = (0 : Int))) => ?_) (fun (c2 : xhid (¬ (XI r (.arg 1) = (0 : Int)))) => ?_)
  ·
    have c3 : xhid ((2 : Int) < XI r (.arg 49)) := ((by have z0 : ¬ (XI r (.sub (.arg 49) (.int 6)) < (0 : Int)) := h0; omega) : (2 : Int) < XI r (.arg 49))
    have c4 : xhid ((3 : Int) < XI r (.arg 49)) := ((by have z0 : ¬ (XI r (.sub (.arg 49) (.int 6)) < (0 : Int)) := h0; omega) : (3 : Int) < XI r (.arg 49))
    have c5 : xhid ((1 : Int) < XI r (.arg 49)) := ((by have z0 : (3 : Int) < XI r (.arg 49) := c4; omega) : (1 : Int) < XI r (.arg 49))
    have c6 : xhid ((2 : Int) < XI r (.arg 49)) := ((by have z0 : (3 : Int) < XI r (.arg 49) := c4; omega) : (2 : Int) < XI r (.arg 49))
    have c7 : xhid ((3 : Int) < XI r (.arg 49)) := ((by have z0 : (3 : Int) < XI r (.arg 49) := c4; omega) : (3 : Int) < XI r (.arg 49))
    have c8 : xhid (XI r (.sub (.arg 49) (.int 6)) < (6 : Int)) := ((by omega) : XI r (.sub (.arg 49) (.int 6)) < (6 : Int))
    refine ⟨156, _, ?_, lf_35_0⟩
    refine xc_cons (xh_gt_F (XI_lit (by decide +kernel)) rfl h0) ?_
    refine xc_cons (xh_lt_T (XI_lit (by decide +kernel)) rfl h1) ?_
    refine xc_cons (xh_eq_T rfl (XI_lit (by decide +kernel)) hk) ?_
    refine xc_cons (xh_lt_T (XI_lit (by decide +kernel)) rfl c1) ?_
    refine xc_cons (xh_eq_T rfl (XI_lit (by decide +kernel)) c2) ?_
    refine xc_cons (xh_lt_T (XI_lit (by decide +kernel)) rfl c3) ?_
    refine xc_cons (xh_lt_T (XI_lit (by decide +kernel)) rfl c4) ?_
    refine xc_cons (xh_lt_T (XI_lit (by decide +kernel)) rfl c5) ?_
    refine xc_cons (xh_eq_T rfl (XI_lit (by decide +kernel)) c2) ?_
    refine xc_cons (xh_lt_T (XI_lit (by decide +kernel)) rfl c6) ?_
    refine xc_cons (xh_lt_T (XI_lit (by decide +kernel)) rfl c7) ?_
    refine xc_cons (xh_gt_T (XI_lit (by decide +kernel)) rfl c8) ?_
    exact xc_nil
  refine (Classical.em (XI r (.arg 1) = (1 : Int))).elim (fun (c9 : xhid (XI r (.arg 1) = (1 : Int))) => ?_) (fun (c9 : xhid (¬ (XI r (.arg 1) = (1 : Int)))) => ?_)
  ·
    have c10 : xhid ((2 : Int) < XI r (.arg 49)) := ((by have z0 : ¬ (XI r (.sub (.arg 49) (.int 6)) < (0 : Int)) := h0; omega) : (2 : Int) < XI r (.arg 49))
    have c11 : xhid ((3 : Int) < XI r (.arg 49)) := ((by have z0 : ¬ (XI r (.sub (.arg 49) (.int 6)) < (0 : Int)) := h0; omega) : (3 : Int) < XI r (.arg 49))
    have c12 : xhid ((1 : Int) < XI r (.arg 49)) := ((by have z0 : (3 : Int) < XI r (.arg 49) := c11; omega) : (1 : Int) < XI r (.arg 49))
    have c13 : xhid ((2 : Int) < XI r (.arg 49)) := ((by have z0 : (3 : Int) < XI r (.arg 49) := c11; omega) : (2 : Int) < XI r (.arg 49))
    have c14 : xhid ((3 : Int) < XI r (.arg 49)) := ((by have z0 : (3 : Int) < XI r (.arg 49) := c11; omega) : (3 : Int) < XI r (.arg 49))
    have c15 : xhid (XI r (.sub (.arg 49) (.int 6)) < (6 : Int)) := ((by omega) : XI r (.sub (.arg 49) (.int 6)) < (6 : Int))
    refine ⟨156, _, ?_, lf_35_1⟩
    refine xc_cons (xh_gt_F (XI_lit (by decide +kernel)) rfl h0) ?_
    refine xc_cons (xh_lt_T (XI_lit (by decide +kernel)) rfl h1) ?_
    refine xc_cons (xh_eq_T rfl (XI_lit (by decide +kernel)) hk) ?_
    refine xc_cons (xh_lt_T (XI_lit (by decide +kernel)) rfl c1) ?_
    refine xc_cons (xh_eq_T rfl (XI_lit (by decide +kernel)) c9) ?_
    refine xc_cons (xh_lt_T (XI_lit (by decide +kernel)) rfl c10) ?_
    refine xc_cons (xh_lt_T (XI_lit (by decide +kernel)) rfl c11) ?_
    refine xc_cons (xh_lt_T (XI_lit (by decide +kernel)) rfl c12) ?_
    refine xc_cons (xh_eq_T rfl (XI_lit (by decide +kernel)) c9) ?_
    refine xc_cons (xh_lt_T (XI_lit (by decide +kernel)) rfl c13) ?_
    refine xc_cons (xh_lt_T (XI_lit (by decide +kernel)) rfl c14) ?_
    refine xc_cons (xh_gt_T (XI_lit (by decide +kernel)) rfl c15) ?_
    exact xc_nil
  refine (Classical.em (XI r (.arg 1) = (2 : Int))).elim (fun (c16 : xhid (XI r (.arg 1) = (2 : Int))) => ?_) (fun (c16 : xhid (¬ (XI r (.arg 1) = (2 : Int)))) => ?_)
  ·
    have c17 : xhid ((2 : Int) < XI r (.arg 49)) := ((by have z0 : ¬ (XI r (.sub (.arg 49) (.int 6)) < (0 : Int)) := h0; omega) : (2 : Int) < XI r (.arg 49))
    have c18 : xhid ((3 : Int) < XI r (.arg 49)) := ((by have z0 : ¬ (XI r (.sub (.arg 49) (.int 6)) < (0 : Int)) := h0; omega) : (3 : Int) < XI r (.arg 49))
    have c19 : xhid ((1 : Int) < XI r (.arg 49)) := ((by have z0 : (3 : Int) < XI r (.arg 49) := c18; omega) : (1 : Int) < XI r (.arg 49))
    have c20 : xhid ((2 : Int) < XI r (.arg 49)) := ((by have z0 : (3 : Int) < XI r (.arg 49) := c18; omega) : (2 : Int) < XI r (.arg 49))
    have c21 : xhid ((3 : Int) < XI r (.arg 49)) := ((by have z0 : (3 : Int) < XI r (.arg 49) := c18; omega) : (3 : Int) < XI r (.arg 49))
    have c22 : xhid (XI r (.sub (.arg 49) (.int 6)) < (6 : Int)) := ((by omega) : XI r (.sub (.arg 49) (.int 6)) < (6 : Int))
    refine ⟨156, _, ?_, lf_35_2⟩
    refine xc_cons (xh_gt_F (XI_lit (by decide +kernel)) rfl h0) ?_
    refine xc_cons (xh_lt_T (XI_lit (by decide +kernel)) rfl h1) ?_
    refine xc_cons (xh_eq_T rfl (XI_lit (by decide +kernel)) hk) ?_
    refine xc_cons (xh_lt_T (XI_lit (by decide +kernel)) rfl c1) ?_
    refine xc_cons (xh_eq_T rfl (XI_lit (by decide +kernel)) c16) ?_
    refine xc_cons (xh_lt_T (XI_lit (by decide +kernel)) rfl c17) ?_
    refine xc_cons (xh_lt_T (XI_lit (by decide +kernel)) rfl c18) ?_
    refine xc_cons (xh_lt_T (XI_lit (by decide +kernel)) rfl c19) ?_
    refine xc_cons (xh_eq_T rfl (XI_lit (by decide +kernel)) c16) ?_
    refine xc_cons (xh_lt_T (XI_lit (by decide +kernel)) rfl c20) ?_
    refine xc_cons (xh_lt_T (XI_lit (by decide +kernel)) rfl c21) ?_
    refine xc_cons (xh_gt_T (XI_lit (by decide +kernel)) rfl c22) ?_
    exact xc_nil
  refine (Classical.em (XI r (.arg 1) = (3 : Int))).elim (fun (c23 : xhid (XI r (.arg 1) = (3 : Int))) => ?_) (fun (c23 : xhid (¬ (XI r (.arg 1) = (3 : Int)))) => ?_)
  ·
    have c24 : xhid ((2 : Int) < XI r (.arg 49)) := ((by have z0 : ¬ (XI r (.sub (.arg 49) (.int 6)) < (0 : Int)) := h0; omega) : (2 : Int) < XI r (.arg 49))
    have c25 : xhid ((3 : Int) < XI r (.arg 49)) := ((by have z0 : ¬ (XI r (.sub (.arg 49) (.int 6)) < (0 : Int)) := h0; omega) : (3 : Int) < XI r (.arg 49))
    have c26 : xhid ((1 : Int) < XI r (.arg 49)) := ((by have z0 : (3 : Int) < XI r (.arg 49) := c25; omega) : (1 : Int) < XI r (.arg 49))
    have c27 : xhid ((2 : Int) < XI r (.arg 49)) := ((by have z0 : (3 : Int) < XI r (.arg 49) := c25; omega) : (2 : Int) < XI r (.arg 49))
    have c28 : xhid ((3 : Int) < XI r (.arg 49)) := ((by have z0 : (3 : Int) < XI r (.arg 49) := c25; omega) : (3 : Int) < XI r (.arg 49))
    have c29 : xhid (XI r (.sub (.arg 49) (.int 6)) < (6 : Int)) := ((by omega) : XI r (.sub (.arg 49) (.int 6)) < (6 : Int))
    refine ⟨156, _, ?_, lf_35_3⟩
    refine xc_cons (xh_gt_F (XI_lit (by decide +kernel)) rfl h0) ?_
    refine xc_cons (xh_lt_T (XI_lit (by decide +kernel)) rfl h1) ?_
    refine xc_cons (xh_eq_T rfl (XI_lit (by decide +kernel)) hk) ?_
    refine xc_cons (xh_lt_T (XI_lit (by decide +kernel)) rfl c1) ?_
    refine xc_cons (xh_eq_T rfl (XI_lit (by decide +kernel)) c23) ?_
    refine xc_cons (xh_lt_T (XI_lit (by decide +kernel)) rfl c24) ?_
    refine xc_cons (xh_lt_T (XI_lit (by decide +kernel)) rfl c25) ?_
    refine xc_cons (xh_lt_T (XI_lit (by decide +kernel)) rfl c26) ?_
    refine xc_cons (xh_eq_T rfl (XI_lit (by decide +kernel)) c23) ?_
    refine xc_cons (xh_lt_T (XI_lit (by decide +kernel)) rfl c27) ?_
    refine xc_cons (xh_lt_T (XI_lit (by decide +kernel)) rfl c28) ?_
    refine xc_cons (xh_gt_T (XI_lit (by decide +kernel)) rfl c29) ?_
    exact xc_nil
  have c30 : xhid ((2 : Int) < XI r (.arg 49)) := ((by have z0 : ¬ (XI r (.sub (.arg 49) (.int 6)) < (0 : Int)) := h0; omega) : (2 : Int) < XI r (.arg 49))
  have c31 : xhid ((3 : Int) < XI r (.arg 49)) := ((by have z0 : ¬ (XI r (.sub (.arg 49) (.int 6)) < (0 : Int)) := h0; omega) : (3 : Int) < XI r (.arg 49))
  refine (Classical.em (XI r (.arg 1) < (0 : Int))).elim (fun (c32 : xhid (XI r (.arg 1) < (0 : Int))) => ?_) (fun (c32 : xhid (¬ (XI r (.arg 1) < (0 : Int)))) => ?_)
  ·
    have c33 : xhid ((1 : Int) < XI r (.arg 49)) := ((by have z0 : (3 : Int) < XI r (.arg 49) := c31; omega) : (1 : Int) < XI r (.arg 49))
    have c34 : xhid ((2 : Int) < XI r (.arg 49)) := ((by have z0 : (3 : Int) < XI r (.arg 49) := c31; omega) : (2 : Int) < XI r (.arg 49))
    have c35 : xhid ((3 : Int) < XI r (.arg 49)) := ((by have z0 : (3 : Int) < XI r (.arg 49) := c31; omega) : (3 : Int) < XI r (.arg 49))
    have c36 : xhid (XI r (.arg 1) < (0 : Int)) := ((by have z0 : XI r (.arg 1) < (0 : Int) := c32; have z1 : -2147483648 ≤ XI r (.arg 1) := b1; have z2 : XI r (.arg 1) < 2147483648 := d1; omega) : XI r (.arg 1) < (0 : Int))
    have c37 : xhid (XI r (.sub (.arg 49) (.int 6)) < (6 : Int)) := ((by omega) : XI r (.sub (.arg 49) (.int 6)) < (6 : Int))
    refine ⟨129, _, ?_, lf_35_4⟩
    refine xc_cons (xh_gt_F (XI_lit (by decide +kernel)) rfl h0) ?_
    refine xc_cons (xh_lt_T (XI_lit (by decide +kernel)) rfl h1) ?_
    refine xc_cons (xh_eq_T rfl (XI_lit (by decide +kernel)) hk) ?_
    refine xc_cons (xh_lt_T (XI_lit (by decide +kernel)) rfl c1) ?_
    refine xc_cons (xh_lt_T (XI_lit (by decide +kernel)) rfl c30) ?_
    refine xc_cons (xh_lt_T (XI_lit (by decide +kernel)) rfl c31) ?_
    refine xc_cons (xh_lt_T rfl (XI_lit (by decide +kernel)) c32) ?_
    refine xc_cons (xh_lt_T (XI_lit (by decide +kernel)) rfl c33) ?_
    refine xc_cons (xh_lt_T (XI_lit (by decide +kernel)) rfl c34) ?_
    refine xc_cons (xh_lt_T (XI_lit (by decide +kernel)) rfl c35) ?_
    refine xc_cons (xh_lt_T rfl (XI_lit (by decide +kernel)) c36) ?_
    refine xc_cons (xh_gt_T (XI_lit (by decide +kernel)) rfl c37) ?_
    exact xc_nil
  ·
    have c38 : xhid ((4 : Int) ≤ XI r (.arg 1)) := ((by have z0 : ¬ (XI r (.arg 1) < (0 : Int)) := c32; have z1 : ¬ (XI r (.arg 1) = (0 : Int)) := c2; have z2 : ¬ (XI r (.arg 1) = (1 : Int)) := c9; have z3 : ¬ (XI r (.arg 1) = (2 : Int)) := c16; have z4 : ¬ (XI r (.arg 1) = (3 : Int)) := c23; have z5 : -2147483648 ≤ XI r (.arg 1) := b1; have z6 : XI r (.arg 1) < 2147483648 := d1; omega) : (4 : Int) ≤ XI r (.arg 1))
    have c39 : xhid ((1 : Int) < XI r (.arg 49)) := ((by have z0 : (3 : Int) < XI r (.arg 49) := c31; omega) : (1 : Int) < XI r (.arg 49))
    have c40 : xhid ((2 : Int) < XI r (.arg 49)) := ((by have z0 : (3 : Int) < XI r (.arg 49) := c31; omega) : (2 : Int) < XI r (.arg 49))
    have c41 : xhid ((3 : Int) < XI r (.arg 49)) := ((by have z0 : (3 : Int) < XI r (.arg 49) := c31; omega) : (3 : Int) < XI r (.arg 49))
    have c42 : xhid (¬ (XI r (.arg 1) < (0 : Int))) := ((by have z0 : (4 : Int) ≤ XI r (.arg 1) := c38; have z1 : -2147483648 ≤ XI r (.arg 1) := b1; have z2 : XI r (.arg 1) < 2147483648 := d1; omega) : ¬ (XI r (.arg 1) < (0 : Int)))
    have c43 : xhid ((3 : Int) < XI r (.arg 1)) := ((by have z0 : ¬ (XI r (.arg 1) < (0 : Int)) := c42; have z1 : ¬ (XI r (.arg 1) = (0 : Int)) := c2; have z2 : ¬ (XI r (.arg 1) = (1 : Int)) := c9; have z3 : ¬ (XI r (.arg 1) = (2 : Int)) := c16; have z4 : ¬ (XI r (.arg 1) = (3 : Int)) := c23; have z5 : -2147483648 ≤ XI r (.arg 1) := b1; have z6 : XI r (.arg 1) < 2147483648 := d1; omega) : (3 : Int) < XI r (.arg 1))
    have c44 : xhid (XI r (.sub (.arg 49) (.int 6)) < (6 : Int)) := ((by omega) : XI r (.sub (.arg 49) (.int 6)) < (6 : Int))
    refine ⟨135, _, ?_, lf_35_5⟩
    refine xc_cons (xh_gt_F (XI_lit (by decide +kernel)) rfl h0) ?_
    refine xc_cons (xh_lt_T (XI_lit (by decide +kernel)) rfl h1) ?_
    refine xc_cons (xh_eq_T rfl (XI_lit (by decide +kernel)) hk) ?_
    refine xc_cons (xh_lt_T (XI_lit (by decide +kernel)) rfl c1) ?_
    refine xc_cons (xh_lt_T (XI_lit (by decide +kernel)) rfl c30) ?_
    refine xc_cons (xh_lt_T (XI_lit (by decide +kernel)) rfl c31) ?_
    refine xc_cons (xh_lt_F rfl (XI_lit (by decide +kernel)) c32) ?_
    refine xc_cons (xh_ge_T rfl (XI_lit (by decide +kernel)) c38) ?_
    refine xc_cons (xh_lt_T (XI_lit (by decide +kernel)) rfl c39) ?_
    refine xc_cons (xh_lt_T (XI_lit (by decide +kernel)) rfl c40) ?_
    refine xc_cons (xh_lt_T (XI_lit (by decide +kernel)) rfl c41) ?_
    refine xc_cons (xh_lt_F rfl (XI_lit (by decide +kernel)) c42) ?_
    refine xc_cons (xh_gt_T rfl (XI_lit (by decide +kernel)) c43) ?_
    refine xc_cons (xh_gt_T (XI_lit (by decide +kernel)) rfl c44) ?_
    exact xc_nil
theorem lf_36_0 : xfin (xev 209 20 xlaw 18 xlo0 [] xh0 [(.gt, .int 0, .sub (.arg 49) (.int 6), false), (.lt, .int 0, .arg 49, true), (.eq, .op2 .iand (.arg 0) (.int 63), .int 36, true), (.lt, .int 1, .arg 49, true), (.eq, .arg 1, .int 0, true), (.lt, .int 2, .arg 49, true), (.lt, .int 3, .arg 49, true), (.eq, .arg 3, .int 0, true), (.lt, .int 4, .arg 49, true), (.lt, .int 5, .arg 49, true), (.lt, .int 1, .arg 49, true), (.eq, .arg 1, .int 0, true), (.lt, .int 2, .arg 49, true), (.lt, .int 3, .arg 49, true), (.eq, .arg 3, .int 0, true), (.lt, .int 4, .arg 49, true), (.lt, .int 5, .arg 49, true), (.gt, .int 6, .sub (.arg 49) (.int 6), true)]) = true := by decide +kernel
theorem lf_36_1 : xfin (xev 209 20 xlaw 18 xlo0 [] xh0 [(.gt, .int 0, .sub (.arg 49) (.int 6), false), (.lt, .int 0, .arg 49, true), (.eq, .op2 .iand (.arg 0) (.int 63), .int 36, true), (.lt, .int 1, .arg 49, true), (.eq, .arg 1, .int 0, true), (.lt, .int 2, .arg 49, true), (.lt, .int 3, .arg 49, true), (.eq, .arg 3, .int 1, true), (.lt, .int 4, .arg 49, true), (.lt, .int 5, .arg 49, true), (.lt, .int 1, .arg 49, true), (.eq, .arg 1, .int 0, true), (.lt, .int 2, .arg 49, true), (.lt, .int 3, .arg 49, true), (.eq, .arg 3, .int 1, true), (.lt, .int 4, .arg 49, true), (.lt, .int 5, .arg 49, true), (.gt, .int 6, .sub (.arg 49) (.int 6), true)]) = true := by decide +kernel
theorem lf_36_2 : xfin (xev 209 20 xlaw 18 xlo0 [] xh0 [(.gt, .int 0, .sub (.arg 49) (.int 6), false), (.lt, .int 0, .arg 49, true), (.eq, .op2 .iand (.arg 0) (.int 63), .int 36, true), (.lt, .int 1, .arg 49, true), (.eq, .arg 1, .int 0, true), (.lt, .int 2, .arg 49, true), (.lt, .int 3, .arg 49, true), (.eq, .arg 3, .int 2, true), (.lt, .int 4, .arg 49, true), (.lt, .int 5, .arg 49, true), (.lt, .int 1, .arg 49, true), (.eq, .arg 1, .int 0, true), (.lt, .int 2, .arg 49, true), (.lt, .int 3, .arg 49, true), (.eq, .arg 3, .int 2, true), (.lt, .int 4, .arg 49, true), (.lt, .int 5, .arg 49, true), (.gt, .int 6, .sub (.arg 49) (.int 6), true)]) = true := by decide +kernel
theorem lf_36_3 : xfin (xev 209 20 xlaw 18 xlo0 [] xh0 [(.gt, .int 0, .sub (.arg 49) (.int 6), false), (.lt, .int 0, .arg 49, true), (.eq, .op2 .iand (.arg 0) (.int 63), .int 36, true), (.lt, .int 1, .arg 49, true), (.eq, .arg 1, .int 0, true), (.lt, .int 2, .arg 49, true), (.lt, .int 3, .arg 49, true), (.eq, .arg 3, .int 3, true), (.lt, .int 4, .arg 49, true), (.lt, .int 5, .arg 49, true), (.lt, .int 1, .arg 49, true), (.eq, .arg 1, .int 0, true), (.lt, .int 2, .arg 49, true), (.lt, .int 3, .arg 49, true), (.eq, .arg 3, .int 3, true), (.lt, .int 4, .arg 49, true), (.lt, .int 5, .arg 49, true), (.gt, .int 6, .sub (.arg 49) (.int 6), true)]) = true := by decide +kernel
theorem lf_36_4 : xfin (xev 177 20 xlaw 18 xlo0 [] xh0 [(.gt, .int 0, .sub (.arg 49) (.int 6), false), (.lt, .int 0, .arg 49, true), (.eq, .op2 .iand (.arg 0) (.int 63), .int 36, true), (.lt, .int 1, .arg 49, true), (.eq, .arg 1, .int 0, true), (.lt, .int 2, .arg 49, true), (.lt, .int 3, .arg 49, true), (.lt, .int 4, .arg 49, true), (.lt, .int 5, .arg 49, true), (.lt, .arg 3, .int 0, true), (.lt, .int 1, .arg 49, true), (.eq, .arg 1, .int 0, true), (.lt, .int 2, .arg 49, true), (.lt, .int 3, .arg 49, true), (.lt, .int 4, .arg 49, true), (.lt, .int 5, .arg 49, true), (.lt, .arg 3, .int 0, true), (.gt, .int 6, .sub (.arg 49) (.int 6), true)]) = true := by decide +kernel
theorem lf_36_5 : xfin (xev 183 20 xlaw 18 xlo0 [] xh0 [(.gt, .int 0, .sub (.arg 49) (.int 6), false), (.lt, .int 0, .arg 49, true), (.eq, .op2 .iand (.arg 0) (.int 63), .int 36, true), (.lt, .int 1, .arg 49, true), (.eq, .arg 1, .int 0, true), (.lt, .int 2, .arg 49, true), (.lt, .int 3, .arg 49, true), (.lt, .int 4, .arg 49, true), (.lt, .int 5, .arg 49, true), (.lt, .arg 3, .int 0, false), (.ge, .arg 3, .int 4, true), (.lt, .int 1, .arg 49, true), (.eq, .arg 1, .int 0, true), (.lt, .int 2, .arg 49, true), (.lt, .int 3, .arg 49, true), (.lt, .int 4, .arg 49, true), (.lt, .int 5, .arg 49, true), (.lt, .arg 3, .int 0, false), (.gt, .arg 3, .int 3, true), (.gt, .int 6, .sub (.arg 49) (.int 6), true)]) = true := by decide +kernel
theorem lf_36_6 : xfin (xev 209 20 xlaw 18 xlo0 [] xh0 [(.gt, .int 0, .sub (.arg 49) (.int 6), false), (.lt, .int 0, .arg 49, true), (.eq, .op2 .iand (.arg 0) (.int 63), .int 36, true), (.lt, .int 1, .arg 49, true), (.eq, .arg 1, .int 1, true), (.lt, .int 2, .arg 49, true), (.lt, .int 3, .arg 49, true), (.eq, .arg 3, .int 0, true), (.lt, .int 4, .arg 49, true), (.lt, .int 5, .arg 49, true), (.lt, .int 1, .arg 49, true), (.eq, .arg 1, .int 1, true), (.lt, .int 2, .arg 49, true), (.lt, .int 3, .arg 49, true), (.eq, .arg 3, .int 0, true), (.lt, .int 4, .arg 49, true), (.lt, .int 5, .arg 49, true), (.gt, .int 6, .sub (.arg 49) (.int 6), true)]) = true := by decide +kernel
theorem lf_36_7 : xfin (xev 209 20 xlaw 18 xlo0 [] xh0 [(.gt, .int 0, .sub (.arg 49) (.int 6), false), (.lt, .int 0, .arg 49, true), (.eq, .op2 .iand (.arg 0) (.int 63), .int 36, true), (.lt, .int 1, .arg 49, true), (.eq, .arg 1, .int 1, true), (.lt, .int 2, .arg 49, true), (.lt, .int 3, .arg 49, true), (.eq, .arg 3, .int 1, true), (.lt, .int 4, .arg 49, true), (.lt, .int 5, .arg 49, true), (.lt, .int 1, .arg 49, true), (.eq, .arg 1, .int 1, true), (.lt, .int 2, .arg 49, true), (.lt, .int 3, .arg 49, true), (.eq, .arg 3, .int 1, true), (.lt, .int 4, .arg 49, true), (.lt, .int 5, .arg 49, true), (.gt, .int 6, .sub (.arg 49) (.int 6), true)]) = true := by decide +kernel
theorem lf_36_8 : xfin (xev 209 20 xlaw 18 xlo0 [] xh0 [(.gt, .int 0, .sub (.arg 49) (.int 6), false), (.lt, .int 0, .arg 49, true), (.eq, .op2 .iand (.arg 0) (.int 63), .int 36, true), (.lt, .int 1, .arg 49, true), (.eq, .arg 1, .int 1, true), (.lt, .int 2, .arg 49, true), (.lt, .int 3, .arg 49, true), (.eq, .arg 3, .int 2, true), (.lt, .int 4, .arg 49, true), (.lt, .int 5, .arg 49, true), (.lt, .int 1, .arg 49, true), (.eq, .arg 1, .int 1, true), (.lt, .int 2, .arg 49, true), (.lt, .int 3, .arg 49, true), (.eq, .arg 3, .int 2, true), (.lt, .int 4, .arg 49, true), (.lt, .int 5, .arg 49, true), (.gt, .int 6, .sub (.arg 49) (.int 6), true)]) = true := by decide +kernel
theorem lf_36_9 : xfin (xev 209 20 xlaw 18 xlo0 [] xh0 [(.gt, .int 0, .sub (.arg 49) (.int 6), false), (.lt, .int 0, .arg 49, true), (.eq, .op2 .iand (.arg 0) (.int 63), .int 36, true), (.lt, .int 1, .arg 49, true), (.eq, .arg 1, .int 1, true), (.lt, .int 2, .arg 49, true), (.lt, .int 3, .arg 49, true), (.eq, .arg 3, .int 3, true), (.lt, .int 4, .arg 49, true), (.lt, .int 5, .arg 49, true), (.lt, .int 1, .arg 49, true), (.eq, .arg 1, .int 1, true), (.lt, .int 2, .arg 49, true), (.lt, .int 3, .arg 49, true), (.eq, .arg 3, .int 3, true), (.lt, .int 4, .arg 49, true), (.lt, .int 5, .arg 49, true), (.gt, .int 6, .sub (.arg 49) (.int 6), true)]) = true := by decide +kernel
theorem lf_36_10 : xfin (xev 177 20 xlaw 18 xlo0 [] xh0 [(.gt, .int 0, .sub (.arg 49) (.int 6), false), (.lt, .int 0, .arg 49, true), (.eq, .op2 .iand (.arg 0) (.int 63), .int 36, true), (.lt, .int 1, .arg 49, true), (.eq, .arg 1, .int 1, true), (.lt, .int 2, .arg 49, true), (.lt, .int 3, .arg 49, true), (.lt, .int 4, .arg 49, true), (.lt, .int 5, .arg 49, true), (.lt, .arg 3, .int 0, true), (.lt, .int 1, .arg 49, true), (.eq, .arg 1, .int 1, true), (.lt, .int 2, .arg 49, true), (.lt, .int 3, .arg 49, true), (.lt, .int 4, .arg 49, true), (.lt, .int 5, .arg 49, true), (.lt, .arg 3, .int 0, true), (.gt, .int 6, .sub (.arg 49) (.int 6), true)]) = true := by decide +kernel
theorem lf_36_11 : xfin (xev 183 20 xlaw 18 xlo0 [] xh0 [(.gt, .int 0, .sub (.arg 49) (.int 6), false), (.lt, .int 0, .arg 49, true), (.eq, .op2 .iand (.arg 0) (.int 63), .int 36, true), (.lt, .int 1, .arg 49, true), (.eq, .arg 1, .int 1, true), (.lt, .int 2, .arg 49, true), (.lt, .int 3, .arg 49, true), (.lt, .int 4, .arg 49, true), (.lt, .int 5, .arg 49, true), (.lt, .arg 3, .int 0, false), (.ge, .arg 3, .int 4, true), (.lt, .int 1, .arg 49, true), (.eq, .arg 1, .int 1, true), (.lt, .int 2, .arg 49, true), (.lt, .int 3, .arg 49, true), (.lt, .int 4, .arg 49, true), (.lt, .int 5, .arg 49, true), (.lt, .arg 3, .int 0, false), (.gt, .arg 3, .int 3, true), (.gt, .int 6, .sub (.arg 49) (.int 6), true)]) = true := by decide +kernel
theorem lf_36_12 : xfin (xev 209 20 xlaw 18 xlo0 [] xh0 [(.gt, .int 0, .sub (.arg 49) (.int 6), false), (.lt, .int 0, .arg 49, true), (.eq, .op2 .iand (.arg 0) (.int 63), .int 36, true), (.lt, .int 1, .arg 49, true), (.eq, .arg 1, .int 2, true), (.lt, .int 2, .arg 49, true), (.lt, .int 3, .arg 49, true), (.eq, .arg 3, .int 0, true), (.lt, .int 4, .arg 49, true), (.lt, .int 5, .arg 49, true), (.lt, .int 1, .arg 49, true), (.eq, .arg 1, .int 2, true), (.lt, .int 2, .arg 49, true), (.lt, .int 3, .arg 49, true), (.eq, .arg 3, .int 0, true), (.lt, .int 4, .arg 49, true), (.lt, .int 5, .arg 49, true), (.gt, .int 6, .sub (.arg 49) (.int 6), true)]) = true := by decide +kernel
theorem lf_36_13 : xfin (xev 209 20 xlaw 18 xlo0 [] xh0 [(.gt, .int 0, .sub (.arg 49) (.int 6), false), (.lt, .int 0, .arg 49, true), (.eq, .op2 .iand (.arg 0) (.int 63), .int 36, true), (.lt, .int 1, .arg 49, true), (.eq, .arg 1, .int 2, true), (.lt, .int 2, .arg 49, true), (.lt, .int 3, .arg 49, true), (.eq, .arg 3, .int 1, true), (.lt, .int 4, .arg 49, true), (.lt, .int 5, .arg 49, true), (.lt, .int 1, .arg 49, true), (.eq, .arg 1, .int 2, true), (.lt, .int 2, .arg 49, true), (.lt, .int 3, .arg 49, true), (.eq, .arg 3, .int 1, true), (.lt, .int 4, .arg 49, true), (.lt, .int 5, .arg 49, true), (.gt, .int 6, .sub (.arg 49) (.int 6), true)]) = true := by decide +kernel
theorem lf_36_14 : xfin (xev 209 20 xlaw 18 xlo0 [] xh0 [(.gt, .int 0, .sub (.arg 49) (.int 6), false), (.lt, .int 0, .arg 49, true), (.eq, .op2 .iand (.arg 0) (.int 63), .int 36, true), (.lt, .int 1, .arg 49, true), (.eq, .arg 1, .int 2, true), (.lt, .int 2, .arg 49, true), (.lt, .int 3, .arg 49, true), (.eq, .arg 3, .int 2, true), (.lt, .int 4, .arg 49, true), (.lt, .int 5, .arg 49, true), (.lt, .int 1, .arg 49, true), (.eq, .arg 1, .int 2, true), (.lt, .int 2, .arg 49, true), (.lt, .int 3, .arg 49, true), (.eq, .arg 3, .int 2, true), (.lt, .int 4, .arg 49, true), (.lt, .int 5, .arg 49, true), (.gt, .int 6, .sub (.arg 49) (.int 6), true)]) = true := by decide +kernel
theorem lf_36_15 : xfin (xev 209 20 xlaw 18 xlo0 [] xh0 [(.gt, .int 0, .sub (.arg 49) (.int 6), false), (.lt, .int 0, .arg 49, true), (.eq, .op2 .iand (.arg 0) (.int 63), .int 36, true), (.lt, .int 1, .arg 49, true), (.eq, .arg 1, .int 2, true), (.lt, .int 2, .arg 49, true), (.lt, .int 3, .arg 49, true), (.eq, .arg 3, .int 3, true), (.lt, .int 4, .arg 49, true), (.lt, .int 5, .arg 49, true), (.lt, .int 1, .arg 49, true), (.eq, .arg 1, .int 2, true), (.lt, .int 2, .arg 49, true), (.lt, .int 3, .arg 49, true), (.eq, .arg 3, .int 3, true), (.lt, .int 4, .arg 49, true), (.lt, .int 5, .arg 49, true), (.gt, .int 6, .sub (.arg 49) (.int 6), true)]) = true := by decide +kernel
theorem lf_36_16 : xfin (xev 177 20 xlaw 18 xlo0 [] xh0 [(.gt, .int 0, .sub (.arg 49) (.int 6), false), (.lt, .int 0, .arg 49, true), (.eq, .op2 .iand (.arg 0) (.int 63), .int 36, true), (.lt, .int 1, .arg 49, true), (.eq, .arg 1, .int 2, true), (.lt, .int 2, .arg 49, true), (.lt, .int 3, .arg 49, true), (.lt, .int 4, .arg 49, true), (.lt, .int 5, .arg 49, true), (.lt, .arg 3, .int 0, true), (.lt, .int 1, .arg 49, true), (.eq, .arg 1, .int 2, true), (.lt, .int 2, .arg 49, true), (.lt, .int 3, .arg 49, true), (.lt, .int 4, .arg 49, true), (.lt, .int 5, .arg 49, true), (.lt, .arg 3, .int 0, true), (.gt, .int 6, .sub (.arg 49) (.int 6), true)]) = true := by decide +kernel
theorem lf_36_17 : xfin (xev 183 20 xlaw 18 xlo0 [] xh0 [(.gt, .int 0, .sub (.arg 49) (.int 6), false), (.lt, .int 0, .arg 49, true), (.eq, .op2 .iand (.arg 0) (.int 63), .int 36, true), (.lt, .int 1, .arg 49, true), (.eq, .arg 1, .int 2, true), (.lt, .int 2, .arg 49, true), (.lt, .int 3, .arg 49, true), (.lt, .int 4, .arg 49, true), (.lt, .int 5, .arg 49, true), (.lt, .arg 3, .int 0, false), (.ge, .arg 3, .int 4, true), (.lt, .int 1, .arg 49, true), (.eq, .arg 1, .int 2, true), (.lt, .int 2, .arg 49, true), (.lt, .int 3, .arg 49, true), (.lt, .int 4, .arg 49, true), (.lt, .int 5, .arg 49, true), (.lt, .arg 3, .int 0, false), (.gt, .arg 3, .int 3, true), (.gt, .int 6, .sub (.arg 49) (.int 6), true)]) = true := by decide +kernel
theorem lf_36_18 : xfin (xev 209 20 xlaw 18 xlo0 [] xh0 [(.gt, .int 0, .sub (.arg 49) (.int 6), false), (.lt, .int 0, .arg 49, true), (.eq, .op2 .iand (.arg 0) (.int 63), .int 36, true), (.lt, .int 1, .arg 49, true), (.eq, .arg 1, .int 3, true), (.lt, .int 2, .arg 49, true), (.lt, .int 3, .arg 49, true), (.eq, .arg 3, .int 0, true), (.lt, .int 4, .arg 49, true), (.lt, .int 5, .arg 49, true), (.lt, .int 1, .arg 49, true), (.eq, .arg 1, .int 3, true), (.lt, .int 2, .arg 49, true), (.lt, .int 3, .arg 49, true), (.eq, .arg 3, .int 0, true), (.lt, .int 4, .arg 49, true), (.lt, .int 5, .arg 49, true), (.gt, .int 6, .sub (.arg 49) (.int 6), true)]) = true := by decide +kernel
theorem lf_36_19 : xfin (xev 209 20 xlaw 18 xlo0 [] xh0 [(.gt, .int 0, .sub (.arg 49) (.int 6), false), (.lt, .int 0, .arg 49, true), (.eq, .op2 .iand (.arg 0) (.int 63), .int 36, true), (.lt, .int 1, .arg 49, true), (.eq, .arg 1, .int 3, true), (.lt, .int 2, .arg 49, true), (.lt, .int 3, .arg 49, true), (.eq, .arg 3, .int 1, true), (.lt, .int 4, .arg 49, true), (.lt, .int 5, .arg 49, true), (.lt, .int 1, .arg 49, true), (.eq, .arg 1, .int 3, true), (.lt, .int 2, .arg 49, true), (.lt, .int 3, .arg 49, true), (.eq, .arg 3, .int 1, true), (.lt, .int 4, .arg 49, true), (.lt, .int 5, .arg 49, true), (.gt, .int 6, .sub (.arg 49) (.int 6), true)]) = true := by decide +kernel
theorem lf_36_20 : xfin (xev 209 20 xlaw 18 xlo0 [] xh0 [(.gt, .int 0, .sub (.arg 49) (.int 6), false), (.lt, .int 0, .arg 49, true), (.eq, .op2 .iand (.arg 0) (.int 63), .int 36, true), (.lt, .int 1, .arg 49, true), (.eq, .arg 1, .int 3, true), (.lt, .int 2, .arg 49, true), (.lt, .int 3, .arg 49, true), (.eq, .arg 3, .int 2, true), (.lt, .int 4, .arg 49, true), (.lt, .int 5, .arg 49, true), (.lt, .int 1, .arg 49, true), (.eq, .arg 1, .int 3, true), (.lt, .int 2, .arg 49, true), (.lt, .int 3, .arg 49, true), (.eq, .arg 3, .int 2, true), (.lt, .int 4, .arg 49, true), (.lt, .int 5, .arg 49, true), (.gt, .int 6, .sub (.arg 49) (.int 6), true)]) = true := by decide +kernel
theorem lf_36_21 : xfin (xev 209 20 xlaw 18 xlo0 [] xh0 [(.gt, .int 0, .sub (.arg 49) (.int 6), false), (.lt, .int 0, .arg 49, true), (.eq, .op2 .iand (.arg 0) (.int 63), .int 36, true), (.lt, .int 1, .arg 49, true), (.eq, .arg 1, .int 3, true), (.lt, .int 2, .arg 49, true), (.lt, .int 3, .arg 49, true), (.eq, .arg 3, .int 3, true), (.lt, .int 4, .arg 49, true), (.lt, .int 5, .arg 49, true), (.lt, .int 1, .arg 49, true), (.eq, .arg 1, .int 3, true), (.lt, .int 2, .arg 49, true), (.lt, .int 3, .arg 49, true), (.eq, .arg 3, .int 3, true), (.lt, .int 4, .arg 49, true), (.lt, .int 5, .arg 49, true), (.gt, .int 6, .sub (.arg 49) (.int 6), true)]) = true := by decide +kernel
theorem lf_36_22 : xfin (xev 177 20 xlaw 18 xlo0 [] xh0 [(.gt, .int 0, .sub (.arg 49) (.int 6), false), (.lt, .int 0, .arg 49, true), (.eq, .op2 .iand (.arg 0) (.int 63), .int 36, true), (.lt, .int 1, .arg 49, true), (.eq, .arg 1, .int 3, true), (.lt, .int 2, .arg 49, true), (.lt, .int 3, .arg 49, true), (.lt, .int 4, .arg 49, true), (.lt, .int 5, .arg 49, true), (.lt, .arg 3, .int 0, true), (.lt, .int 1, .arg 49, true), (.eq, .arg 1, .int 3, true), (.lt, .int 2, .arg 49, true), (.lt, .int 3, .arg 49, true), (.lt, .int 4, .arg 49, true), (.lt, .int 5, .arg 49, true), (.lt, .arg 3, .int 0, true), (.gt, .int 6, .sub (.arg 49) (.int 6), true)]) = true := by decide +kernel
theorem lf_36_23 : xfin (xev 183 20 xlaw 18 xlo0 [] xh0 [(.gt, .int 0, .sub (.arg 49) (.int 6), false), (.lt, .int 0, .arg 49, true), (.eq, .op2 .iand (.arg 0) (.int 63), .int 36, true), (.lt, .int 1, .arg 49, true), (.eq, .arg 1, .int 3, true), (.lt, .int 2, .arg 49, true), (.lt, .int 3, .arg 49, true), (.lt, .int 4, .arg 49, true), (.lt, .int 5, .arg 49, true), (.lt, .arg 3, .int 0, false), (.ge, .arg 3, .int 4, true), (.lt, .int 1, .arg 49, true), (.eq, .arg 1, .int 3, true), (.lt, .int 2, .arg 49, true), (.lt, .int 3, .arg 49, true), (.lt, .int 4, .arg 49, true), (.lt, .int 5, .arg 49, true), (.lt, .arg 3, .int 0, false), (.gt, .arg 3, .int 3, true), (.gt, .int 6, .sub (.arg 49) (.int 6), true)]) = true := by decide +kernel
theorem lf_36_24 : xfin (xev 149 20 xlaw 18 xlo0 [] xh0 [(.gt, .int 0, .sub (.arg 49) (.int 6), false), (.lt, .int 0, .arg 49, true), (.eq, .op2 .iand (.arg 0) (.int 63), .int 36, true), (.lt, .int 1, .arg 49, true), (.lt, .int 2, .arg 49, true), (.lt, .int 3, .arg 49, true), (.eq, .arg 3, .int 0, true), (.lt, .int 4, .arg 49, true), (.lt, .int 5, .arg 49, true), (.lt, .arg 1, .int 0, true), (.lt, .int 1, .arg 49, true), (.lt, .int 2, .arg 49, true), (.lt, .int 3, .arg 49, true), (.eq, .arg 3, .int 0, true), (.lt, .int 4, .arg 49, true), (.lt, .int 5, .arg 49, true), (.lt, .arg 1, .int 0, true), (.gt, .int 6, .sub (.arg 49) (.int 6), true)]) = true := by decide +kernel
theorem lf_36_25 : xfin (xev 155 20 xlaw 18 xlo0 [] xh0 [(.gt, .int 0, .sub (.arg 49) (.int 6), false), (.lt, .int 0, .arg 49, true), (.eq, .op2 .iand (.arg 0) (.int 63), .int 36, true), (.lt, .int 1, .arg 49, true), (.lt, .int 2, .arg 49, true), (.lt, .int 3, .arg 49, true), (.eq, .arg 3, .int 0, true), (.lt, .int 4, .arg 49, true), (.lt, .int 5, .arg 49, true), (.lt, .arg 1, .int 0, false), (.ge, .arg 1, .int 4, true), (.lt, .int 1, .arg 49, true), (.lt, .int 2, .arg 49, true), (.lt, .int 3, .arg 49, true), (.eq, .arg 3, .int 0, true), (.lt, .int 4, .arg 49, true), (.lt, .int 5, .arg 49, true), (.lt, .arg 1, .int 0, false), (.gt, .arg 1, .int 3, true), (.gt, .int 6, .sub (.arg 49) (.int 6), true)]) = true := by decide +kernel
theorem lf_36_26 : xfin (xev 149 20 xlaw 18 xlo0 [] xh0 [(.gt, .int 0, .sub (.arg 49) (.int 6), false), (.lt, .int 0, .arg 49, true), (.eq, .op2 .iand (.arg 0) (.int 63), .int 36, true), (.lt, .int 1, .arg 49, true), (.lt, .int 2, .arg 49, true), (.lt, .int 3, .arg 49, true), (.eq, .arg 3, .int 1, true), (.lt, .int 4, .arg 49, true), (.lt, .int 5, .arg 49, true), (.lt, .arg 1, .int 0, true), (.lt, .int 1, .arg 49, true), (.lt, .int 2, .arg 49, true), (.lt, .int 3, .arg 49, true), (.eq, .arg 3, .int 1, true), (.lt, .int 4, .arg 49, true), (.lt, .int 5, .arg 49, true), (.lt, .arg 1, .int 0, true), (.gt, .int 6, .sub (.arg 49) (.int 6), true)]) = true := by decide +kernel
theorem lf_36_27 : xfin (xev 155 20 xlaw 18 xlo0 [] xh0 [(.gt, .int 0, .sub (.arg 49) (.int 6), false), (.lt, .int 0, .arg 49, true), (.eq, .op2 .iand (.arg 0) (.int 63), .int 36, true), (.lt, .int 1, .arg 49, true), (.lt, .int 2, .arg 49, true), (.lt, .int 3, .arg 49, true), (.eq, .arg 3, .int 1, true), (.lt, .int 4, .arg 49, true), (.lt, .int 5, .arg 49, true), (.lt, .arg 1, .int 0, false), (.ge, .arg 1, .int 4, true), (.lt, .int 1, .arg 49, true), (.lt, .int 2, .arg 49, true), (.lt, .int 3, .arg 49, true), (.eq, .arg 3, .int 1, true), (.lt, .int 4, .arg 49, true), (.lt, .int 5, .arg 49, true), (.lt, .arg 1, .int 0, false), (.gt, .arg 1, .int 3, true), (.gt, .int 6, .sub (.arg 49) (.int 6), true)]) = true := by decide +kernel
theorem lf_36_28 : xfin (xev 149 20 xlaw 18 xlo0 [] xh0 [(.gt, .int 0, .sub (.arg 49) (.int 6), false), (.lt, .int 0, .arg 49, true), (.eq, .op2 .iand (.arg 0) (.int 63), .int 36, true), (.lt, .int 1, .arg 49, true), (.lt, .int 2, .arg 49, true), (.lt, .int 3, .arg 49, true), (.eq, .arg 3, .int 2, true), (.lt, .int 4, .arg 49, true), (.lt, .int 5, .arg 49, true), (.lt, .arg 1, .int 0, true), (.lt, .int 1, .arg 49, true), (.lt, .int 2, .arg 49, true), (.lt, .int 3, .arg 49, true), (.eq, .arg 3, .int 2, true), (.lt, .int 4, .arg 49, true), (.lt, .int 5, .arg 49, true), (.lt, .arg 1, .int 0, true), (.gt, .int 6, .sub (.arg 49) (.int 6), true)]) = true := by decide +kernel
theorem lf_36_29 : xfin (xev 155 20 xlaw 18 xlo0 [] xh0 [(.gt, .int 0, .sub (.arg 49) (.int 6), false), (.lt, .int 0, .arg 49, true), (.eq, .op2 .iand (.arg 0) (.int 63), .int 36, true), (.lt, .int 1, .arg 49, true), (.lt, .int 2, .arg 49, true), (.lt, .int 3, .arg 49, true), (.eq, .arg 3, .int 2, true), (.lt, .int 4, .arg 49, true), (.lt, .int 5, .arg 49, true), (.lt, .arg 1, .int 0, false), (.ge, .arg 1, .int 4, true), (.lt, .int 1, .arg 49, true), (.lt, .int 2, .arg 49, true), (.lt, .int 3, .arg 49, true), (.eq, .arg 3, .int 2, true), (.lt, .int 4, .arg 49, true), (.lt, .int 5, .arg 49, true), (.lt, .arg 1, .int 0, false), (.gt, .arg 1, .int 3, true), (.gt, .int 6, .sub (.arg 49) (.int 6), true)]) = true := by decide +kernel
theorem lf_36_30 : xfin (xev 149 20 xlaw 18 xlo0 [] xh0 [(.gt, .int 0, .sub (.arg 49) (.int 6), false), (.lt, .int 0, .arg 49, true), (.eq, .op2 .iand (.arg 0) (.int 63), .int 36, true), (.lt, .int 1, .arg 49, true), (.lt, .int 2, .arg 49, true), (.lt, .int 3, .arg 49, true), (.eq, .arg 3, .int 3, true), (.lt, .int 4, .arg 49, true), (.lt, .int 5, .arg 49, true), (.lt, .arg 1, .int 0, true), (.lt, .int 1, .arg 49, true), (.lt, .int 2, .arg 49, true), (.lt, .int 3, .arg 49, true), (.eq, .arg 3, .int 3, true), (.lt, .int 4, .arg 49, true), (.lt, .int 5, .arg 49, true), (.lt, .arg 1, .int 0, true), (.gt, .int 6, .sub (.arg 49) (.int 6), true)]) = true := by decide +kernel
theorem lf_36_31 : xfin (xev 155 20 xlaw 18 xlo0 [] xh0 [(.gt, .int 0, .sub (.arg 49) (.int 6), false), (.lt, .int 0, .arg 49, true), (.eq, .op2 .iand (.arg 0) (.int 63), .int 36, true), (.lt, .int 1, .arg 49, true), (.lt, .int 2, .arg 49, true), (.lt, .int 3, .arg 49, true), (.eq, .arg 3, .int 3, true), (.lt, .int 4, .arg 49, true), (.lt, .int 5, .arg 49, true), (.lt, .arg 1, .int 0, false), (.ge, .arg 1, .int 4, true), (.lt, .int 1, .arg 49, true), (.lt, .int 2, .arg 49, true), (.lt, .int 3, .arg 49, true), (.eq, .arg 3, .int 3, true), (.lt, .int 4, .arg 49, true), (.lt, .int 5, .arg 49, true), (.lt, .arg 1, .int 0, false), (.gt, .arg 1, .int 3, true), (.gt, .int 6, .sub (.arg 49) (.int 6), true)]) = true := by decide +kernel
theorem lf_36_32 : xfin (xev 149 20 xlaw 18 xlo0 [] xh0 [(.gt, .int 0, .sub (.arg 49) (.int 6), false), (.lt, .int 0, .arg 49, true), (.eq, .op2 .iand (.arg 0) (.int 63), .int 36, true), (.lt, .int 1, .arg 49, true), (.lt, .int 2, .arg 49, true), (.lt, .int 3, .arg 49, true), (.lt, .int 4, .arg 49, true), (.lt, .int 5, .arg 49, true), (.lt, .arg 1, .int 0, true), (.lt, .int 1, .arg 49, true), (.lt, .int 2, .arg 49, true), (.lt, .int 3, .arg 49, true), (.lt, .int 4, .arg 49, true), (.lt, .int 5, .arg 49, true), (.lt, .arg 1, .int 0, true), (.gt, .int 6, .sub (.arg 49) (.int 6), true)]) = true := by decide +kernel
theorem lf_36_33 : xfin (xev 155 20 xlaw 18 xlo0 [] xh0 [(.gt, .int 0, .sub (.arg 49) (.int 6), false), (.lt, .int 0, .arg 49, true), (.eq, .op2 .iand (.arg 0) (.int 63), .int 36, true), (.lt, .int 1, .arg 49, true), (.lt, .int 2, .arg 49, true), (.lt, .int 3, .arg 49, true), (.lt, .int 4, .arg 49, true), (.lt, .int 5, .arg 49, true), (.lt, .arg 1, .int 0, false), (.ge, .arg 1, .int 4, true), (.lt, .int 1, .arg 49, true), (.lt, .int 2, .arg 49, true), (.lt, .int 3, .arg 49, true), (.lt, .int 4, .arg 49, true), (.lt, .int 5, .arg 49, true), (.lt, .arg 1, .int 0, false), (.gt, .arg 1, .int 3, true), (.gt, .int 6, .sub (.arg 49) (.int 6), true)]) = true := by decide +kernel
set_option maxHeartbeats 4000000 in
theorem cv_36 {r : Nat → Value} (h49 : XI r (.arg 49) = 6) (hs : XI r (.sub (.arg 49) (.int 6)) = 0) (hk : XI r (.op2 .iand (.arg 0) (.int 63)) = 36) : ∃ (f : Nat) (E : List xB), (∀ q ∈ E, xhold r q) ∧ xfin (xev f 20 xlaw 18 xlo0 [] xh0 E) = true := by
  have h0 : ¬ (XI r (.sub (.arg 49) (.int 6)) < (0 : Int)) := by omega
  have h1 : (0 : Int) < XI r (.arg 49) := by omega
  have b0 : xhid (-2147483648 ≤ XI r (.arg 0)) := XI_lo r (.arg 0)
  have d0 : xhid (XI r (.arg 0) < 2147483648) := XI_hi r (.arg 0)
  have b1 : xhid (-2147483648 ≤ XI r (.arg 1)) := XI_lo r (.arg 1)
  have d1 : xhid (XI r (.arg 1) < 2147483648) := XI_hi r (.arg 1)
  have b2 : xhid (-2147483648 ≤ XI r (.arg 2)) := XI_lo r (.arg 2)
  have d2 : xhid (XI r (.arg 2) < 2147483648) := XI_hi r (.arg 2)
  have b3 : xhid (-2147483648 ≤ XI r (.arg 3)) := XI_lo r (.arg 3)
  have d3 : xhid (XI r (.arg 3) < 2147483648) := XI_hi r (.arg 3)
  have b4 : xhid (-2147483648 ≤ XI r (.arg 4)) := XI_lo r (.arg 4)
  have d4 : xhid (XI r (.arg 4) < 2147483648) := XI_hi r (.arg 4)
  have b5 : xhid (-2147483648 ≤ XI r (.arg 5)) := XI_lo r (.arg 5)
  have d5 : xhid (XI r (.arg 5) < 2147483648) := XI_hi r (.arg 5)
  have c1 : xhid ((1 : Int) < XI r (.arg 49)) := ((by have z0 : ¬ (XI r (.sub (.arg 49) (.int 6)) < (0 : Int)) := h0; omega) : (1 : Int) < XI r (.arg 49))
  refine (Classical.em (XI r (.arg 1) = (0 : Int))).elim (fun (c2 : xhid (XI r (.arg 1) = (0 : Int))) => ?_) (fun (c2 : xhid (¬ (XI r (.arg 1) = (0 : Int)))) => ?_)
  ·
    have c3 : xhid ((2 : Int) < XI r (.arg 49)) := ((by have z0 : ¬ (XI r (.sub (.arg 49) (.int 6)) < (0 : Int)) := h0; omega) : (2 : Int) < XI r (.arg 49))
    have c4 : xhid ((3 : Int) < XI r (.arg 49)) := ((by have z0 : ¬ (XI r (.sub (.arg 49) (.int 6)) < (0 : Int)) := h0; omega) : (3 : Int) < XI r (.arg 49))
    refine (Classical.em (XI r (.arg 3) = (0 : Int))).elim (fun (c5 : xhid (XI r (.arg 3) = (0 : Int))) => ?_) (fun (c5 : xhid (¬ (XI r (.arg 3) = (0 : Int)))) => ?_)
    ·
      have c6 : xhid ((4 : Int) < XI r (.arg 49)) := ((by have z0 : ¬ (XI r (.sub (.arg 49) (.int 6)) < (0 : Int)) := h0; omega) : (4 : Int) < XI r (.arg 49))
      have c7 : xhid ((5 : Int) < XI r (.arg 49)) := ((by have z0 : ¬ (XI r (.sub (.arg 49) (.int 6)) < (0 : Int)) := h0; omega) : (5 : Int) < XI r (.arg 49))
      have c8 : xhid ((1 : Int) < XI r (.arg 49)) := ((by have z0 : (5 : Int) < XI r (.arg 49) := c7; omega) : (1 : Int) < XI r (.arg 49))
      have c9 : xhid ((2 : Int) < XI r (.arg 49)) := ((by have z0 : (5 : Int) < XI r (.arg 49) := c7; omega) : (2 : Int) < XI r (.arg 49))
      have c10 : xhid ((3 : Int) < XI r (.arg 49)) := ((by have z0 : (5 : Int) < XI r (.arg 49) := c7; omega) : (3 : Int) < XI r (.arg 49))
      have c11 : xhid ((4 : Int) < XI r (.arg 49)) := ((by have z0 : (5 : Int) < XI r (.arg 49) := c7; omega) : (4 : Int) < XI r (.arg 49))
      have c12 : xhid ((5 : Int) < XI r (.arg 49)) := ((by have z0 : (5 : Int) < XI r (.arg 49) := c7; omega) : (5 : Int) < XI r (.arg 49))
      have c13 : xhid (XI r (.sub (.arg 49) (.int 6)) < (6 : Int)) := ((by omega) : XI r (.sub (.arg 49) (.int 6)) < (6 : Int))
      refine ⟨209, _, ?_, lf_36_0⟩
      refine xc_cons (xh_gt_F (XI_lit (by decide +kernel)) rfl h0) ?_
      refine xc_cons (xh_lt_T (XI_lit (by decide +kernel)) rfl h1) ?_
      refine xc_cons (xh_eq_T rfl (XI_lit (by decide +kernel)) hk) ?_
      refine xc_cons (xh_lt_T (XI_lit (by decide +kernel)) rfl c1) ?_
      refine xc_cons (xh_eq_T rfl (XI_lit (by decide +kernel)) c2) ?_
      refine xc_cons (xh_lt_T (XI_lit (by decide +kernel)) rfl c3) ?_
      refine xc_cons (xh_lt_T (XI_lit (by decide +kernel)) rfl c4) ?_
      refine xc_cons (xh_eq_T rfl (XI_lit (by decide +kernel)) c5) ?_
      refine xc_cons (xh_lt_T (XI_lit (by decide +kernel)) rfl c6) ?_
      refine xc_cons (xh_lt_T (XI_lit (by decide +kernel)) rfl c7) ?_
      refine xc_cons (xh_lt_T (XI_lit (by decide +kernel)) rfl c8) ?_
      refine xc_cons (xh_eq_T rfl (XI_lit (by decide +kernel)) c2) ?_
      refine xc_cons (xh_lt_T (XI_lit (by decide +kernel)) rfl c9) ?_
      refine xc_cons (xh_lt_T (XI_lit (by decide +kernel)) rfl c10) ?_
      refine xc_cons (xh_eq_T rfl (XI_lit (by decide +kernel)) c5) ?_
      refine xc_cons (xh_lt_T (XI_lit (by decide +kernel)) rfl c11) ?_
      refine xc_cons (xh_lt_T (XI_lit (by decide +kernel)) rfl c12) ?_
      refine xc_cons (xh_gt_T (XI_lit (by decide +kernel)) rfl c13) ?_
      exact xc_nil
    refine (Classical.em (XI r (.arg 3) = (1 : Int))).elim (fun (c14 : xhid (XI r (.arg 3) = (1 : Int))) => ?_) (fun (c14 : xhid (¬ (XI r (.arg 3) = (1 : Int)))) => ?_)
    ·
      have c15 : xhid ((4 : Int) < XI r (.arg 49)) := ((by have z0 : ¬ (XI r (.sub (.arg 49) (.int 6)) < (0 : Int)) := h0; omega) : (4 : Int) < XI r (.arg 49))
      have c16 : xhid ((5 : Int) < XI r (.arg 49)) := ((by have z0 : ¬ (XI r (.sub (.arg 49) (.int 6)) < (0 : Int)) := h0; omega) : (5 : Int) < XI r (.arg 49))
      have c17 : xhid ((1 : Int) < XI r (.arg 49)) := ((by have z0 : (5 : Int) < XI r (.arg 49) := c16; omega) : (1 : Int) < XI r (.arg 49))
      have c18 : xhid ((2 : Int) < XI r (.arg 49)) := ((by have z0 : (5 : Int) < XI r (.arg 49) := c16; omega) : (2 : Int) < XI r (.arg 49))
      have c19 : xhid ((3 : Int) < XI r (.arg 49)) := ((by have z0 : (5 : Int) < XI r (.arg 49) := c16; omega) : (3 : Int) < XI r (.arg 49))
      have c20 : xhid ((4 : Int) < XI r (.arg 49)) := ((by have z0 : (5 : Int) < XI r (.arg 49) := c16; omega) : (4 : Int) < XI r (.arg 49))
      have c21 : xhid ((5 : Int) < XI r (.arg 49)) := ((by have z0 : (5 : Int) < XI r (.arg 49) := c16; omega) : (5 : Int) < XI r (.arg 49))
      have c22 : xhid (XI r (.sub (.arg 49) (.int 6)) < (6 : Int)) := ((by omega) : XI r (.sub (.arg 49) (.int 6)) < (6 : Int))
      refine ⟨209, _, ?_, lf_36_1⟩
      refine xc_cons (xh_gt_F (XI_lit (by decide +kernel)) rfl h0) ?_
      refine xc_cons (xh_lt_T (XI_lit (by decide +kernel)) rfl h1) ?_
      refine xc_cons (xh_eq_T rfl (XI_lit (by decide +kernel)) hk) ?_
      refine xc_cons (xh_lt_T (XI_lit (by decide +kernel)) rfl c1) ?_
      refine xc_cons (xh_eq_T rfl (XI_lit (by decide +kernel)) c2) ?_
      refine xc_cons (xh_lt_T (XI_lit (by decide +kernel)) rfl c3) ?_
      refine xc_cons (xh_lt_T (XI_lit (by decide +kernel)) rfl c4) ?_
      refine xc_cons (xh_eq_T rfl (XI_lit (by decide +kernel)) c14) ?_
      refine xc_cons (xh_lt_T (XI_lit (by decide +kernel)) rfl c15) ?_
      refine xc_cons (xh_lt_T (XI_lit (by decide +kernel)) rfl c16) ?_
      refine xc_cons (xh_lt_T (XI_lit (by decide +kernel)) rfl c17) ?_
      refine xc_cons (xh_eq_T rfl (XI_lit (by decide +kernel)) c2) ?_
      refine xc_cons (xh_lt_T (XI_lit (by decide +kernel)) rfl c18) ?_
      refine xc_cons (xh_lt_T (XI_lit (by decide +kernel)) rfl c19) ?_
      refine xc_cons (xh_eq_T rfl (XI_lit (by decide +kernel)) c14) ?_
      refine xc_cons (xh_lt_T (XI_lit (by decide +kernel)) rfl c20) ?_
      refine xc_cons (xh_lt_T (XI_lit (by decide +kernel)) rfl c21) ?_
      refine xc_cons (xh_gt_T (XI_lit (by decide +kernel)) rfl c22) ?_
      exact xc_nil
    refine (Classical.em (XI r (.arg 3) = (2 : Int))).elim (fun (c23 : xhid (XI r (.arg 3) = (2 : Int))) => ?_) (fun (c23 : xhid (¬ (XI r (.arg 3) = (2 : Int)))) => ?_)
    ·
      have c24 : xhid ((4 : Int) < XI r (.arg 49)) := ((by have z0 : ¬ (XI r (.sub (.arg 49) (.int 6)) < (0 : Int)) := h0; omega) : (4 : Int) < XI r (.arg 49))
      have c25 : xhid ((5 : Int) < XI r (.arg 49)) := ((by have z0 : ¬ (XI r (.sub (.arg 49) (.int 6)) < (0 : Int)) := h0; omega) : (5 : Int) < XI r (.arg 49))
      have c26 : xhid ((1 : Int) < XI r (.arg 49)) := ((by have z0 : (5 : Int) < XI r (.arg 49) := c25; omega) : (1 : Int) < XI r (.arg 49))
      have c27 : xhid ((2 : Int) < XI r (.arg 49)) := ((by have z0 : (5 : Int) < XI r (.arg 49) := c25; omega) : (2 : Int) < XI r (.arg 49))
      have c28 : xhid ((3 : Int) < XI r (.arg 49)) := ((by have z0 : (5 : Int) < XI r (.arg 49) := c25; omega) : (3 : Int) < XI r (.arg 49))
      have c29 : xhid ((4 : Int) < XI r (.arg 49)) := ((by have z0 : (5 : Int) < XI r (.arg 49) := c25; omega) : (4 : Int) < XI r (.arg 49))
      have c30 : xhid ((5 : Int) < XI r (.arg 49)) := ((by have z0 : (5 : Int) < XI r (.arg 49) := c25; omega) : (5 : Int) < XI r (.arg 49))
      have c31 : xhid (XI r (.sub (.arg 49) (.int 6)) < (6 : Int)) := ((by omega) : XI r (.sub (.arg 49) (.int 6)) < (6 : Int))
      refine ⟨209, _, ?_, lf_36_2⟩
      refine xc_cons (xh_gt_F (XI_lit (by decide +kernel)) rfl h0) ?_
      refine xc_cons (xh_lt_T (XI_lit (by decide +kernel)) rfl h1) ?_
      refine xc_cons (xh_eq_T rfl (XI_lit (by decide +kernel)) hk) ?_
      refine xc_cons (xh_lt_T (XI_lit (by decide +kernel)) rfl c1) ?_
      refine xc_cons (xh_eq_T rfl (XI_lit (by decide +kernel)) c2) ?_
      refine xc_cons (xh_lt_T (XI_lit (by decide +kernel)) rfl c3) ?_
      refine xc_cons (xh_lt_T (XI_lit (by decide +kernel)) rfl c4) ?_
      refine xc_cons (xh_eq_T rfl (XI_lit (by decide +kernel)) c23) ?_
      refine xc_cons (xh_lt_T (XI_lit (by decide +kernel)) rfl c24) ?_
      refine xc_cons (xh_lt_T (XI_lit (by decide +kernel)) rfl c25) ?_
      refine xc_cons (xh_lt_T (XI_lit (by decide +kernel)) rfl c26) ?_
      refine xc_cons (xh_eq_T rfl (XI_lit (by decide +kernel)) c2) ?_
      refine xc_cons (xh_lt_T (XI_lit (by decide +kernel)) rfl c27) ?_
      refine xc_cons (xh_lt_T (XI_lit (by decide +kernel)) rfl c28) ?_
      refine xc_cons (xh_eq_T rfl (XI_lit (by decide +kernel)) c23) ?_
      refine xc_cons (xh_lt_T (XI_lit (by decide +kernel)) rfl c29) ?_
      refine xc_cons (xh_lt_T (XI_lit (by decide +kernel)) rfl c30) ?_
      refine xc_cons (xh_gt_T (XI_lit (by decide +kernel)) rfl c31) ?_
      exact xc_nil
    refine (Classical.em (XI r (.arg 3) = (3 : Int))).elim (fun (c32 : xhid (XI r (.arg 3) = (3 : Int))) => ?_) (fun (c32 : xhid (¬ (XI r (.arg 3) = (3 : Int)))) => ?_)
    ·
      have c33 : xhid ((4 : Int) < XI r (.arg 49)) := ((by have z0 : ¬ (XI r (.sub (.arg 49) (.int 6)) < (0 : Int)) := h0; omega) : (4 : Int) < XI r (.arg 49))
      have c34 : xhid ((5 : Int) < XI r (.arg 49)) := ((by have z0 : ¬ (XI r (.sub (.arg 49) (.int 6)) < (0 : Int)) := h0; omega) : (5 : Int) < XI r (.arg 49))
      have c35 : xhid ((1 : Int) < XI r (.arg 49)) := ((by have z0 : (5 : Int) < XI r (.arg 49) := c34; omega) : (1 : Int) < XI r (.arg 49))
      have c36 : xhid ((2 : Int) < XI r (.arg 49)) := ((by have z0 : (5 : Int) < XI r (.arg 49) := c34; omega) : (2 : Int) < XI r (.arg 49))
      have c37 : xhid ((3 : Int) < XI r (.arg 49)) := ((by have z0 : (5 : Int) < XI r (.arg 49) := c34; omega) : (3 : Int) < XI r (.arg 49))
      have c38 : xhid ((4 : Int) < XI r (.arg 49)) := ((by have z0 : (5 : Int) < XI r (.arg 49) := c34; omega) : (4 : Int) < XI r (.arg 49))
      have c39 : xhid ((5 : Int) < XI r (.arg 49)) := ((by have z0 : (5 : Int) < XI r (.arg 49) := c34; omega) : (5 : Int) < XI r (.arg 49))
      have c40 : xhid (XI r (.sub (.arg 49) (.int 6)) < (6 : Int)) := ((by omega) : XI r (.sub (.arg 49) (.int 6)) < (6 : Int))
      refine ⟨209, _, ?_, lf_36_3⟩
      refine xc_cons (xh_gt_F (XI_lit (by decide +kernel)) rfl h0) ?_
      refine xc_cons (xh_lt_T (XI_lit (by decide +kernel)) rfl h1) ?_
      refine xc_cons (xh_eq_T rfl (XI_lit (by decide +kernel)) hk) ?_
      refine xc_cons (xh_lt_T (XI_lit (by decide +kernel)) rfl c1) ?_
      refine xc_cons (xh_eq_T rfl (XI_lit (by decide +kernel)) c2) ?_
      refine xc_cons (xh_lt_T (XI_lit (by decide +kernel)) rfl c3) ?_
      refine xc_cons (xh_lt_T (XI_lit (by decide +kernel)) rfl c4) ?_
      refine xc_cons (xh_eq_T rfl (XI_lit (by decide +kernel)) c32) ?_
      refine xc_cons (xh_lt_T (XI_lit (by decide +kernel)) rfl c33) ?_
      refine xc_cons (xh_lt_T (XI_lit (by decide +kernel)) rfl c34) ?_
      refine xc_cons (xh_lt_T (XI_lit (by decide +kernel)) rfl c35) ?_
      refine xc_cons (xh_eq_T rfl (XI_lit (by decide +kernel)) c2) ?_
      refine xc_cons (xh_lt_T (XI_lit (by decide +kernel)) rfl c36) ?_
      refine xc_cons (xh_lt_T (XI_lit (by decide +kernel)) rfl c37) ?_
      refine xc_cons (xh_eq_T rfl (XI_lit (by decide +kernel)) c32) ?_
      refine xc_cons (xh_lt_T (XI_lit (by decide +kernel)) rfl c38) ?_
      refine xc_cons (xh_lt_T (XI_lit (by decide +kernel)) rfl c39) ?_
      refine xc_cons (xh_gt_T (XI_lit (by decide +kernel)) rfl c40) ?_
      exact xc_nil
    have c41 : xhid ((4 : Int) < XI r (.arg 49)) := ((by have z0 : ¬ (XI r (.sub (.arg 49) (.int 6)) < (0 : Int)) := h0; omega) : (4 : Int) < XI r (.arg 49))
    have c42 : xhid ((5 : Int) < XI r (.arg 49)) := ((by have z0 : ¬ (XI r (.sub (.arg 49) (.int 6)) < (0 : Int)) := h0; omega) : (5 : Int) < XI r (.arg 49))
    refine (Classical.em (XI r (.arg 3) < (0 : Int))).elim (fun (c43 : xhid (XI r (.arg 3) < (0 : Int))) => ?_) (fun (c43 : xhid (¬ (XI r (.arg 3) < (0 : Int)))) => ?_)
    ·
      have c44 : xhid ((1 : Int) < XI r (.arg 49)) := ((by have z0 : (5 : Int) < XI r (.arg 49) := c42; omega) : (1 : Int) < XI r (.arg 49))
      have c45 : xhid ((2 : Int) < XI r (.arg 49)) := ((by have z0 : (5 : Int) < XI r (.arg 49) := c42; omega) : (2 : Int) < XI r (.arg 49))
      have c46 : xhid ((3 : Int) < XI r (.arg 49)) := ((by have z0 : (5 : Int) < XI r (.arg 49) := c42; omega) : (3 : Int) < XI r (.arg 49))
      have c47 : xhid ((4 : Int) < XI r (.arg 49)) := ((by have z0 : (5 : Int) < XI r (.arg 49) := c42; omega) : (4 : Int) < XI r (.arg 49))
      have c48 : xhid ((5 : Int) < XI r (.arg 49)) := ((by have z0 : (5 : Int) < XI r (.arg 49) := c42; omega) : (5 : Int) < XI r (.arg 49))
      have c49 : xhid (XI r (.arg 3) < (0 : Int)) := ((by have z0 : XI r (.arg 3) < (0 : Int) := c43; have z1 : -2147483648 ≤ XI r (.arg 3) := b3; have z2 : XI r (.arg 3) < 2147483648 := d3; omega) : XI r (.arg 3) < (0 : Int))
      have c50 : xhid (XI r (.sub (.arg 49) (.int 6)) < (6 : Int)) := ((by omega) : XI r (.sub (.arg 49) (.int 6)) < (6 : Int))
      refine ⟨177, _, ?_, lf_36_4⟩
      refine xc_cons (xh_gt_F (XI_lit (by decide +kernel)) rfl h0) ?_
      refine xc_cons (xh_lt_T (XI_lit (by decide +kernel)) rfl h1) ?_
      refine xc_cons (xh_eq_T rfl (XI_lit (by decide +kernel)) hk) ?_
      refine xc_cons (xh_lt_T (XI_lit (by decide +kernel)) rfl c1) ?_
      refine xc_cons (xh_eq_T rfl (XI_lit (by decide +kernel)) c2) ?_
      refine xc_cons (xh_lt_T (XI_lit (by decide +kernel)) rfl c3) ?_
      refine xc_cons (xh_lt_T (XI_lit (by decide +kernel)) rfl c4) ?_
      refine xc_cons (xh_lt_T (XI_lit (by decide +kernel)) rfl c41) ?_
      refine xc_cons (xh_lt_T (XI_lit (by decide +kernel)) rfl c42) ?_
      refine xc_cons (xh_lt_T rfl (XI_lit (by decide +kernel)) c43) ?_
      refine xc_cons (xh_lt_T (XI_lit (by decide +kernel)) rfl c44) ?_
      refine xc_cons (xh_eq_T rfl (XI_lit (by decide +kernel)) c2) ?_
      refine xc_cons (xh_lt_T (XI_lit (by decide +kernel)) rfl c45) ?_
      refine xc_cons (xh_lt_T (XI_lit (by decide +kernel)) rfl c46) ?_
      refine xc_cons (xh_lt_T (XI_lit (by decide +kernel)) rfl c47) ?_
      refine xc_cons (xh_lt_T (XI_lit (by decide +kernel)) rfl c48) ?_
      refine xc_cons (xh_lt_T rfl (XI_lit (by decide +kernel)) c49) ?_
      refine xc_cons (xh_gt_T (XI_lit (by decide +kernel)) rfl c50) ?_
      exact xc_nil
    ·
      have c51 : xhid ((4 : Int) ≤ XI r (.arg 3)) := ((by have z0 : ¬ (XI r (.arg 3) < (0 : Int)) := c43; have z1 : ¬ (XI r (.arg 3) = (0 : Int)) := c5; have z2 : ¬ (XI r (.arg 3) = (1 : Int)) := c14; have z3 : ¬ (XI r (.arg 3) = (2 : Int)) := c23; have z4 : ¬ (XI r (.arg 3) = (3 : Int)) := c32; have z5 : -2147483648 ≤ XI r (.arg 3) := b3; have z6 : XI r (.arg 3) < 2147483648 := d3; omega) : (4 : Int) ≤ XI r (.arg 3))
      have c52 : xhid ((1 : Int) < XI r (.arg 49)) := ((by have z0 : (5 : Int) < XI r (.arg 49) := c42; omega) : (1 : Int) < XI r (.arg 49))
      have c53 : xhid ((2 : Int) < XI r (.arg 49)) := ((by have z0 : (5 : Int) < XI r (.arg 49) := c42; omega) : (2 : Int) < XI r (.arg 49))
      have c54 : xhid ((3 : Int) < XI r (.arg 49)) := ((by have z0 : (5 : Int) < XI r (.arg 49) := c42; omega) : (3 : Int) < XI r (.arg 49))
      have c55 : xhid ((4 : Int) < XI r (.arg 49)) := ((by have z0 : (5 : Int) < XI r (.arg 49) := c42; omega) : (4 : Int) < XI r (.arg 49))
      have c56 : xhid ((5 : Int) < XI r (.arg 49)) := ((by have z0 : (5 : Int) < XI r (.arg 49) := c42; omega) : (5 : Int) < XI r (.arg 49))
      have c57 : xhid (¬ (XI r (.arg 3) < (0 : Int))) := ((by have z0 : (4 : Int) ≤ XI r (.arg 3) := c51; have z1 : -2147483648 ≤ XI r (.arg 3) := b3; have z2 : XI r (.arg 3) < 2147483648 := d3; omega) : ¬ (XI r (.arg 3) < (0 : Int)))
      have c58 : xhid ((3 : Int) < XI r (.arg 3)) := ((by have z0 : ¬ (XI r (.arg 3) < (0 : Int)) := c57; have z1 : ¬ (XI r (.arg 3) = (0 : Int)) := c5; have z2 : ¬ (XI r (.arg 3) = (1 : Int)) := c14; have z3 : ¬ (XI r (.arg 3) = (2 : Int)) := c23; have z4 : ¬ (XI r (.arg 3) = (3 : Int)) := c32; have z5 : -2147483648 ≤ XI r (.arg 3) := b3; have z6 : XI r (.arg 3) < 2147483648 := d3; omega) : (3 : Int) < XI r (.arg 3))
      have c59 : xhid (XI r (.sub (.arg 49) (.int 6)) < (6 : Int)) := ((by omega) : XI r (.sub (.arg 49) (.int 6)) < (6 : Int))
      refine ⟨183, _, ?_, lf_36_5⟩
      refine xc_cons (xh_gt_F (XI_lit (by decide +kernel)) rfl h0) ?_
      refine xc_cons (xh_lt_T (XI_lit (by decide +kernel)) rfl h1) ?_
      refine xc_cons (xh_eq_T rfl (XI_lit (by decide +kernel)) hk) ?_
      refine xc_cons (xh_lt_T (XI_lit (by decide +kernel)) rfl c1) ?_
      refine xc_cons (xh_eq_T rfl (XI_lit (by decide +kernel)) c2) ?_
      refine xc_cons (xh_lt_T (XI_lit (by decide +kernel)) rfl c3) ?_
      refine xc_cons (xh_lt_T (XI_lit (by decide +kernel)) rfl c4) ?_
      refine xc_cons (xh_lt_T (XI_lit (by decide +kernel)) rfl c41) ?_
      refine xc_cons (xh_lt_T (XI_lit (by decide +kernel)) rfl c42) ?_
      refine xc_cons (xh_lt_F rfl (XI_lit (by decide +kernel)) c43) ?_
      refine xc_cons (xh_ge_T rfl (XI_lit (by decide +kernel)) c51) ?_
      refine xc_cons (xh_lt_T (XI_lit (by decide +kernel)) rfl c52) ?_
      refine xc_cons (xh_eq_T rfl (XI_lit (by decide +kernel)) c2) ?_
      refine xc_cons (xh_lt_T (XI_lit (by decide +kernel)) rfl c53) ?_
      refine xc_cons (xh_lt_T (XI_lit (by decide +kernel)) rfl c54) ?_
      refine xc_cons (xh_lt_T (XI_lit (by decide +kernel)) rfl c55) ?_
      refine xc_cons (xh_lt_T (XI_lit (by decide +kernel)) rfl c56) ?_
      refine xc_cons (xh_lt_F rfl (XI_lit (by decide +kernel)) c57) ?_
      refine xc_cons (xh_gt_T rfl (XI_lit (by decide +kernel)) c58) ?_
      refine xc_cons (xh_gt_T (XI_lit (by decide +kernel)) rfl c59) ?_
      exact xc_nil
  refine (Classical.em (XI r (.arg 1) = (1 : Int))).elim (fun (c60 : xhid (XI r (.arg 1) = (1 : Int))) => ?_) (fun (c60 : xhid (¬ (XI r (.arg 1) = (1 : Int)))) => ?_)
  ·
    have c61 : xhid ((2 : Int) < XI r (.arg 49)) := ((by have z0 : ¬ (XI r (.sub (.arg 49) (.int 6)) < (0 : Int)) := h0; omega) : (2 : Int) < XI r (.arg 49))
    have c62 : xhid ((3 : Int) < XI r (.arg 49)) := ((by have z0 : ¬ (XI r (.sub (.arg 49) (.int 6)) < (0 : Int)) := h0; omega) : (3 : Int) < XI r (.arg 49))
    refine (Classical.em (XI r (.arg 3) = (0 : Int))).elim (fun (c63 : xhid (XI r (.arg 3) = (0 : Int))) => ?_) (fun (c63 : xhid (¬ (XI r (.arg 3) = (0 : Int)))) => ?_)
    ·
      have c64 : xhid ((4 : Int) < XI r (.arg 49)) := ((by have z0 : ¬ (XI r (.sub (.arg 49) (.int 6)) < (0 : Int)) := h0; omega) : (4 : Int) < XI r (.arg 49))
      have c65 : xhid ((5 : Int) < XI r (.arg 49)) := ((by have z0 : ¬ (XI r (.sub (.arg 49) (.int 6)) < (0 : Int)) := h0; omega) : (5 : Int) < XI r (.arg 49))
      have c66 : xhid ((1 : Int) < XI r (.arg 49)) := ((by have z0 : (5 : Int) < XI r (.arg 49) := c65; omega) : (1 : Int) < XI r (.arg 49))
      have c67 : xhid ((2 : Int) < XI r (.arg 49)) := ((by have z0 : (5 : Int) < XI r (.arg 49) := c65; omega) : (2 : Int) < XI r (.arg 49))
      have c68 : xhid ((3 : Int) < XI r (.arg 49)) := ((by have z0 : (5 : Int) < XI r (.arg 49) := c65; omega) : (3 : Int) < XI r (.arg 49))
      have c69 : xhid ((4 : Int) < XI r (.arg 49)) := ((by have z0 : (5 : Int) < XI r (.arg 49) := c65; omega) : (4 : Int) < XI r (.arg 49))
      have c70 : xhid ((5 : Int) < XI r (.arg 49)) := ((by have z0 : (5 : Int) < XI r (.arg 49) := c65; omega) : (5 : Int) < XI r (.arg 49))
      have c71 : xhid (XI r (.sub (.arg 49) (.int 6)) < (6 : Int)) := ((by omega) : XI r (.sub (.arg 49) (.int 6)) < (6 : Int))
      refine ⟨209, _, ?_, lf_36_6⟩
      refine xc_cons (xh_gt_F (XI_lit (by decide +kernel)) rfl h0) ?_
      refine xc_cons (xh_lt_T (XI_lit (by decide +kernel)) rfl h1) ?_
      refine xc_cons (xh_eq_T rfl (XI_lit (by decide +kernel)) hk) ?_
      refine xc_cons (xh_lt_T (XI_lit (by decide +kernel)) rfl c1) ?_
      refine xc_cons (xh_eq_T rfl (XI_lit (by decide +kernel)) c60) ?_
      refine xc_cons (xh_lt_T (XI_lit (by decide +kernel)) rfl c61) ?_
      refine xc_cons (xh_lt_T (XI_lit (by decide +kernel)) rfl c62) ?_
      refine xc_cons (xh_eq_T rfl (XI_lit (by decide +kernel)) c63) ?_
      refine xc_cons (xh_lt_T (XI_lit (by decide +kernel)) rfl c64) ?_
      refine xc_cons (xh_lt_T (XI_lit (by decide +kernel)) rfl c65) ?_
      refine xc_cons (xh_lt_T (XI_lit (by decide +kernel)) rfl c66) ?_
      refine xc_cons (xh_eq_T rfl (XI_lit (by decide +kernel)) c60) ?_
      refine xc_cons (xh_lt_T (XI_lit (by decide +kernel)) rfl c67) ?_
      refine xc_cons (xh_lt_T (XI_lit (by decide +kernel)) rfl c68) ?_
      refine xc_cons (xh_eq_T rfl (XI_lit (by decide +kernel)) c63) ?_
      refine xc_cons (xh_lt_T (XI_lit (by decide +kernel)) rfl c69) ?_
      refine xc_cons (xh_lt_T (XI_lit (by decide +kernel)) rfl c70) ?_
      refine xc_cons (xh_gt_T (XI_lit (by decide +kernel)) rfl c71) ?_
      exact xc_nil
    refine (Classical.em (XI r (.arg 3) = (1 : Int))).elim (fun (c72 : xhid (XI r (.arg 3) = (1 : Int))) => ?_) (fun (c72 : xhid (¬ (XI r (.arg 3) = (1 : Int)))) => ?_)
    ·
      have c73 : xhid ((4 : Int) < XI r (.arg 49)) := ((by have z0 : ¬ (XI r (.sub (.arg 49) (.int 6)) < (0 : Int)) := h0; omega) : (4 : Int) < XI r (.arg 49))
      have c74 : xhid ((5 : Int) < XI r (.arg 49)) := ((by have z0 : ¬ (XI r (.sub (.arg 49) (.int 6)) < (0 : Int)) := h0; omega) : (5 : Int) < XI r (.arg 49))
      have c75 : xhid ((1 : Int) < XI r (.arg 49)) := ((by have z0 : (5 : Int) < XI r (.arg 49) := c74; omega) : (1 : Int) < XI r (.arg 49))
      have c76 : xhid ((2 : Int) < XI r (.arg 49)) := ((by have z0 : (5 : Int) < XI r (.arg 49) := c74; omega) : (2 : Int) < XI r (.arg 49))
      have c77 : xhid ((3 : Int) < XI r (.arg 49)) := ((by have z0 : (5 : Int) < XI r (.arg 49) := c74; omega) : (3 : Int) < XI r (.arg 49))
      have c78 : xhid ((4 : Int) < XI r (.arg 49)) := ((by have z0 : (5 : Int) < XI r (.arg 49) := c74; omega) : (4 : Int) < XI r (.arg 49))
      have c79 : xhid ((5 : Int) < XI r (.arg 49)) := ((by have z0 : (5 : Int) < XI r (.arg 49) := c74; omega) : (5 : Int) < XI r (.arg 49))
      have c80 : xhid (XI r (.sub (.arg 49) (.int 6)) < (6 : Int)) := ((by omega) : XI r (.sub (.arg 49) (.int 6)) < (6 : Int))
      refine ⟨209, _, ?_, lf_36_7⟩
      refine xc_cons (xh_gt_F (XI_lit (by decide +kernel)) rfl h0) ?_
      refine xc_cons (xh_lt_T (XI_lit (by decide +kernel)) rfl h1) ?_
      refine xc_cons (xh_eq_T rfl (XI_lit (by decide +kernel)) hk) ?_
      refine xc_cons (xh_lt_T (XI_lit (by decide +kernel)) rfl c1) ?_
      refine xc_cons (xh_eq_T rfl (XI_lit (by decide +kernel)) c60) ?_
      refine xc_cons (xh_lt_T (XI_lit (by decide +kernel)) rfl c61) ?_
      refine xc_cons (xh_lt_T (XI_lit (by decide +kernel)) rfl c62) ?_
      refine xc_cons (xh_eq_T rfl (XI_lit (by decide +kernel)) c72) ?_
      refine xc_cons (xh_lt_T (XI_lit (by decide +kernel)) rfl c73) ?_
      refine xc_cons (xh_lt_T (XI_lit (by decide +kernel)) rfl c74) ?_
      refine xc_cons (xh_lt_T (XI_lit (by decide +kernel)) rfl c75) ?_
      refine xc_cons (xh_eq_T rfl (XI_lit (by decide +kernel)) c60) ?_
      refine xc_cons (xh_lt_T (XI_lit (by decide +kernel)) rfl c76) ?_
      refine xc_cons (xh_lt_T (XI_lit (by decide +kernel)) rfl c77) ?_
      refine xc_cons (xh_eq_T rfl (XI_lit (by decide +kernel)) c72) ?_
      refine xc_cons (xh_lt_T (XI_lit (by decide +kernel)) rfl c78) ?_
      refine xc_cons (xh_lt_T (XI_lit (by decide +kernel)) rfl c79) ?_
      refine xc_cons (xh_gt_T (XI_lit (by decide +kernel)) rfl c80) ?_
      exact xc_nil
    refine (Classical.em (XI r (.arg 3) = (2 : Int))).elim (fun (c81 : xhid (XI r (.arg 3) = (2 : Int))) => ?_) (fun (c81 : xhid (¬ (XI r (.arg 3) = (2 : Int)))) => ?_)
    ·
      have c82 : xhid ((4 : Int) < XI r (.arg 49)) := ((by have z0 : ¬ (XI r (.sub (.arg 49) (.int 6)) < (0 : Int)) := h0; omega) : (4 : Int) < XI r (.arg 49))
      have c83 : xhid ((5 : Int) < XI r (.arg 49)) := ((by have z0 : ¬ (XI r (.sub (.arg 49) (.int 6)) < (0 : Int)) := h0; omega) : (5 : Int) < XI r (.arg 49))
      have c84 : xhid ((1 : Int) < XI r (.arg 49)) := ((by have z0 : (5 : Int) < XI r (.arg 49) := c83; omega) : (1 : Int) < XI r (.arg 49))
      have c85 : xhid ((2 : Int) < XI r (.arg 49)) := ((by have z0 : (5 : Int) < XI r (.arg 49) := c83; omega) : (2 : Int) < XI r (.arg 49))
      have c86 : xhid ((3 : Int) < XI r (.arg 49)) := ((by have z0 : (5 : Int) < XI r (.arg 49) := c83; omega) : (3 : Int) < XI r (.arg 49))
      have c87 : xhid ((4 : Int) < XI r (.arg 49)) := ((by have z0 : (5 : Int) < XI r (.arg 49) := c83; omega) : (4 : Int) < XI r (.arg 49))
      have c88 : xhid ((5 : Int) < XI r (.arg 49)) := ((by have z0 : (5 : Int) < XI r (.arg 49) := c83; omega) : (5 : Int) < XI r (.arg 49))
      have c89 : xhid (XI r (.sub (.arg 49) (.int 6)) < (6 : Int)) := ((by omega) : XI r (.sub (.arg 49) (.int 6)) < (6 : Int))
      refine ⟨209, _, ?_, lf_36_8⟩
      refine xc_cons (xh_gt_F (XI_lit (by decide +kernel)) rfl h0) ?_
      refine xc_cons (xh_lt_T (XI_lit (by decide +kernel)) rfl h1) ?_
      refine xc_cons (xh_eq_T rfl (XI_lit (by decide +kernel)) hk) ?_
      refine xc_cons (xh_lt_T (XI_lit (by decide +kernel)) rfl c1) ?_
      refine xc_cons (xh_eq_T rfl (XI_lit (by decide +kernel)) c60) ?_
      refine xc_cons (xh_lt_T (XI_lit (by decide +kernel)) rfl c61) ?_
      refine xc_cons (xh_lt_T (XI_lit (by decide +kernel)) rfl c62) ?_
      refine xc_cons (xh_eq_T rfl (XI_lit (by decide +kernel)) c81) ?_
      refine xc_cons (xh_lt_T (XI_lit (by decide +kernel)) rfl c82) ?_
      refine xc_cons (xh_lt_T (XI_lit (by decide +kernel)) rfl c83) ?_
      refine xc_cons (xh_lt_T (XI_lit (by decide +kernel)) rfl c84) ?_
      refine xc_cons (xh_eq_T rfl (XI_lit (by decide +kernel)) c60) ?_
      refine xc_cons (xh_lt_T (XI_lit (by decide +kernel)) rfl c85) ?_
      refine xc_cons (xh_lt_T (XI_lit (by decide +kernel)) rfl c86) ?_
      refine xc_cons (xh_eq_T rfl (XI_lit (by decide +kernel)) c81) ?_
      refine xc_cons (xh_lt_T (XI_lit (by decide +kernel)) rfl c87) ?_
      refine xc_cons (xh_lt_T (XI_lit (by decide +kernel)) rfl c88) ?_
      refine xc_cons (xh_gt_T (XI_lit (by decide +kernel)) rfl c89) ?_
      exact xc_nil
    refine (Classical.em (XI r (.arg 3) = (3 : Int))).elim (fun (c90 : xhid (XI r (.arg 3) = (3 : Int))) => ?_) (fun (c90 : xhid (¬ (XI r (.arg 3) = (3 : Int)))) => ?_)
    ·
      have c91 : xhid ((4 : Int) < XI r (.arg 49)) := ((by have z0 : ¬ (XI r (.sub (.arg 49) (.int 6)) < (0 : Int)) := h0; omega) : (4 : Int) < XI r (.arg 49))
      have c92 : xhid ((5 : Int) < XI r (.arg 49)) := ((by have z0 : ¬ (XI r (.sub (.arg 49) (.int 6)) < (0 : Int)) := h0; omega) : (5 : Int) < XI r (.arg 49))
      have c93 : xhid ((1 : Int) < XI r (.arg 49)) := ((by have z0 : (5 : Int) < XI r (.arg 49) := c92; omega) : (1 : Int) < XI r (.arg 49))
      have c94 : xhid ((2 : Int) < XI r (.arg 49)) := ((by have z0 : (5 : Int) < XI r (.arg 49) := c92; omega) : (2 : Int) < XI r (.arg 49))
      have c95 : xhid ((3 : Int) < XI r (.arg 49)) := ((by have z0 : (5 : Int) < XI r (.arg 49) := c92; omega) : (3 : Int) < XI r (.arg 49))
      have c96 : xhid ((4 : Int) < XI r (.arg 49)) := ((by have z0 : (5 : Int) < XI r (.arg 49) := c92; omega) : (4 : Int) < XI r (.arg 49))
      have c97 : xhid ((5 : Int) < XI r (.arg 49)) := ((by have z0 : (5 : Int) < XI r (.arg 49) := c92; omega) : (5 : Int) < XI r (.arg 49))
      have c98 : xhid (XI r (.sub (.arg 49) (.int 6)) < (6 : Int)) := ((by omega) : XI r (.sub (.arg 49) (.int 6)) < (6 : Int))
      refine ⟨209, _, ?_, lf_36_9⟩
      refine xc_cons (xh_gt_F (XI_lit (by decide +kernel)) rfl h0) ?_
      refine xc_cons (xh_lt_T (XI_lit (by decide +kernel)) rfl h1) ?_
      refine xc_cons (xh_eq_T rfl (XI_lit (by decide +kernel)) hk) ?_
      refine xc_cons (xh_lt_T (XI_lit (by decide +kernel)) rfl c1) ?_
      refine xc_cons (xh_eq_T rfl (XI_lit (by decide +kernel)) c60) ?_
      refine xc_cons (xh_lt_T (XI_lit (by decide +kernel)) rfl c61) ?_
      refine xc_cons (xh_lt_T (XI_lit (by decide +kernel)) rfl c62) ?_
      refine xc_cons (xh_eq_T rfl (XI_lit (by decide +kernel)) c90) ?_
      refine xc_cons (xh_lt_T (XI_lit (by decide +kernel)) rfl c91) ?_
      refine xc_cons (xh_lt_T (XI_lit (by decide +kernel)) rfl c92) ?_
      refine xc_cons (xh_lt_T (XI_lit (by decide +kernel)) rfl c93) ?_
      refine xc_cons (xh_eq_T rfl (XI_lit (by decide +kernel)) c60) ?_
      refine xc_cons (xh_lt_T (XI_lit (by decide +kernel)) rfl c94) ?_
      refine xc_cons (xh_lt_T (XI_lit (by decide +kernel)) rfl c95) ?_
      refine xc_cons (xh_eq_T rfl (XI_lit (by decide +kernel)) c90) ?_
      refine xc_cons (xh_lt_T (XI_lit (by decide +kernel)) rfl c96) ?_
      refine xc_cons (xh_lt_T (XI_lit (by decide +kernel)) rfl c97) ?_
      refine xc_cons (xh_gt_T (XI_lit (by decide +kernel)) rfl c98) ?_
      exact xc_nil
    have c99 : xhid ((4 : Int) < XI r (.arg 49)) := ((by have z0 : ¬ (XI r (.sub (.arg 49) (.int 6)) < (0 : Int)) := h0; omega) : (4 : Int) < XI r (.arg 49))
    have c100 : xhid ((5 : Int) < XI r (.arg 49)) := ((by have z0 : ¬ (XI r (.sub (.arg 49) (.int 6)) < (0 : Int)) := h0; omega) : (5 : Int) < XI r (.arg 49))
    refine (Classical.em (XI r (.arg 3) < (0 : Int))).elim (fun (c101 : xhid (XI r (.arg 3) < (0 : Int))) => ?_) (fun (c101 : xhid (¬ (XI r (.arg 3) < (0 : Int)))) => ?_)
    ·
      have c102 : xhid ((1 : Int) < XI r (.arg 49)) := ((by have z0 : (5 : Int) < XI r (.arg 49) := c100; omega) : (1 : Int) < XI r (.arg 49))
      have c103 : xhid ((2 : Int) < XI r (.arg 49)) := ((by have z0 : (5 : Int) < XI r (.arg 49) := c100; omega) : (2 : Int) < XI r (.arg 49))
      have c104 : xhid ((3 : Int) < XI r (.arg 49)) := ((by have z0 : (5 : Int) < XI r (.arg 49) := c100; omega) : (3 : Int) < XI r (.arg 49))
      have c105 : xhid ((4 : Int) < XI r (.arg 49)) := ((by have z0 : (5 : Int) < XI r (.arg 49) := c100; omega) : (4 : Int) < XI r (.arg 49))
      have c106 : xhid ((5 : Int) < XI r (.arg 49)) := ((by have z0 : (5 : Int) < XI r (.arg 49) := c100; omega) : (5 : Int) < XI r (.arg 49))
      have c107 : xhid (XI r (.arg 3) < (0 : Int)) := ((by have z0 : XI r (.arg 3) < (0 : Int) := c101; have z1 : -2147483648 ≤ XI r (.arg 3) := b3; have z2 : XI r (.arg 3) < 2147483648 := d3; omega) : XI r (.arg 3) < (0 : Int))
      have c108 : xhid (XI r (.sub (.arg 49) (.int 6)) < (6 : Int)) := ((by omega) : XI r (.sub (.arg 49) (.int 6)) < (6 : Int))
      refine ⟨177, _, ?_, lf_36_10⟩
      refine xc_cons (xh_gt_F (XI_lit (by decide +kernel)) rfl h0) ?_
      refine xc_cons (xh_lt_T (XI_lit (by decide +kernel)) rfl h1) ?_
      refine xc_cons (xh_eq_T rfl (XI_lit (by decide +kernel)) hk) ?_
      refine xc_cons (xh_lt_T (XI_lit (by decide +kernel)) rfl c1) ?_
      refine xc_cons (xh_eq_T rfl (XI_lit (by decide +kernel)) c60) ?_
      refine xc_cons (xh_lt_T (XI_lit (by decide +kernel)) rfl c61) ?_
      refine xc_cons (xh_lt_T (XI_lit (by decide +kernel)) rfl c62) ?_
      refine xc_cons (xh_lt_T (XI_lit (by decide +kernel)) rfl c99) ?_
      refine xc_cons (xh_lt_T (XI_lit (by decide +kernel)) rfl c100) ?_
      refine xc_cons (xh_lt_T rfl (XI_lit (by decide +kernel)) c101) ?_
      refine xc_cons (xh_lt_T (XI_lit (by decide +kernel)) rfl c102) ?_
      refine xc_cons (xh_eq_T rfl (XI_lit (by decide +kernel)) c60) ?_
      refine xc_cons (xh_lt_T (XI_lit (by decide +kernel)) rfl c103) ?_
      refine xc_cons (xh_lt_T (XI_lit (by decide +kernel)) rfl c104) ?_
      refine xc_cons (xh_lt_T (XI_lit (by decide +kernel)) rfl c105) ?_
      refine xc_cons (xh_lt_T (XI_lit (by decide +kernel)) rfl c106) ?_
      refine xc_cons (xh_lt_T rfl (XI_lit (by decide +kernel)) c107) ?_
      refine xc_cons (xh_gt_T (XI_lit (by decide +kernel)) rfl c108) ?_
      exact xc_nil
    ·
      have c109 : xhid ((4 : Int) ≤ XI r (.arg 3)) := ((by have z0 : ¬ (XI r (.arg 3) < (0 : Int)) := c101; have z1 : ¬ (XI r (.arg 3) = (0 : Int)) := c63; have z2 : ¬ (XI r (.arg 3) = (1 : Int)) := c72; have z3 : ¬ (XI r (.arg 3) = (2 : Int)) := c81; have z4 : ¬ (XI r (.arg 3) = (3 : Int)) := c90; have z5 : -2147483648 ≤ XI r (.arg 3) := b3; have z6 : XI r (.arg 3) < 2147483648 := d3; omega) : (4 : Int) ≤ XI r (.arg 3))
      have c110 : xhid ((1 : Int) < XI r (.arg 49)) := ((by have z0 : (5 : Int) < XI r (.arg 49) := c100; omega) : (1 : Int) < XI r (.arg 49))
      have c111 : xhid ((2 : Int) < XI r (.arg 49)) := ((by have z0 : (5 : Int) < XI r (.arg 49) := c100; omega) : (2 : Int) < XI r (.arg 49))
      have c112 : xhid ((3 : Int) < XI r (.arg 49)) := ((by have z0 : (5 : Int) < XI r (.arg 49) := c100; omega) : (3 : Int) < XI r (.arg 49))
      have c113 : xhid ((4 : Int) < XI r (.arg 49)) := ((by have z0 : (5 : Int) < XI r (.arg 49) := c100; omega) : (4 : Int) < XI r (.arg 49))
      have c114 : xhid ((5 : Int) < XI r (.arg 49)) := ((by have z0 : (5 : Int) < XI r (.arg 49) := c100; omega) : (5 : Int) < XI r (.arg 49))
      have c115 : xhid (¬ (XI r (.arg 3) < (0 : Int))) := ((by have z0 : (4 : Int) ≤ XI r (.arg 3) := c109; have z1 : -2147483648 ≤ XI r (.arg 3) := b3; have z2 : XI r (.arg 3) < 2147483648 := d3; omega) : ¬ (XI r (.arg 3) < (0 : Int)))
      have c116 : xhid ((3 : Int) < XI r (.arg 3)) := ((by have z0 : ¬ (XI r (.arg 3) < (0 : Int)) := c115; have z1 : ¬ (XI r (.arg 3) = (0 : Int)) := c63; have z2 : ¬ (XI r (.arg 3) = (1 : Int)) := c72; have z3 : ¬ (XI r (.arg 3) = (2 : Int)) := c81; have z4 : ¬ (XI r (.arg 3) = (3 : Int)) := c90; have z5 : -2147483648 ≤ XI r (.arg 3) := b3; have z6 : XI r (.arg 3) < 2147483648 := d3; omega) : (3 : Int) < XI r (.arg 3))
      have c117 : xhid (XI r (.sub (.arg 49) (.int 6)) < (6 : Int)) := ((by omega) : XI r (.sub (.arg 49) (.int 6)) < (6 : Int))
      refine ⟨183, _, ?_, lf_36_11⟩
      refine xc_cons (xh_gt_F (XI_lit (by decide +kernel)) rfl h0) ?_
      refine xc_cons (xh_lt_T (XI_lit (by decide +kernel)) rfl h1) ?_
      refine xc_cons (xh_eq_T rfl (XI_lit (by decide +kernel)) hk) ?_
      refine xc_cons (xh_lt_T (XI_lit (by decide +kernel)) rfl c1) ?_
      refine xc_cons (xh_eq_T rfl (XI_lit (by decide +kernel)) c60) ?_
      refine xc_cons (xh_lt_T (XI_lit (by decide +kernel)) rfl c61) ?_
      refine xc_cons (xh_lt_T (XI_lit (by decide +kernel)) rfl c62) ?_
      refine xc_cons (xh_lt_T (XI_lit (by decide +kernel)) rfl c99) ?_
      refine xc_cons (xh_lt_T (XI_lit (by decide +kernel)) rfl c100) ?_
      refine xc_cons (xh_lt_F rfl (XI_lit (by decide +kernel)) c101) ?_
      refine xc_cons (xh_ge_T rfl (XI_lit (by decide +kernel)) c109) ?_
      refine xc_cons (xh_lt_T (XI_lit (by decide +kernel)) rfl c110) ?_
      refine xc_cons (xh_eq_T rfl (XI_lit (by decide +kernel)) c60) ?_
      refine xc_cons (xh_lt_T (XI_lit (by decide +kernel)) rfl c111) ?_
      refine xc_cons (xh_lt_T (XI_lit (by decide +kernel)) rfl c112) ?_
      refine xc_cons (xh_lt_T (XI_lit (by decide +kernel)) rfl c113) ?_
      refine xc_cons (xh_lt_T (XI_lit (by decide +kernel)) rfl c114) ?_
      refine xc_cons (xh_lt_F rfl (XI_lit (by decide +kernel)) c115) ?_
      refine xc_cons (xh_gt_T rfl (XI_lit (by decide +kernel)) c116) ?_
      refine xc_cons (xh_gt_T (XI_lit (by decide +kernel)) rfl c117) ?_
      exact xc_nil
  refine (Classical.em (XI r (.arg 1) = (2 : Int))).elim (fun (c118 : xhid (XI r (.arg 1) = (2 : Int))) => ?_) (fun (c118 : xhid (¬ (XI r (.arg 1) = (2 : Int)))) => ?_)
  ·
    have c119 : xhid ((2 : Int) < XI r (.arg 49)) := ((by have z0 : ¬ (XI r (.sub (.arg 49) (.int 6)) < (0 : Int)) := h0; omega) : (2 : Int) < XI r (.arg 49))
    have c120 : xhid ((3 : Int) < XI r (.arg 49)) := ((by have z0 : ¬ (XI r (.sub (.arg 49) (.int 6)) < (0 : Int)) := h0; omega) : (3 : Int) < XI r (.arg 49))
    refine (Classical.em (XI r (.arg 3) = (0 : Int))).elim (fun (c121 : xhid (XI r (.arg 3) = (0 : Int))) => ?_) (fun (c121 : xhid (¬ (XI r (.arg 3) = (0 : Int)))) => ?_)
    ·
      have c122 : xhid ((4 : Int) < XI r (.arg 49)) := ((by have z0 : ¬ (XI r (.sub (.arg 49) (.int 6)) < (0 : Int)) := h0; omega) : (4 : Int) < XI r (.arg 49))
      have c123 : xhid ((5 : Int) < XI r (.arg 49)) := ((by have z0 : ¬ (XI r (.sub (.arg 49) (.int 6)) < (0 : Int)) := h0; omega) : (5 : Int) < XI r (.arg 49))
      have c124 : xhid ((1 : Int) < XI r (.arg 49)) := ((by have z0 : (5 : Int) < XI r (.arg 49) := c123; omega) : (1 : Int) < XI r (.arg 49))
      have c125 : xhid ((2 : Int) < XI r (.arg 49)) := ((by have z0 : (5 : Int) < XI r (.arg 49) := c123; omega) : (2 : Int) < XI r (.arg 49))
      have c126 : xhid ((3 : Int) < XI r (.arg 49)) := ((by have z0 : (5 : Int) < XI r (.arg 49) := c123; omega) : (3 : Int) < XI r (.arg 49))
      have c127 : xhid ((4 : Int) < XI r (.arg 49)) := ((by have z0 : (5 : Int) < XI r (.arg 49) := c123; omega) : (4 : Int) < XI r (.arg 49))
      have c128 : xhid ((5 : Int) < XI r (.arg 49)) := ((by have z0 : (5 : Int) < XI r (.arg 49) := c123; omega) : (5 : Int) < XI r (.arg 49))
      have c129 : xhid (XI r (.sub (.arg 49) (.int 6)) < (6 : Int)) := ((by omega) : XI r (.sub (.arg 49) (.int 6)) < (6 : Int))
      refine ⟨209, _, ?_, lf_36_12⟩
      refine xc_cons (xh_gt_F (XI_lit (by decide +kernel)) rfl h0) ?_
      refine xc_cons (xh_lt_T (XI_lit (by decide +kernel)) rfl h1) ?_
      refine xc_cons (xh_eq_T rfl (XI_lit (by decide +kernel)) hk) ?_
      refine xc_cons (xh_lt_T (XI_lit (by decide +kernel)) rfl c1) ?_
      refine xc_cons (xh_eq_T rfl (XI_lit (by decide +kernel)) c118) ?_
      refine xc_cons (xh_lt_T (XI_lit (by decide +kernel)) rfl c119) ?_
      refine xc_cons (xh_lt_T (XI_lit (by decide +kernel)) rfl c120) ?_
      refine xc_cons (xh_eq_T rfl (XI_lit (by decide +kernel)) c121) ?_
      refine xc_cons (xh_lt_T (XI_lit (by decide +kernel)) rfl c122) ?_
      refine xc_cons (xh_lt_T (XI_lit (by decide +kernel)) rfl c123) ?_
      refine xc_cons (xh_lt_T (XI_lit (by decide +kernel)) rfl c124) ?_
      refine xc_cons (xh_eq_T rfl (XI_lit (by decide +kernel)) c118) ?_
      refine xc_cons (xh_lt_T (XI_lit (by decide +kernel)) rfl c125) ?_
      refine xc_cons (xh_lt_T (XI_lit (by decide +kernel)) rfl c126) ?_
      refine xc_cons (xh_eq_T rfl (XI_lit (by decide +kernel)) c121) ?_
      refine xc_cons (xh_lt_T (XI_lit (by decide +kernel)) rfl c127) ?_
      refine xc_cons (xh_lt_T (XI_lit (by decide +kernel)) rfl c128) ?_
      refine xc_cons (xh_gt_T (XI_lit (by decide +kernel)) rfl c129) ?_
      exact xc_nil
    refine (Classical.em (XI r (.arg 3) = (1 : Int))).elim (fun (c130 : xhid (XI r (.arg 3) = (1 : Int))) => ?_) (fun (c130 : xhid (¬ (XI r (.arg 3) = (1 : Int)))) => ?_)
    ·
      have c131 : xhid ((4 : Int) < XI r (.arg 49)) := ((by have z0 : ¬ (XI r (.sub (.arg 49) (.int 6)) < (0 : Int)) := h0; omega) : (4 : Int) < XI r (.arg 49))
      have c132 : xhid ((5 : Int) < XI r (.arg 49)) := ((by have z0 : ¬ (XI r (.sub (.arg 49) (.int 6)) < (0 : Int)) := h0; omega) : (5 : Int) < XI r (.arg 49))
      have c133 : xhid ((1 : Int) < XI r (.arg 49)) := ((by have z0 : (5 : Int) < XI r (.arg 49) := c132; omega) : (1 : Int) < XI r (.arg 49))
      have c134 : xhid ((2 : Int) < XI r (.arg 49)) := ((by have z0 : (5 : Int) < XI r (.arg 49) := c132; omega) : (2 : Int) < XI r (.arg 49))
      have c135 : xhid ((3 : Int) < XI r (.arg 49)) := ((by have z0 : (5 : Int) < XI r (.arg 49) := c132; omega) : (3 : Int) < XI r (.arg 49))
      have c136 : xhid ((4 : Int) < XI r (.arg 49)) := ((by have z0 : (5 : Int) < XI r (.arg 49) := c132; omega) : (4 : Int) < XI r (.arg 49))
      have c137 : xhid ((5 : Int) < XI r (.arg 49)) := ((by have z0 : (5 : Int) < XI r (.arg 49) := c132; omega) : (5 : Int) < XI r (.arg 49))
      have c138 : xhid (XI r (.sub (.arg 49) (.int 6)) < (6 : Int)) := ((by omega) : XI r (.sub (.arg 49) (.int 6)) < (6 : Int))
      refine ⟨209, _, ?_, lf_36_13⟩
      refine xc_cons (xh_gt_F (XI_lit (by decide +kernel)) rfl h0) ?_
      refine xc_cons (xh_lt_T (XI_lit (by decide +kernel)) rfl h1) ?_
      refine xc_cons (xh_eq_T rfl (XI_lit (by decide +kernel)) hk) ?_
      refine xc_cons (xh_lt_T (XI_lit (by decide +kernel)) rfl c1) ?_
      refine xc_cons (xh_eq_T rfl (XI_lit (by decide +kernel)) c118) ?_
      refine xc_cons (xh_lt_T (XI_lit (by decide +kernel)) rfl c119) ?_
      refine xc_cons (xh_lt_T (XI_lit (by decide +kernel)) rfl c120) ?_
      refine xc_cons (xh_eq_T rfl (XI_lit (by decide +kernel)) c130) ?_
      refine xc_cons (xh_lt_T (XI_lit (by decide +kernel)) rfl c131) ?_
      refine xc_cons (xh_lt_T (XI_lit (by decide +kernel)) rfl c132) ?_
      refine xc_cons (xh_lt_T (XI_lit (by decide +kernel)) rfl c133) ?_
      refine xc_cons (xh_eq_T rfl (XI_lit (by decide +kernel)) c118) ?_
      refine xc_cons (xh_lt_T (XI_lit (by decide +kernel)) rfl c134) ?_
      refine xc_cons (xh_lt_T (XI_lit (by decide +kernel)) rfl c135) ?_
      refine xc_cons (xh_eq_T rfl (XI_lit (by decide +kernel)) c130) ?_
      refine xc_cons (xh_lt_T (XI_lit (by decide +kernel)) rfl c136) ?_
      refine xc_cons (xh_lt_T (XI_lit (by decide +kernel)) rfl c137) ?_
      refine xc_cons (xh_gt_T (XI_lit (by decide +kernel)) rfl c138) ?_
      exact xc_nil
    refine (Classical.em (XI r (.arg 3) = (2 : Int))).elim (fun (c139 : xhid (XI r (.arg 3) = (2 : Int))) => ?_) (fun (c139 : xhid (¬ (XI r (.arg 3) = (2 : Int)))) => ?_)
    ·
      have c140 : xhid ((4 : Int) < XI r (.arg 49)) := ((by have z0 : ¬ (XI r (.sub (.arg 49) (.int 6)) < (0 : Int)) := h0; omega) : (4 : Int) < XI r (.arg 49))
      have c141 : xhid ((5 : Int) < XI r (.arg 49)) := ((by have z0 : ¬ (XI r (.sub (.arg 49) (.int 6)) < (0 : Int)) := h0; omega) : (5 : Int) < XI r (.arg 49))
      have c142 : xhid ((1 : Int) < XI r (.arg 49)) := ((by have z0 : (5 : Int) < XI r (.arg 49) := c141; omega) : (1 : Int) < XI r (.arg 49))
      have c143 : xhid ((2 : Int) < XI r (.arg 49)) := ((by have z0 : (5 : Int) < XI r (.arg 49) := c141; omega) : (2 : Int) < XI r (.arg 49))
      have c144 : xhid ((3 : Int) < XI r (.arg 49)) := ((by have z0 : (5 : Int) < XI r (.arg 49) := c141; omega) : (3 : Int) < XI r (.arg 49))
      have c145 : xhid ((4 : Int) < XI r (.arg 49)) := ((by have z0 : (5 : Int) < XI r (.arg 49) := c141; omega) : (4 : Int) < XI r (.arg 49))
      have c146 : xhid ((5 : Int) < XI r (.arg 49)) := ((by have z0 : (5 : Int) < XI r (.arg 49) := c141; omega) : (5 : Int) < XI r (.arg 49))
      have c147 : xhid (XI r (.sub (.arg 49) (.int 6)) < (6 : Int)) := ((by omega) : XI r (.sub (.arg 49) (.int 6)) < (6 : Int))
      refine ⟨209, _, ?_, lf_36_14⟩
      refine xc_cons (xh_gt_F (XI_lit (by decide +kernel)) rfl h0) ?_
      refine xc_cons (xh_lt_T (XI_lit (by decide +kernel)) rfl h1) ?_
      refine xc_cons (xh_eq_T rfl (XI_lit (by decide +kernel)) hk) ?_
      refine xc_cons (xh_lt_T (XI_lit (by decide +kernel)) rfl c1) ?_
      refine xc_cons (xh_eq_T rfl (XI_lit (by decide +kernel)) c118) ?_
      refine xc_cons (xh_lt_T (XI_lit (by decide +kernel)) rfl c119) ?_
      refine xc_cons (xh_lt_T (XI_lit (by decide +kernel)) rfl c120) ?_
      refine xc_cons (xh_eq_T rfl (XI_lit (by decide +kernel)) c139) ?_
      refine xc_cons (xh_lt_T (XI_lit (by decide +kernel)) rfl c140) ?_
      refine xc_cons (xh_lt_T (XI_lit (by decide +kernel)) rfl c141) ?_
      refine xc_cons (xh_lt_T (XI_lit (by decide +kernel)) rfl c142) ?_
      refine xc_cons (xh_eq_T rfl (XI_lit (by decide +kernel)) c118) ?_
      refine xc_cons (xh_lt_T (XI_lit (by decide +kernel)) rfl c143) ?_
      refine xc_cons (xh_lt_T (XI_lit (by decide +kernel)) rfl c144) ?_
      refine xc_cons (xh_eq_T rfl (XI_lit (by decide +kernel)) c139) ?_
      refine xc_cons (xh_lt_T (XI_lit (by decide +kernel)) rfl c145) ?_
      refine xc_cons (xh_lt_T (XI_lit (by decide +kernel)) rfl c146) ?_
      refine xc_cons (xh_gt_T (XI_lit (by decide +kernel)) rfl c147) ?_
      exact xc_nil
    refine (Classical.em (XI r (.arg 3) = (3 : Int))).elim (fun (c148 : xhid (XI r (.arg 3) = (3 : Int))) => ?_) (fun (c148 : xhid (¬ (XI r (.arg 3) = (3 : Int)))) => ?_)
    ·
      have c149 : xhid ((4 : Int) < XI r (.arg 49)) := ((by have z0 : ¬ (XI r (.sub (.arg 49) (.int 6)) < (0 : Int)) := h0; omega) : (4 : Int) < XI r (.arg 49))
      have c150 : xhid ((5 : Int) < XI r (.arg 49)) := ((by have z0 : ¬ (XI r (.sub (.arg 49) (.int 6)) < (0 : Int)) := h0; omega) : (5 : Int) < XI r (.arg 49))
      have c151 : xhid ((1 : Int) < XI r (.arg 49)) := ((by have z0 : (5 : Int) < XI r (.arg 49) := c150; omega) : (1 : Int) < XI r (.arg 49))
      have c152 : xhid ((2 : Int) < XI r (.arg 49)) := ((by have z0 : (5 : Int) < XI r (.arg 49) := c150; omega) : (2 : Int) < XI r (.arg 49))
      have c153 : xhid ((3 : Int) < XI r (.arg 49)) := ((by have z0 : (5 : Int) < XI r (.arg 49) := c150; omega) : (3 : Int) < XI r (.arg 49))
      have c154 : xhid ((4 : Int) < XI r (.arg 49)) := ((by have z0 : (5 : Int) < XI r (.arg 49) := c150; omega) : (4 : Int) < XI r (.arg 49))
      have c155 : xhid ((5 : Int) < XI r (.arg 49)) := ((by have z0 : (5 : Int) < XI r (.arg 49) := c150; omega) : (5 : Int) < XI r (.arg 49))
      have c156 : xhid (XI r (.sub (.arg 49) (.int 6)) < (6 : Int)) := ((by omega) : XI r (.sub (.arg 49) (.int 6)) < (6 : Int))
      refine ⟨209, _, ?_, lf_36_15⟩
      refine xc_cons (xh_gt_F (XI_lit (by decide +kernel)) rfl h0) ?_
      refine xc_cons (xh_lt_T (XI_lit (by decide +kernel)) rfl h1) ?_
      refine xc_cons (xh_eq_T rfl (XI_lit (by decide +kernel)) hk) ?_
      refine xc_cons (xh_lt_T (XI_lit (by decide +kernel)) rfl c1) ?_
      refine xc_cons (xh_eq_T rfl (XI_lit (by decide +kernel)) c118) ?_
      refine xc_cons (xh_lt_T (XI_lit (by decide +kernel)) rfl c119) ?_
      refine xc_cons (xh_lt_T (XI_lit (by decide +kernel)) rfl c120) ?_
      refine xc_cons (xh_eq_T rfl (XI_lit (by decide +kernel)) c148) ?_
      refine xc_cons (xh_lt_T (XI_lit (by decide +kernel)) rfl c149) ?_
      refine xc_cons (xh_lt_T (XI_lit (by decide +kernel)) rfl c150) ?_
      refine xc_cons (xh_lt_T (XI_lit (by decide +kernel)) rfl c151) ?_
      refine xc_cons (xh_eq_T rfl (XI_lit (by decide +kernel)) c118) ?_
      refine xc_cons (xh_lt_T (XI_lit (by decide +kernel)) rfl c152) ?_
      refine xc_cons (xh_lt_T (XI_lit (by decide +kernel)) rfl c153) ?_
      refine xc_cons (xh_eq_T rfl (XI_lit (by decide +kernel)) c148) ?_
      refine xc_cons (xh_lt_T (XI_lit (by decide +kernel)) rfl c154) ?_
      refine xc_cons (xh_lt_T (XI_lit (by decide +kernel)) rfl c155) ?_
      refine xc_cons (xh_gt_T (XI_lit (by decide +kernel)) rfl c156) ?_
      exact xc_nil
    have c157 : xhid ((4 : Int) < XI r (.arg 49)) := ((by have z0 : ¬ (XI r (.sub (.arg 49) (.int 6)) < (0 : Int)) := h0; omega) : (4 : Int) < XI r (.arg 49))
    have c158 : xhid ((5 : Int) < XI r (.arg 49)) := ((by have z0 : ¬ (XI r (.sub (.arg 49) (.int 6)) < (0 : Int)) := h0; omega) : (5 : Int) < XI r (.arg 49))
    refine (Classical.em (XI r (.arg 3) < (0 : Int))).elim (fun (c159 : xhid (XI r (.arg 3) < (0 : Int))) => ?_) (fun (c159 : xhid (¬ (XI r (.arg 3) < (0 : Int)))) => ?_)
    ·
      have c160 : xhid ((1 : Int) < XI r (.arg 49)) := ((by have z0 : (5 : Int) < XI r (.arg 49) := c158; omega) : (1 : Int) < XI r (.arg 49))
      have c161 : xhid ((2 : Int) < XI r (.arg 49)) := ((by have z0 : (5 : Int) < XI r (.arg 49) := c158; omega) : (2 : Int) < XI r (.arg 49))
      have c162 : xhid ((3 : Int) < XI r (.arg 49)) := ((by have z0 : (5 : Int) < XI r (.arg 49) := c158; omega) : (3 : Int) < XI r (.arg 49))
      have c163 : xhid ((4 : Int) < XI r (.arg 49)) := ((by have z0 : (5 : Int) < XI r (.arg 49) := c158; omega) : (4 : Int) < XI r (.arg 49))
      have c164 : xhid ((5 : Int) < XI r (.arg 49)) := ((by have z0 : (5 : Int) < XI r (.arg 49) := c158; omega) : (5 : Int) < XI r (.arg 49))
      have c165 : xhid (XI r (.arg 3) < (0 : Int)) := ((by have z0 : XI r (.arg 3) < (0 : Int) := c159; have z1 : -2147483648 ≤ XI r (.arg 3) := b3; have z2 : XI r (.arg 3) < 2147483648 := d3; omega) : XI r (.arg 3) < (0 : Int))
      have c166 : xhid (XI r (.sub (.arg 49) (.int 6)) < (6 : Int)) := ((by omega) : XI r (.sub (.arg 49) (.int 6)) < (6 : Int))
      refine ⟨177, _, ?_, lf_36_16⟩
      refine xc_cons (xh_gt_F (XI_lit (by decide +kernel)) rfl h0) ?_
      refine xc_cons (xh_lt_T (XI_lit (by decide +kernel)) rfl h1) ?_
      refine xc_cons (xh_eq_T rfl (XI_lit (by decide +kernel)) hk) ?_
      refine xc_cons (xh_lt_T (XI_lit (by decide +kernel)) rfl c1) ?_
      refine xc_cons (xh_eq_T rfl (XI_lit (by decide +kernel)) c118) ?_
      refine xc_cons (xh_lt_T (XI_lit (by decide +kernel)) rfl c119) ?_
      refine xc_cons (xh_lt_T (XI_lit (by decide +kernel)) rfl c120) ?_
      refine xc_cons (xh_lt_T (XI_lit (by decide +kernel)) rfl c157) ?_
      refine xc_cons (xh_lt_T (XI_lit (by decide +kernel)) rfl c158) ?_
      refine xc_cons (xh_lt_T rfl (XI_lit (by decide +kernel)) c159) ?_
      refine xc_cons (xh_lt_T (XI_lit (by decide +kernel)) rfl c160) ?_
      refine xc_cons (xh_eq_T rfl (XI_lit (by decide +kernel)) c118) ?_
      refine xc_cons (xh_lt_T (XI_lit (by decide +kernel)) rfl c161) ?_
      refine xc_cons (xh_lt_T (XI_lit (by decide +kernel)) rfl c162) ?_
      refine xc_cons (xh_lt_T (XI_lit (by decide +kernel)) rfl c163) ?_
      refine xc_cons (xh_lt_T (XI_lit (by decide +kernel)) rfl c164) ?_
      refine xc_cons (xh_lt_T rfl (XI_lit (by decide +kernel)) c165) ?_
      refine xc_cons (xh_gt_T (XI_lit (by decide +kernel)) rfl c166) ?_
      exact xc_nil
    ·
      have c167 : xhid ((4 : Int) ≤ XI r (.arg 3)) := ((by have z0 : ¬ (XI r (.arg 3) < (0 : Int)) := c159; have z1 : ¬ (XI r (.arg 3) = (0 : Int)) := c121; have z2 : ¬ (XI r (.arg 3) = (1 : Int)) := c130; have z3 : ¬ (XI r (.arg 3) = (2 : Int)) := c139; have z4 : ¬ (XI r (.arg 3) = (3 : Int)) := c148; have z5 : -2147483648 ≤ XI r (.arg 3) := b3; have z6 : XI r (.arg 3) < 2147483648 := d3; omega) : (4 : Int) ≤ XI r (.arg 3))
      have c168 : xhid ((1 : Int) < XI r (.arg 49)) := ((by have z0 : (5 : Int) < XI r (.arg 49) := c158; omega) : (1 : Int) < XI r (.arg 49))
      have c169 : xhid ((2 : Int) < XI r (.arg 49)) := ((by have z0 : (5 : Int) < XI r (.arg 49) := c158; omega) : (2 : Int) < XI r (.arg 49))
      have c170 : xhid ((3 : Int) < XI r (.arg 49)) := ((by have z0 : (5 : Int) < XI r (.arg 49) := c158; omega) : (3 : Int) < XI r (.arg 49))
      have c171 : xhid ((4 : Int) < XI r (.arg 49)) := ((by have z0 : (5 : Int) < XI r (.arg 49) := c158; omega) : (4 : Int) < XI r (.arg 49))
      have c172 : xhid ((5 : Int) < XI r (.arg 49)) := ((by have z0 : (5 : Int) < XI r (.arg 49) := c158; omega) : (5 : Int) < XI r (.arg 49))
      have c173 : xhid (¬ (XI r (.arg 3) < (0 : Int))) := ((by have z0 : (4 : Int) ≤ XI r (.arg 3) := c167; have z1 : -2147483648 ≤ XI r (.arg 3) := b3; have z2 : XI r (.arg 3) < 2147483648 := d3; omega) : ¬ (XI r (.arg 3) < (0 : Int)))
      have c174 : xhid ((3 : Int) < XI r (.arg 3)) := ((by have z0 : ¬ (XI r (.arg 3) < (0 : Int)) := c173; have z1 : ¬ (XI r (.arg 3) = (0 : Int)) := c121; have z2 : ¬ (XI r (.arg 3) = (1 : Int)) := c130; have z3 : ¬ (XI r (.arg 3) = (2 : Int)) := c139; have z4 : ¬ (XI r (.arg 3) = (3 : Int)) := c148; have z5 : -2147483648 ≤ XI r (.arg 3) := b3; have z6 : XI r (.arg 3) < 2147483648 := d3; omega) : (3 : Int) < XI r (.arg 3))
      have c175 : xhid (XI r (.sub (.arg 49) (.int 6)) < (6 : Int)) := ((by omega) : XI r (.sub (.arg 49) (.int 6)) < (6 : Int))
      refine ⟨183, _, ?_, lf_36_17⟩
      refine xc_cons (xh_gt_F (XI_lit (by decide +kernel)) rfl h0) ?_
      refine xc_cons (xh_lt_T (XI_lit (by decide +kernel)) rfl h1) ?_
      refine xc_cons (xh_eq_T rfl (XI_lit (by decide +kernel)) hk) ?_
      refine xc_cons (xh_lt_T (XI_lit (by decide +kernel)) rfl c1) ?_
      refine xc_cons (xh_eq_T rfl (XI_lit (by decide +kernel)) c118) ?_
      refine xc_cons (xh_lt_T (XI_lit (by decide +kernel)) rfl c119) ?_
      refine xc_cons (xh_lt_T (XI_lit (by decide +kernel)) rfl c120) ?_
      refine xc_cons (xh_lt_T (XI_lit (by decide +kernel)) rfl c157) ?_
      refine xc_cons (xh_lt_T (XI_lit (by decide +kernel)) rfl c158) ?_
      refine xc_cons (xh_lt_F rfl (XI_lit (by decide +kernel)) c159) ?_
      refine xc_cons (xh_ge_T rfl (XI_lit (by decide +kernel)) c167) ?_
      refine xc_cons (xh_lt_T (XI_lit (by decide +kernel)) rfl c168) ?_
      refine xc_cons (xh_eq_T rfl (XI_lit (by decide +kernel)) c118) ?_
      refine xc_cons (xh_lt_T (XI_lit (by decide +kernel)) rfl c169) ?_
      refine xc_cons (xh_lt_T (XI_lit (by decide +kernel)) rfl c170) ?_
      refine xc_cons (xh_lt_T (XI_lit (by decide +kernel)) rfl c171) ?_
      refine xc_cons (xh_lt_T (XI_lit (by decide +kernel)) rfl c172) ?_
      refine xc_cons (xh_lt_F rfl (XI_lit (by decide +kernel)) c173) ?_
      refine xc_cons (xh_gt_T rfl (XI_lit (by decide +kernel)) c174) ?_
      refine xc_cons (xh_gt_T (XI_lit (by decide +kernel)) rfl c175) ?_
      exact xc_nil
  refine (Classical.em (XI r (.arg 1) = (3 : Int))).elim (fun (c176 : xhid (XI r (.arg 1) = (3 : Int))) => ?_) (fun (c176 : xhid (¬ (XI r (.arg 1) = (3 : Int)))) => ?_)
  ·
    have c177 : xhid ((2 : Int) < XI r (.arg 49)) := ((by have z0 : ¬ (XI r (.sub (.arg 49) (.int 6)) < (0 : Int)) := h0; omega) : (2 : Int) < XI r (.arg 49))
    have c178 : xhid ((3 : Int) < XI r (.arg 49)) := ((by have z0 : ¬ (XI r (.sub (.arg 49) (.int 6)) < (0 : Int)) := h0; omega) : (3 : Int) < XI r (.arg 49))
    refine (Classical.em (XI r (.arg 3) = (0 : Int))).elim (fun (c179 : xhid (XI r (.arg 3) = (0 : Int))) => ?_) (fun (c179 : xhid (¬ (XI r (.arg 3) = (0 : Int)))) => ?_)
    ·
      have c180 : xhid ((4 : Int) < XI r (.arg 49)) := ((by have z0 : ¬ (XI r (.sub (.arg 49) (.int 6)) < (0 : Int)) := h0; omega) : (4 : Int) < XI r (.arg 49))
      have c181 : xhid ((5 : Int) < XI r (.arg 49)) := ((by have z0 : ¬ (XI r (.sub (.arg 49) (.int 6)) < (0 : Int)) := h0; omega) : (5 : Int) < XI r (.arg 49))
      have c182 : xhid ((1 : Int) < XI r (.arg 49)) := ((by have z0 : (5 : Int) < XI r (.arg 49) := c181; omega) : (1 : Int) < XI r (.arg 49))
      have c183 : xhid ((2 : Int) < XI r (.arg 49)) := ((by have z0 : (5 : Int) < XI r (.arg 49) := c181; omega) : (2 : Int) < XI r (.arg 49))
      have c184 : xhid ((3 : Int) < XI r (.arg 49)) := ((by have z0 : (5 : Int) < XI r (.arg 49) := c181; omega) : (3 : Int) < XI r (.arg 49))
      have c185 : xhid ((4 : Int) < XI r (.arg 49)) := ((by have z0 : (5 : Int) < XI r (.arg 49) := c181; omega) : (4 : Int) < XI r (.arg 49))
      have c186 : xhid ((5 : Int) < XI r (.arg 49)) := ((by have z0 : (5 : Int) < XI r (.arg 49) := c181; omega) : (5 : Int) < XI r (.arg 49))
      have c187 : xhid (XI r (.sub (.arg 49) (.int 6)) < (6 : Int)) := ((by omega) : XI r (.sub (.arg 49) (.int 6)) < (6 : Int))
      refine ⟨209, _, ?_, lf_36_18⟩
      refine xc_cons (xh_gt_F (XI_lit (by decide +kernel)) rfl h0) ?_
      refine xc_cons (xh_lt_T (XI_lit (by decide +kernel)) rfl h1) ?_
      refine xc_cons (xh_eq_T rfl (XI_lit (by decide +kernel)) hk) ?_
      refine xc_cons (xh_lt_T (XI_lit (by decide +kernel)) rfl c1) ?_
      refine xc_cons (xh_eq_T rfl (XI_lit (by decide +kernel)) c176) ?_
      refine xc_cons (xh_lt_T (XI_lit (by decide +kernel)) rfl c177) ?_
      refine xc_cons (xh_lt_T (XI_lit (by decide +kernel)) rfl c178) ?_
      refine xc_cons (xh_eq_T rfl (XI_lit (by decide +kernel)) c179) ?_
      refine xc_cons (xh_lt_T (XI_lit (by decide +kernel)) rfl c180) ?_
      refine xc_cons (xh_lt_T (XI_lit (by decide +kernel)) rfl c181) ?_
      refine xc_cons (xh_lt_T (XI_lit (by decide +kernel)) rfl c182) ?_
      refine xc_cons (xh_eq_T rfl (XI_lit (by decide +kernel)) c176) ?_
      refine xc_cons (xh_lt_T (XI_lit (by decide +kernel)) rfl c183) ?_
      refine xc_cons (xh_lt_T (XI_lit (by decide +kernel)) rfl c184) ?_
      refine xc_cons (xh_eq_T rfl (XI_lit (by decide +kernel)) c179) ?_
      refine xc_cons (xh_lt_T (XI_lit (by decide +kernel)) rfl c185) ?_
      refine xc_cons (xh_lt_T (XI_lit (by decide +kernel)) rfl c186) ?_
      refine xc_cons (xh_gt_T (XI_lit (by decide +kernel)) rfl c187) ?_
      exact xc_nil
    refine (Classical.em (XI r (.arg 3) = (1 : Int))).elim (fun (c188 : xhid (XI r (.arg 3) = (1 : Int))) => ?_) (fun (c188 : xhid (¬ (XI r (.arg 3) = (1 : Int)))) => ?_)
    ·
      have c189 : xhid ((4 : Int) < XI r (.arg 49)) := ((by have z0 : ¬ (XI r (.sub (.arg 49) (.int 6)) < (0 : Int)) := h0; omega) : (4 : Int) < XI r (.arg 49))
      have c190 : xhid ((5 : Int) < XI r (.arg 49)) := ((by have z0 : ¬ (XI r (.sub (.arg 49) (.int 6)) < (0 : Int)) := h0; omega) : (5 : Int) < XI r (.arg 49))
      have c191 : xhid ((1 : Int) < XI r (.arg 49)) := ((by have z0 : (5 : Int) < XI r (.arg 49) := c190; omega) : (1 : Int) < XI r (.arg 49))
      have c192 : xhid ((2 : Int) < XI r (.arg 49)) := ((by have z0 : (5 : Int) < XI r (.arg 49) := c190; omega) : (2 : Int) < XI r (.arg 49))
      have c193 : xhid ((3 : Int) < XI r (.arg 49)) := ((by have z0 : (5 : Int) < XI r (.arg 49) := c190; omega) : (3 : Int) < XI r (.arg 49))
      have c194 : xhid ((4 : Int) < XI r (.arg 49)) := ((by have z0 : (5 : Int) < XI r (.arg 49) := c190; omega) : (4 : Int) < XI r (.arg 49))
      have c195 : xhid ((5 : Int) < XI r (.arg 49)) := ((by have z0 : (5 : Int) < XI r (.arg 49) := c190; omega) : (5 : Int) < XI r (.arg 49))
      have c196 : xhid (XI r (.sub (.arg 49) (.int 6)) < (6 : Int)) := ((by omega) : XI r (.sub (.arg 49) (.int 6)) < (6 : Int))
      refine ⟨209, _, ?_, lf_36_19⟩
      refine xc_cons (xh_gt_F (XI_lit (by decide +kernel)) rfl h0) ?_
      refine xc_cons (xh_lt_T (XI_lit (by decide +kernel)) rfl h1) ?_
      refine xc_cons (xh_eq_T rfl (XI_lit (by decide +kernel)) hk) ?_
      refine xc_cons (xh_lt_T (XI_lit (by decide +kernel)) rfl c1) ?_
      refine xc_cons (xh_eq_T rfl (XI_lit (by decide +kernel)) c176) ?_
      refine xc_cons (xh_lt_T (XI_lit (by decide +kernel)) rfl c177) ?_
      refine xc_cons (xh_lt_T (XI_lit (by decide +kernel)) rfl c178) ?_
      refine xc_cons (xh_eq_T rfl (XI_lit (by decide +kernel)) c188) ?_
      refine xc_cons (xh_lt_T (XI_lit (by decide +kernel)) rfl c189) ?_
      refine xc_cons (xh_lt_T (XI_lit (by decide +kernel)) rfl c190) ?_
      refine xc_cons (xh_lt_T (XI_lit (by decide +kernel)) rfl c191) ?_
      refine xc_cons (xh_eq_T rfl (XI_lit (by decide +kernel)) c176) ?_
      refine xc_cons (xh_lt_T (XI_lit (by decide +kernel)) rfl c192) ?_
      refine xc_cons (xh_lt_T (XI_lit (by decide +kernel)) rfl c193) ?_
      refine xc_cons (xh_eq_T rfl (XI_lit (by decide +kernel)) c188) ?_
      refine xc_cons (xh_lt_T (XI_lit (by decide +kernel)) rfl c194) ?_
      refine xc_cons (xh_lt_T (XI_lit (by decide +kernel)) rfl c195) ?_
      refine xc_cons (xh_gt_T (XI_lit (by decide +kernel)) rfl c196) ?_
      exact xc_nil
    refine (Classical.em (XI r (.arg 3) = (2 : Int))).elim (fun (c197 : xhid (XI r (.arg 3) = (2 : Int))) => ?_) (fun (c197 : xhid (¬ (XI r (.arg 3) = (2 : Int)))) => ?_)
    ·
      have c198 : xhid ((4 : Int) < XI r (.arg 49)) := ((by have z0 : ¬ (XI r (.sub (.arg 49) (.int 6)) < (0 : Int)) := h0; omega) : (4 : Int) < XI r (.arg 49))
      have c199 : xhid ((5 : Int) < XI r (.arg 49)) := ((by have z0 : ¬ (XI r (.sub (.arg 49) (.int 6)) < (0 : Int)) := h0; omega) : (5 : Int) < XI r (.arg 49))
      have c200 : xhid ((1 : Int) < XI r (.arg 49)) := ((by have z0 : (5 : Int) < XI r (.arg 49) := c199; omega) : (1 : Int) < XI r (.arg 49))
      have c201 : xhid ((2 : Int) < XI r (.arg 49)) := ((by have z0 : (5 : Int) < XI r (.arg 49) := c199; omega) : (2 : Int) < XI r (.arg 49))
      have c202 : xhid ((3 : Int) < XI r (.arg 49)) := ((by have z0 : (5 : Int) < XI r (.arg 49) := c199; omega) : (3 : Int) < XI r (.arg 49))
      have c203 : xhid ((4 : Int) < XI r (.arg 49)) := ((by have z0 : (5 : Int) < XI r (.arg 49) := c199; omega) : (4 : Int) < XI r (.arg 49))
      have c204 : xhid ((5 : Int) < XI r (.arg 49)) := ((by have z0 : (5 : Int) < XI r (.arg 49) := c199; omega) : (5 : Int) < XI r (.arg 49))
      have c205 : xhid (XI r (.sub (.arg 49) (.int 6)) < (6 : Int)) := ((by omega) : XI r (.sub (.arg 49) (.int 6)) < (6 : Int))
      refine ⟨209, _, ?_, lf_36_20⟩
      refine xc_cons (xh_gt_F (XI_lit (by decide +kernel)) rfl h0) ?_
      refine xc_cons (xh_lt_T (XI_lit (by decide +kernel)) rfl h1) ?_
      refine xc_cons (xh_eq_T rfl (XI_lit (by decide +kernel)) hk) ?_
      refine xc_cons (xh_lt_T (XI_lit (by decide +kernel)) rfl c1) ?_
      refine xc_cons (xh_eq_T rfl (XI_lit (by decide +kernel)) c176) ?_
      refine xc_cons (xh_lt_T (XI_lit (by decide +kernel)) rfl c177) ?_
      refine xc_cons (xh_lt_T (XI_lit (by decide +kernel)) rfl c178) ?_
      refine xc_cons (xh_eq_T rfl (XI_lit (by decide +kernel)) c197) ?_
      refine xc_cons (xh_lt_T (XI_lit (by decide +kernel)) rfl c198) ?_
      refine xc_cons (xh_lt_T (XI_lit (by decide +kernel)) rfl c199) ?_
      refine xc_cons (xh_lt_T (XI_lit (by decide +kernel)) rfl c200) ?_
      refine xc_cons (xh_eq_T rfl (XI_lit (by decide +kernel)) c176) ?_
      refine xc_cons (xh_lt_T (XI_lit (by decide +kernel)) rfl c201) ?_
      refine xc_cons (xh_lt_T (XI_lit (by decide +kernel)) rfl c202) ?_
      refine xc_cons (xh_eq_T rfl (XI_lit (by decide +kernel)) c197) ?_
      refine xc_cons (xh_lt_T (XI_lit (by decide +kernel)) rfl c203) ?_
      refine xc_cons (xh_lt_T (XI_lit (by decide +kernel)) rfl c204) ?_
      refine xc_cons (xh_gt_T (XI_lit (by decide +kernel)) rfl c205) ?_
      exact xc_nil
    refine (Classical.em (XI r (.arg 3) = (3 : Int))).elim (fun (c206 : xhid (XI r (.arg 3) = (3 : Int))) => ?_) (fun (c206 : xhid (¬ (XI r (.arg 3) = (3 : Int)))) => ?_)
    ·
      have c207 : xhid ((4 : Int) < XI r (.arg 49)) := ((by have z0 : ¬ (XI r (.sub (.arg 49) (.int 6)) < (0 : Int)) := h0; omega) : (4 : Int) < XI r (.arg 49))
      have c208 : xhid ((5 : Int) < XI r (.arg 49)) := ((by have z0 : ¬ (XI r (.sub (.arg 49) (.int 6)) < (0 : Int)) := h0; omega) : (5 : Int) < XI r (.arg 49))
      have c209 : xhid ((1 : Int) < XI r (.arg 49)) := ((by have z0 : (5 : Int) < XI r (.arg 49) := c208; omega) : (1 : Int) < XI r (.arg 49))
      have c210 : xhid ((2 : Int) < XI r (.arg 49)) := ((by have z0 : (5 : Int) < XI r (.arg 49) := c208; omega) : (2 : Int) < XI r (.arg 49))
      have c211 : xhid ((3 : Int) < XI r (.arg 49)) := ((by have z0 : (5 : Int) < XI r (.arg 49) := c208; omega) : (3 : Int) < XI r (.arg 49))
      have c212 : xhid ((4 : Int) < XI r (.arg 49)) := ((by have z0 : (5 : Int) < XI r (.arg 49) := c208; omega) : (4 : Int) < XI r (.arg 49))
      have c213 : xhid ((5 : Int) < XI r (.arg 49)) := ((by have z0 : (5 : Int) < XI r (.arg 49) := c208; omega) : (5 : Int) < XI r (.arg 49))
      have c214 : xhid (XI r (.sub (.arg 49) (.int 6)) < (6 : Int)) := ((by omega) : XI r (.sub (.arg 49) (.int 6)) < (6 : Int))
      refine ⟨209, _, ?_, lf_36_21⟩
      refine xc_cons (xh_gt_F (XI_lit (by decide +kernel)) rfl h0) ?_
      refine xc_cons (xh_lt_T (XI_lit (by decide +kernel)) rfl h1) ?_
      refine xc_cons (xh_eq_T rfl (XI_lit (by decide +kernel)) hk) ?_
      refine xc_cons (xh_lt_T (XI_lit (by decide +kernel)) rfl c1) ?_
      refine xc_cons (xh_eq_T rfl (XI_lit (by decide +kernel)) c176) ?_
      refine xc_cons (xh_lt_T (XI_lit (by decide +kernel)) rfl c177) ?_
      refine xc_cons (xh_lt_T (XI_lit (by decide +kernel)) rfl c178) ?_
      refine xc_cons (xh_eq_T rfl (XI_lit (by decide +kernel)) c206) ?_
      refine xc_cons (xh_lt_T (XI_lit (by decide +kernel)) rfl c207) ?_
      refine xc_cons (xh_lt_T (XI_lit (by decide +kernel)) rfl c208) ?_
      refine xc_cons (xh_lt_T (XI_lit (by decide +kernel)) rfl c209) ?_
      refine xc_cons (xh_eq_T rfl (XI_lit (by decide +kernel)) c176) ?_
      refine xc_cons (xh_lt_T (XI_lit (by decide +kernel)) rfl c210) ?_
      refine xc_cons (xh_lt_T (XI_lit (by decide +kernel)) rfl c211) ?_
      refine xc_cons (xh_eq_T rfl (XI_lit (by decide +kernel)) c206) ?_
      refine xc_cons (xh_lt_T (XI_lit (by decide +kernel)) rfl c212) ?_
      refine xc_cons (xh_lt_T (XI_lit (by decide +kernel)) rfl c213) ?_
      refine xc_cons (xh_gt_T (XI_lit (by decide +kernel)) rfl c214) ?_
      exact xc_nil
    have c215 : xhid ((4 : Int) < XI r (.arg 49)) := ((by have z0 : ¬ (XI r (.sub (.arg 49) (.int 6)) < (0 : Int)) := h0; omega) : (4 : Int) < XI r (.arg 49))
    have c216 : xhid ((5 : Int) < XI r (.arg 49)) := ((by have z0 : ¬ (XI r (.sub (.arg 49) (.int 6)) < (0 : Int)) := h0; omega) : (5 : Int) < XI r (.arg 49))
    refine (Classical.em (XI r (.arg 3) < (0 : Int))).elim (fun (c217 : xhid (XI r (.arg 3) < (0 : Int))) => ?_) (fun (c217 : xhid (¬ (XI r (.arg 3) < (0 : Int)))) => ?_)
    ·
      have c218 : xhid ((1 : Int) < XI r (.arg 49)) := ((by have z0 : (5 : Int) < XI r (.arg 49) := c216; omega) : (1 : Int) < XI r (.arg 49))
      have c219 : xhid ((2 : Int) < XI r (.arg 49)) := ((by have z0 : (5 : Int) < XI r (.arg 49) := c216; omega) : (2 : Int) < XI r (.arg 49))
      have c220 : xhid ((3 : Int) < XI r (.arg 49)) := ((by have z0 : (5 : Int) < XI r (.arg 49) := c216; omega) : (3 : Int) < XI r (.arg 49))
      have c221 : xhid ((4 : Int) < XI r (.arg 49)) := ((by have z0 : (5 : Int) < XI r (.arg 49) := c216; omega) : (4 : Int) < XI r (.arg 49))
      have c222 : xhid ((5 : Int) < XI r (.arg 49)) := ((by have z0 : (5 : Int) < XI r (.arg 49) := c216; omega) : (5 : Int) < XI r (.arg 49))
      have c223 : xhid (XI r (.arg 3) < (0 : Int)) := ((by have z0 : XI r (.arg 3) < (0 : Int) := c217; have z1 : -2147483648 ≤ XI r (.arg 3) := b3; have z2 : XI r (.arg 3) < 2147483648 := d3; omega) : XI r (.arg 3) < (0 : Int))
      have c224 : xhid (XI r (.sub (.arg 49) (.int 6)) < (6 : Int)) := ((by omega) : XI r (.sub (.arg 49) (.int 6)) < (6 : Int))
      refine ⟨177, _, ?_, lf_36_22⟩
      refine xc_cons (xh_gt_F (XI_lit (by decide +kernel)) rfl h0) ?_
      refine xc_cons (xh_lt_T (XI_lit (by decide +kernel)) rfl h1) ?_
      refine xc_cons (xh_eq_T rfl (XI_lit (by decide +kernel)) hk) ?_
      refine xc_cons (xh_lt_T (XI_lit (by decide +kernel)) rfl c1) ?_
      refine xc_cons (xh_eq_T rfl (XI_lit (by decide +kernel)) c176) ?_
      refine xc_cons (xh_lt_T (XI_lit (by decide +kernel)) rfl c177) ?_
      refine xc_cons (xh_lt_T (XI_lit (by decide +kernel)) rfl c178) ?_
      refine xc_cons (xh_lt_T (XI_lit (by decide +kernel)) rfl c215) ?_
      refine xc_cons (xh_lt_T (XI_lit (by decide +kernel)) rfl c216) ?_
      refine xc_cons (xh_lt_T rfl (XI_lit (by decide +kernel)) c217) ?_
      refine xc_cons (xh_lt_T (XI_lit (by decide +kernel)) rfl c218) ?_
      refine xc_cons (xh_eq_T rfl (XI_lit (by decide +kernel)) c176) ?_
      refine xc_cons (xh_lt_T (XI_lit (by decide +kernel)) rfl c219) ?_
      refine xc_cons (xh_lt_T (XI_lit (by decide +kernel)) rfl c220) ?_
      refine xc_cons (xh_lt_T (XI_lit (by decide +kernel)) rfl c221) ?_
      refine xc_cons (xh_lt_T (XI_lit (by decide +kernel)) rfl c222) ?_
      refine xc_cons (xh_lt_T rfl (XI_lit (by decide +kernel)) c223) ?_
      refine xc_cons (xh_gt_T (XI_lit (by decide +kernel)) rfl c224) ?_
      exact xc_nil
    ·
      have c225 : xhid ((4 : Int) ≤ XI r (.arg 3)) := ((by have z0 : ¬ (XI r (.arg 3) < (0 : Int)) := c217; have z1 : ¬ (XI r (.arg 3) = (0 : Int)) := c179; have z2 : ¬ (XI r (.arg 3) = (1 : Int)) := c188; have z3 : ¬ (XI r (.arg 3) = (2 : Int)) := c197; have z4 : ¬ (XI r (.arg 3) = (3 : Int)) := c206; have z5 : -2147483648 ≤ XI r (.arg 3) := b3; have z6 : XI r (.arg 3) < 2147483648 := d3; omega) : (4 : Int) ≤ XI r (.arg 3))
      have c226 : xhid ((1 : Int) < XI r (.arg 49)) := ((by have z0 : (5 : Int) < XI r (.arg 49) := c216; omega) : (1 : Int) < XI r (.arg 49))
      have c227 : xhid ((2 : Int) < XI r (.arg 49)) := ((by have z0 : (5 : Int) < XI r (.arg 49) := c216; omega) : (2 : Int) < XI r (.arg 49))
      have c228 : xhid ((3 : Int) < XI r (.arg 49)) := ((by have z0 : (5 : Int) < XI r (.arg 49) := c216; omega) : (3 : Int) < XI r (.arg 49))
      have c229 : xhid ((4 : Int) < XI r (.arg 49)) := ((by have z0 : (5 : Int) < XI r (.arg 49) := c216; omega) : (4 : Int) < XI r (.arg 49))
      have c230 : xhid ((5 : Int) < XI r (.arg 49)) := ((by have z0 : (5 : Int) < XI r (.arg 49) := c216; omega) : (5 : Int) < XI r (.arg 49))
      have c231 : xhid (¬ (XI r (.arg 3) < (0 : Int))) := ((by have z0 : (4 : Int) ≤ XI r (.arg 3) := c225; have z1 : -2147483648 ≤ XI r (.arg 3) := b3; have z2 : XI r (.arg 3) < 2147483648 := d3; omega) : ¬ (XI r (.arg 3) < (0 : Int)))
      have c232 : xhid ((3 : Int) < XI r (.arg 3)) := ((by have z0 : ¬ (XI r (.arg 3) < (0 : Int)) := c231; have z1 : ¬ (XI r (.arg 3) = (0 : Int)) := c179; have z2 : ¬ (XI r (.arg 3) = (1 : Int)) := c188; have z3 : ¬ (XI r (.arg 3) = (2 : Int)) := c197; have z4 : ¬ (XI r (.arg 3) = (3 : Int)) := c206; have z5 : -2147483648 ≤ XI r (.arg 3) := b3; have z6 : XI r (.arg 3) < 2147483648 := d3; omega) : (3 : Int) < XI r (.arg 3))
      have c233 : xhid (XI r (.sub (.arg 49) (.int 6)) < (6 : Int)) := ((by omega) : XI r (.sub (.arg 49) (.int 6)) < (6 : Int))
      refine ⟨183, _, ?_, lf_36_23⟩
      refine xc_cons (xh_gt_F (XI_lit (by decide +kernel)) rfl h0) ?_
      refine xc_cons (xh_lt_T (XI_lit (by decide +kernel)) rfl h1) ?_
      refine xc_cons (xh_eq_T rfl (XI_lit (by decide +kernel)) hk) ?_
      refine xc_cons (xh_lt_T (XI_lit (by decide +kernel)) rfl c1) ?_
      refine xc_cons (xh_eq_T rfl (XI_lit (by decide +kernel)) c176) ?_
      refine xc_cons (xh_lt_T (XI_lit (by decide +kernel)) rfl c177) ?_
      refine xc_cons (xh_lt_T (XI_lit (by decide +kernel)) rfl c178) ?_
      refine xc_cons (xh_lt_T (XI_lit (by decide +kernel)) rfl c215) ?_
      refine xc_cons (xh_lt_T (XI_lit (by decide +kernel)) rfl c216) ?_
      refine xc_cons (xh_lt_F rfl (XI_lit (by decide +kernel)) c217) ?_
      refine xc_cons (xh_ge_T rfl (XI_lit (by decide +kernel)) c225) ?_
      refine xc_cons (xh_lt_T (XI_lit (by decide +kernel)) rfl c226) ?_
      refine xc_cons (xh_eq_T rfl (XI_lit (by decide +kernel)) c176) ?_
      refine xc_cons (xh_lt_T (XI_lit (by decide +kernel)) rfl c227) ?_
      refine xc_cons (xh_lt_T (XI_lit (by decide +kernel)) rfl c228) ?_
      refine xc_cons (xh_lt_T (XI_lit (by decide +kernel)) rfl c229) ?_
      refine xc_cons (xh_lt_T (XI_lit (by decide +kernel)) rfl c230) ?_
      refine xc_cons (xh_lt_F rfl (XI_lit (by decide +kernel)) c231) ?_
      refine xc_cons (xh_gt_T rfl (XI_lit (by decide +kernel)) c232) ?_
      refine xc_cons (xh_gt_T (XI_lit (by decide +kernel)) rfl c233) ?_
      exact xc_nil
  have c234 : xhid ((2 : Int) < XI r (.arg 49)) := ((by have z0 : ¬ (XI r (.sub (.arg 49) (.int 6)) < (0 : Int)) := h0; omega) : (2 : Int) < XI r (.arg 49))
  have c235 : xhid ((3 : Int) < XI r (.arg 49)) := ((by have z0 : ¬ (XI r (.sub (.arg 49) (.int 6)) < (0 : Int)) := h0; omega) : (3 : Int) < XI r (.arg 49))
  refine (Classical.em (XI r (.arg 3) = (0 : Int))).elim (fun (c236 : xhid (XI r (.arg 3) = (0 : Int))) => ?_) (fun (c236 : xhid (¬ (XI r (.arg 3) = (0 : Int)))) => ?_)
  ·
    have c237 : xhid ((4 : Int) < XI r (.arg 49)) := ((by have z0 : ¬ (XI r (.sub (.arg 49) (.int 6)) < (0 : Int)) := h0; omega) : (4 : Int) < XI r (.arg 49))
    have c238 : xhid ((5 : Int) < XI r (.arg 49)) := ((by have z0 : ¬ (XI r (.sub (.arg 49) (.int 6)) < (0 : Int)) := h0; omega) : (5 : Int) < XI r (.arg 49))
    refine (Classical.em (XI r (.arg 1) < (0 : Int))).elim (fun (c239 : xhid (XI r (.arg 1) < (0 : Int))) => ?_) (fun (c239 : xhid (¬ (XI r (.arg 1) < (0 : Int)))) => ?_)
    ·
      have c240 : xhid ((1 : Int) < XI r (.arg 49)) := ((by have z0 : (5 : Int) < XI r (.arg 49) := c238; omega) : (1 : Int) < XI r (.arg 49))
      have c241 : xhid ((2 : Int) < XI r (.arg 49)) := ((by have z0 : (5 : Int) < XI r (.arg 49) := c238; omega) : (2 : Int) < XI r (.arg 49))
      have c242 : xhid ((3 : Int) < XI r (.arg 49)) := ((by have z0 : (5 : Int) < XI r (.arg 49) := c238; omega) : (3 : Int) < XI r (.arg 49))
      have c243 : xhid ((4 : Int) < XI r (.arg 49)) := ((by have z0 : (5 : Int) < XI r (.arg 49) := c238; omega) : (4 : Int) < XI r (.arg 49))
      have c244 : xhid ((5 : Int) < XI r (.arg 49)) := ((by have z0 : (5 : Int) < XI r (.arg 49) := c238; omega) : (5 : Int) < XI r (.arg 49))
      have c245 : xhid (XI r (.arg 1) < (0 : Int)) := ((by have z0 : XI r (.arg 1) < (0 : Int) := c239; have z1 : -2147483648 ≤ XI r (.arg 1) := b1; have z2 : XI r (.arg 1) < 2147483648 := d1; omega) : XI r (.arg 1) < (0 : Int))
      have c246 : xhid (XI r (.sub (.arg 49) (.int 6)) < (6 : Int)) := ((by omega) : XI r (.sub (.arg 49) (.int 6)) < (6 : Int))
      refine ⟨149, _, ?_, lf_36_24⟩
      refine xc_cons (xh_gt_F (XI_lit (by decide +kernel)) rfl h0) ?_
      refine xc_cons (xh_lt_T (XI_lit (by decide +kernel)) rfl h1) ?_
      refine xc_cons (xh_eq_T rfl (XI_lit (by decide +kernel)) hk) ?_
      refine xc_cons (xh_lt_T (XI_lit (by decide +kernel)) rfl c1) ?_
      refine xc_cons (xh_lt_T (XI_lit (by decide +kernel)) rfl c234) ?_
      refine xc_cons (xh_lt_T (XI_lit (by decide +kernel)) rfl c235) ?_
      refine xc_cons (xh_eq_T rfl (XI_lit (by decide +kernel)) c236) ?_
      refine xc_cons (xh_lt_T (XI_lit (by decide +kernel)) rfl c237) ?_
      refine xc_cons (xh_lt_T (XI_lit (by decide +kernel)) rfl c238) ?_
      refine xc_cons (xh_lt_T rfl (XI_lit (by decide +kernel)) c239) ?_
      refine xc_cons (xh_lt_T (XI_lit (by decide +kernel)) rfl c240) ?_
      refine xc_cons (xh_lt_T (XI_lit (by decide +kernel)) rfl c241) ?_
      refine xc_cons (xh_lt_T (XI_lit (by decide +kernel)) rfl c242) ?_
      refine xc_cons (xh_eq_T rfl (XI_lit (by decide +kernel)) c236) ?_
      refine xc_cons (xh_lt_T (XI_lit (by decide +kernel)) rfl c243) ?_
      refine xc_cons (xh_lt_T (XI_lit (by decide +kernel)) rfl c244) ?_
      refine xc_cons (xh_lt_T rfl (XI_lit (by decide +kernel)) c245) ?_
      refine xc_cons (xh_gt_T (XI_lit (by decide +kernel)) rfl c246) ?_
      exact xc_nil
    ·
      have c247 : xhid ((4 : Int) ≤ XI r (.arg 1)) := ((by have z0 : ¬ (XI r (.arg 1) < (0 : Int)) := c239; have z1 : ¬ (XI r (.arg 1) = (0 : Int)) := c2; have z2 : ¬ (XI r (.arg 1) = (1 : Int)) := c60; have z3 : ¬ (XI r (.arg 1) = (2 : Int)) := c118; have z4 : ¬ (XI r (.arg 1) = (3 : Int)) := c176; have z5 : -2147483648 ≤ XI r (.arg 1) := b1; have z6 : XI r (.arg 1) < 2147483648 := d1; omega) : (4 : Int) ≤ XI r (.arg 1))
      have c248 : xhid ((1 : Int) < XI r (.arg 49)) := ((by have z0 : (5 : Int) < XI r (.arg 49) := c238; omega) : (1 : Int) < XI r (.arg 49))
      have c249 : xhid ((2 : Int) < XI r (.arg 49)) := ((by have z0 : (5 : Int) < XI r (.arg 49) := c238; omega) : (2 : Int) < XI r (.arg 49))
      have c250 : xhid ((3 : Int) < XI r (.arg 49)) := ((by have z0 : (5 : Int) < XI r (.arg 49) := c238; omega) : (3 : Int) < XI r (.arg 49))
      have c251 : xhid ((4 : Int) < XI r (.arg 49)) := ((by have z0 : (5 : Int) < XI r (.arg 49) := c238; omega) : (4 : Int) < XI r (.arg 49))
      have c252 : xhid ((5 : Int) < XI r (.arg 49)) := ((by have z0 : (5 : Int) < XI r (.arg 49) := c238; omega) : (5 : Int) < XI r (.arg 49))
      have c253 : xhid (¬ (XI r (.arg 1) < (0 : Int))) := ((by have z0 : (4 : Int) ≤ XI r (.arg 1) := c247; have z1 : -2147483648 ≤ XI r (.arg 1) := b1; have z2 : XI r (.arg 1) < 2147483648 := d1; omega) : ¬ (XI r (.arg 1) < (0 : Int)))
      have c254 : xhid ((3 : Int) < XI r (.arg 1)) := ((by have z0 : ¬ (XI r (.arg 1) < (0 : Int)) := c253; have z1 : ¬ (XI r (.arg 1) = (0 : Int)) := c2; have z2 : ¬ (XI r (.arg 1) = (1 : Int)) := c60; have z3 : ¬ (XI r (.arg 1) = (2 : Int)) := c118; have z4 : ¬ (XI r (.arg 1) = (3 : Int)) := c176; have z5 : -2147483648 ≤ XI r (.arg 1) := b1; have z6 : XI r (.arg 1) < 2147483648 := d1; omega) : (3 : Int) < XI r (.arg 1))
      have c255 : xhid (XI r (.sub (.arg 49) (.int 6)) < (6 : Int)) := ((by omega) : XI r (.sub (.arg 49) (.int 6)) < (6 : Int))
      refine ⟨155, _, ?_, lf_36_25⟩
      refine xc_cons (xh_gt_F (XI_lit (by decide +kernel)) rfl h0) ?_
      refine xc_cons (xh_lt_T (XI_lit (by decide +kernel)) rfl h1) ?_
      refine xc_cons (xh_eq_T rfl (XI_lit (by decide +kernel)) hk) ?_
      refine xc_cons (xh_lt_T (XI_lit (by decide +kernel)) rfl c1) ?_
      refine xc_cons (xh_lt_T (XI_lit (by decide +kernel)) rfl c234) ?_
      refine xc_cons (xh_lt_T (XI_lit (by decide +kernel)) rfl c235) ?_
      refine xc_cons (xh_eq_T rfl (XI_lit (by decide +kernel)) c236) ?_
      refine xc_cons (xh_lt_T (XI_lit (by decide +kernel)) rfl c237) ?_
      refine xc_cons (xh_lt_T (XI_lit (by decide +kernel)) rfl c238) ?_
      refine xc_cons (xh_lt_F rfl (XI_lit (by decide +kernel)) c239) ?_
      refine xc_cons (xh_ge_T rfl (XI_lit (by decide +kernel)) c247) ?_
      refine xc_cons (xh_lt_T (XI_lit (by decide +kernel)) rfl c248) ?_
      refine xc_cons (xh_lt_T (XI_lit (by decide +kernel)) rfl c249) ?_
      refine xc_cons (xh_lt_T (XI_lit (by decide +kernel)) rfl c250) ?_
      refine xc_cons (xh_eq_T rfl (XI_lit (by decide +kernel)) c236) ?_
      refine xc_cons (xh_lt_T (XI_lit (by decide +kernel)) rfl c251) ?_
      refine xc_cons (xh_lt_T (XI_lit (by decide +kernel)) rfl c252) ?_
      refine xc_cons (xh_lt_F rfl (XI_lit (by decide +kernel)) c253) ?_
      refine xc_cons (xh_gt_T rfl (XI_lit (by decide +kernel)) c254) ?_
      refine xc_cons (xh_gt_T (XI_lit (by decide +kernel)) rfl c255) ?_
      exact xc_nil
  refine (Classical.em (XI r (.arg 3) = (1 : Int))).elim (fun (c256 : xhid (XI r (.arg 3) = (1 : Int))) => ?_) (fun (c256 : xhid (¬ (XI r (.arg 3) = (1 : Int)))) => ?_)
  ·
    have c257 : xhid ((4 : Int) < XI r (.arg 49)) := ((by have z0 : ¬ (XI r (.sub (.arg 49) (.int 6)) < (0 : Int)) := h0; omega) : (4 : Int) < XI r (.arg 49))
    have c258 : xhid ((5 : Int) < XI r (.arg 49)) := ((by have z0 : ¬ (XI r (.sub (.arg 49) (.int 6)) < (0 : Int)) := h0; omega) : (5 : Int) < XI r (.arg 49))
    refine (Classical.em (XI r (.arg 1) < (0 : Int))).elim (fun (c259 : xhid (XI r (.arg 1) < (0 : Int))) => ?_) (fun (c259 : xhid (¬ (XI r (.arg 1) < (0 : Int)))) => ?_)
    ·
      have c260 : xhid ((1 : Int) < XI r (.arg 49)) := ((by have z0 : (5 : Int) < XI r (.arg 49) := c258; omega) : (1 : Int) < XI r (.arg 49))
      have c261 : xhid ((2 : Int) < XI r (.arg 49)) := ((by have z0 : (5 : Int) < XI r (.arg 49) := c258; omega) : (2 : Int) < XI r (.arg 49))
      have c262 : xhid ((3 : Int) < XI r (.arg 49)) := ((by have z0 : (5 : Int) < XI r (.arg 49) := c258; omega) : (3 : Int) < XI r (.arg 49))
      have c263 : xhid ((4 : Int) < XI r (.arg 49)) := ((by have z0 : (5 : Int) < XI r (.arg 49) := c258; omega) : (4 : Int) < XI r (.arg 49))
      have c264 : xhid ((5 : Int) < XI r (.arg 49)) := ((by have z0 : (5 : Int) < XI r (.arg 49) := c258; omega) : (5 : Int) < XI r (.arg 49))
      have c265 : xhid (XI r (.arg 1) < (0 : Int)) := ((by have z0 : XI r (.arg 1) < (0 : Int) := c259; have z1 : -2147483648 ≤ XI r (.arg 1) := b1; have z2 : XI r (.arg 1) < 2147483648 := d1; omega) : XI r (.arg 1) < (0 : Int))
      have c266 : xhid (XI r (.sub (.arg 49) (.int 6)) < (6 : Int)) := ((by omega) : XI r (.sub (.arg 49) (.int 6)) < (6 : Int))
      refine ⟨149, _, ?_, lf_36_26⟩
      refine xc_cons (xh_gt_F (XI_lit (by decide +kernel)) rfl h0) ?_
      refine xc_cons (xh_lt_T (XI_lit (by decide +kernel)) rfl h1) ?_
      refine xc_cons (xh_eq_T rfl (XI_lit (by decide +kernel)) hk) ?_
      refine xc_cons (xh_lt_T (XI_lit (by decide +kernel)) rfl c1) ?_
      refine xc_cons (xh_lt_T (XI_lit (by decide +kernel)) rfl c234) ?_
      refine xc_cons (xh_lt_T (XI_lit (by decide +kernel)) rfl c235) ?_
      refine xc_cons (xh_eq_T rfl (XI_lit (by decide +kernel)) c256) ?_
      refine xc_cons (xh_lt_T (XI_lit (by decide +kernel)) rfl c257) ?_
      refine xc_cons (xh_lt_T (XI_lit (by decide +kernel)) rfl c258) ?_
      refine xc_cons (xh_lt_T rfl (XI_lit (by decide +kernel)) c259) ?_
      refine xc_cons (xh_lt_T (XI_lit (by decide +kernel)) rfl c260) ?_
      refine xc_cons (xh_lt_T (XI_lit (by decide +kernel)) rfl c261) ?_
      refine xc_cons (xh_lt_T (XI_lit (by decide +kernel)) rfl c262) ?_
      refine xc_cons (xh_eq_T rfl (XI_lit (by decide +kernel)) c256) ?_
      refine xc_cons (xh_lt_T (XI_lit (by decide +kernel)) rfl c263) ?_
      refine xc_cons (xh_lt_T (XI_lit (by decide +kernel)) rfl c264) ?_
      refine xc_cons (xh_lt_T rfl (XI_lit (by decide +kernel)) c265) ?_
      refine xc_cons (xh_gt_T (XI_lit (by decide +kernel)) rfl c266) ?_
      exact xc_nil
    ·
      have c267 : xhid ((4 : Int) ≤ XI r (.arg 1)) := ((by have z0 : ¬ (XI r (.arg 1) < (0 : Int)) := c259; have z1 : ¬ (XI r (.arg 1) = (0 : Int)) := c2; have z2 : ¬ (XI r (.arg 1) = (1 : Int)) := c60; have z3 : ¬ (XI r (.arg 1) = (2 : Int)) := c118; have z4 : ¬ (XI r (.arg 1) = (3 : Int)) := c176; have z5 : -2147483648 ≤ XI r (.arg 1) := b1; have z6 : XI r (.arg 1) < 2147483648 := d1; omega) : (4 : Int) ≤ XI r (.arg 1))
      have c268 : xhid ((1 : Int) < XI r (.arg 49)) := ((by have z0 : (5 : Int) < XI r (.arg 49) := c258; omega) : (1 : Int) < XI r (.arg 49))
      have c269 : xhid ((2 : Int) < XI r (.arg 49)) := ((by have z0 : (5 : Int) < XI r (.arg 49) := c258; omega) : (2 : Int) < XI r (.arg 49))
      have c270 : xhid ((3 : Int) < XI r (.arg 49)) := ((by have z0 : (5 : Int) < XI r (.arg 49) := c258; omega) : (3 : Int) < XI r (.arg 49))
      have c271 : xhid ((4 : Int) < XI r (.arg 49)) := ((by have z0 : (5 : Int) < XI r (.arg 49) := c258; omega) : (4 : Int) < XI r (.arg 49))
      have c272 : xhid ((5 : Int) < XI r (.arg 49)) := ((by have z0 : (5 : Int) < XI r (.arg 49) := c258; omega) : (5 : Int) < XI r (.arg 49))
      have c273 : xhid (¬ (XI r (.arg 1) < (0 : Int))) := ((by have z0 : (4 : Int) ≤ XI r (.arg 1) := c267; have z1 : -2147483648 ≤ XI r (.arg 1) := b1; have z2 : XI r (.arg 1) < 2147483648 := d1; omega) : ¬ (XI r (.arg 1) < (0 : Int)))
      have c274 : xhid ((3 : Int) < XI r (.arg 1)) := ((by have z0 : ¬ (XI r (.arg 1) < (0 : Int)) := c273; have z1 : ¬ (XI r (.arg 1) = (0 : Int)) := c2; have z2 : ¬ (XI r (.arg 1) = (1 : Int)) := c60; have z3 : ¬ (XI r (.arg 1) = (2 : Int)) := c118; have z4 : ¬ (XI r (.arg 1) = (3 : Int)) := c176; have z5 : -2147483648 ≤ XI r (.arg 1) := b1; have z6 : XI r (.arg 1) < 2147483648 := d1; omega) : (3 : Int) < XI r (.arg 1))
      have c275 : xhid (XI r (.sub (.arg 49) (.int 6)) < (6 : Int)) := ((by omega) : XI r (.sub (.arg 49) (.int 6)) < (6 : Int))
      refine ⟨155, _, ?_, lf_36_27⟩
      refine xc_cons (xh_gt_F (XI_lit (by decide +kernel)) rfl h0) ?_
      refine xc_cons (xh_lt_T (XI_lit (by decide +kernel)) rfl h1) ?_
      refine xc_cons (xh_eq_T rfl (XI_lit (by decide +kernel)) hk) ?_
      refine xc_cons (xh_lt_T (XI_lit (by decide +kernel)) rfl c1) ?_
      refine xc_cons (xh_lt_T (XI_lit (by decide +kernel)) rfl c234) ?_
      refine xc_cons (xh_lt_T (XI_lit (by decide +kernel)) rfl c235) ?_
      refine xc_cons (xh_eq_T rfl (XI_lit (by decide +kernel)) c256) ?_
      refine xc_cons (xh_lt_T (XI_lit (by decide +kernel)) rfl c257) ?_
      refine xc_cons (xh_lt_T (XI_lit (by decide +kernel)) rfl c258) ?_
      refine xc_cons (xh_lt_F rfl (XI_lit (by decide +kernel)) c259) ?_
      refine xc_cons (xh_ge_T rfl (XI_lit (by decide +kernel)) c267) ?_
      refine xc_cons (xh_lt_T (XI_lit (by decide +kernel)) rfl c268) ?_
      refine xc_cons (xh_lt_T (XI_lit (by decide +kernel)) rfl c269) ?_
      refine xc_cons (xh_lt_T (XI_lit (by decide +kernel)) rfl c270) ?_
      refine xc_cons (xh_eq_T rfl (XI_lit (by decide +kernel)) c256) ?_
      refine xc_cons (xh_lt_T (XI_lit (by decide +kernel)) rfl c271) ?_
      refine xc_cons (xh_lt_T (XI_lit (by decide +kernel)) rfl c272) ?_
      refine xc_cons (xh_lt_F rfl (XI_lit (by decide +kernel)) c273) ?_
      refine xc_cons (xh_gt_T rfl (XI_lit (by decide +kernel)) c274) ?_
      refine xc_cons (xh_gt_T (XI_lit (by decide +kernel)) rfl c275) ?_
      exact xc_nil
  refine (Classical.em (XI r (.arg 3) = (2 : Int))).elim (fun (c276 : xhid (XI r (.arg 3) = (2 : Int))) => ?_) (fun (c276 : xhid (¬ (XI r (.arg 3) = (2 : Int)))) => ?_)
  ·
    have c277 : xhid ((4 : Int) < XI r (.arg 49)) := ((by have z0 : ¬ (XI r (.sub (.arg 49) (.int 6)) < (0 : Int)) := h0; omega) : (4 : Int) < XI r (.arg 49))
    have c278 : xhid ((5 : Int) < XI r (.arg 49)) := ((by have z0 : ¬ (XI r (.sub (.arg 49) (.int 6)) < (0 : Int)) := h0; omega) : (5 : Int) < XI r (.arg 49))
    refine (Classical.em (XI r (.arg 1) < (0 : Int))).elim (fun (c279 : xhid (XI r (.arg 1) < (0 : Int))) => ?_) (fun (c279 : xhid (¬ (XI r (.arg 1) < (0 : Int)))) => ?_)
    ·
      have c280 : xhid ((1 : Int) < XI r (.arg 49)) := ((by have z0 : (5 : Int) < XI r (.arg 49) := c278; omega) : (1 : Int) < XI r (.arg 49))
      have c281 : xhid ((2 : Int) < XI r (.arg 49)) := ((by have z0 : (5 : Int) < XI r (.arg 49) := c278; omega) : (2 : Int) < XI r (.arg 49))
      have c282 : xhid ((3 : Int) < XI r (.arg 49)) := ((by have z0 : (5 : Int) < XI r (.arg 49) := c278; omega) : (3 : Int) < XI r (.arg 49))
      have c283 : xhid ((4 : Int) < XI r (.arg 49)) := ((by have z0 : (5 : Int) < XI r (.arg 49) := c278; omega) : (4 : Int) < XI r (.arg 49))
      have c284 : xhid ((5 : Int) < XI r (.arg 49)) := ((by have z0 : (5 : Int) < XI r (.arg 49) := c278; omega) : (5 : Int) < XI r (.arg 49))
      have c285 : xhid (XI r (.arg 1) < (0 : Int)) := ((by have z0 : XI r (.arg 1) < (0 : Int) := c279; have z1 : -2147483648 ≤ XI r (.arg 1) := b1; have z2 : XI r (.arg 1) < 2147483648 := d1; omega) : XI r (.arg 1) < (0 : Int))
      have c286 : xhid (XI r (.sub (.arg 49) (.int 6)) < (6 : Int)) := ((by omega) : XI r (.sub (.arg 49) (.int 6)) < (6 : Int))
      refine ⟨149, _, ?_, lf_36_28⟩
      refine xc_cons (xh_gt_F (XI_lit (by decide +kernel)) rfl h0) ?_
      refine xc_cons (xh_lt_T (XI_lit (by decide +kernel)) rfl h1) ?_
      refine xc_cons (xh_eq_T rfl (XI_lit (by decide +kernel)) hk) ?_
      refine xc_cons (xh_lt_T (XI_lit (by decide +kernel)) rfl c1) ?_
      refine xc_cons (xh_lt_T (XI_lit (by decide +kernel)) rfl c234) ?_
      refine xc_cons (xh_lt_T (XI_lit (by decide +kernel)) rfl c235) ?_
      refine xc_cons (xh_eq_T rfl (XI_lit (by decide +kernel)) c276) ?_
      refine xc_cons (xh_lt_T (XI_lit (by decide +kernel)) rfl c277) ?_
      refine xc_cons (xh_lt_T (XI_lit (by decide +kernel)) rfl c278) ?_
      refine xc_cons (xh_lt_T rfl (XI_lit (by decide +kernel)) c279) ?_
      refine xc_cons (xh_lt_T (XI_lit (by decide +kernel)) rfl c280) ?_
      refine xc_cons (xh_lt_T (XI_lit (by decide +kernel)) rfl c281) ?_
      refine xc_cons (xh_lt_T (XI_lit (by decide +kernel)) rfl c282) ?_
      refine xc_cons (xh_eq_T rfl (XI_lit (by decide +kernel)) c276) ?_
      refine xc_cons (xh_lt_T (XI_lit (by decide +kernel)) rfl c283) ?_
      refine xc_cons (xh_lt_T (XI_lit (by decide +kernel)) rfl c284) ?_
      refine xc_cons (xh_lt_T rfl (XI_lit (by decide +kernel)) c285) ?_
      refine xc_cons (xh_gt_T (XI_lit (by decide +kernel)) rfl c286) ?_
      exact xc_nil
    ·
      have c287 : xhid ((4 : Int) ≤ XI r (.arg 1)) := ((by have z0 : ¬ (XI r (.arg 1) < (0 : Int)) := c279; have z1 : ¬ (XI r (.arg 1) = (0 : Int)) := c2; have z2 : ¬ (XI r (.arg 1) = (1 : Int)) := c60; have z3 : ¬ (XI r (.arg 1) = (2 : Int)) := c118; have z4 : ¬ (XI r (.arg 1) = (3 : Int)) := c176; have z5 : -2147483648 ≤ XI r (.arg 1) := b1; have z6 : XI r (.arg 1) < 2147483648 := d1; omega) : (4 : Int) ≤ XI r (.arg 1))
      have c288 : xhid ((1 : Int) < XI r (.arg 49)) := ((by have z0 : (5 : Int) < XI r (.arg 49) := c278; omega) : (1 : Int) < XI r (.arg 49))
      have c289 : xhid ((2 : Int) < XI r (.arg 49)) := ((by have z0 : (5 : Int) < XI r (.arg 49) := c278; omega) : (2 : Int) < XI r (.arg 49))
      have c290 : xhid ((3 : Int) < XI r (.arg 49)) := ((by have z0 : (5 : Int) < XI r (.arg 49) := c278; omega) : (3 : Int) < XI r (.arg 49))
      have c291 : xhid ((4 : Int) < XI r (.arg 49)) := ((by have z0 : (5 : Int) < XI r (.arg 49) := c278; omega) : (4 : Int) < XI r (.arg 49))
      have c292 : xhid ((5 : Int) < XI r (.arg 49)) := ((by have z0 : (5 : Int) < XI r (.arg 49) := c278; omega) : (5 : Int) < XI r (.arg 49))
      have c293 : xhid (¬ (XI r (.arg 1) < (0 : Int))) := ((by have z0 : (4 : Int) ≤ XI r (.arg 1) := c287; have z1 : -2147483648 ≤ XI r (.arg 1) := b1; have z2 : XI r (.arg 1) < 2147483648 := d1; omega) : ¬ (XI r (.arg 1) < (0 : Int)))
      have c294 : xhid ((3 : Int) < XI r (.arg 1)) := ((by have z0 : ¬ (XI r (.arg 1) < (0 : Int)) := c293; have z1 : ¬ (XI r (.arg 1) = (0 : Int)) := c2; have z2 : ¬ (XI r (.arg 1) = (1 : Int)) := c60; have z3 : ¬ (XI r (.arg 1) = (2 : Int)) := c118; have z4 : ¬ (XI r (.arg 1) = (3 : Int)) := c176; have z5 : -2147483648 ≤ XI r (.arg 1) := b1; have z6 : XI r (.arg 1) < 2147483648 := d1; omega) : (3 : Int) < XI r (.arg 1))
      have c295 : xhid (XI r (.sub (.arg 49) (.int 6)) < (6 : Int)) := ((by omega) : XI r (.sub (.arg 49) (.int 6)) < (6 : Int))
      refine ⟨155, _, ?_, lf_36_29⟩
      refine xc_cons (xh_gt_F (XI_lit (by decide +kernel)) rfl h0) ?_
      refine xc_cons (xh_lt_T (XI_lit (by decide +kernel)) rfl h1) ?_
      refine xc_cons (xh_eq_T rfl (XI_lit (by decide +kernel)) hk) ?_
      refine xc_cons (xh_lt_T (XI_lit (by decide +kernel)) rfl c1) ?_
      refine xc_cons (xh_lt_T (XI_lit (by decide +kernel)) rfl c234) ?_
      refine xc_cons (xh_lt_T (XI_lit (by decide +kernel)) rfl c235) ?_
      refine xc_cons (xh_eq_T rfl (XI_lit (by decide +kernel)) c276) ?_
      refine xc_cons (xh_lt_T (XI_lit (by decide +kernel)) rfl c277) ?_
      refine xc_cons (xh_lt_T (XI_lit (by decide +kernel)) rfl c278) ?_
      refine xc_cons (xh_lt_F rfl (XI_lit (by decide +kernel)) c279) ?_
      refine xc_cons (xh_ge_T rfl (XI_lit (by decide +kernel)) c287) ?_
      refine xc_cons (xh_lt_T (XI_lit (by decide +kernel)) rfl c288) ?_
      refine xc_cons (xh_lt_T (XI_lit (by decide +kernel)) rfl c289) ?_
      refine xc_cons (xh_lt_T (XI_lit (by decide +kernel)) rfl c290) ?_
      refine xc_cons (xh_eq_T rfl (XI_lit (by decide +kernel)) c276) ?_
      refine xc_cons (xh_lt_T (XI_lit (by decide +kernel)) rfl c291) ?_
      refine xc_cons (xh_lt_T (XI_lit (by decide +kernel)) rfl c292) ?_
      refine xc_cons (xh_lt_F rfl (XI_lit (by decide +kernel)) c293) ?_
      refine xc_cons (xh_gt_T rfl (XI_lit (by decide +kernel)) c294) ?_
      refine xc_cons (xh_gt_T (XI_lit (by decide +kernel)) rfl c295) ?_
      exact xc_nil
  refine (Classical.em (XI r (.arg 3) = (3 : Int))).elim (fun (c296 : xhid (XI r (.arg 3) = (3 : Int))) => ?_) (fun (c296 : xhid (¬ (XI r (.arg 3) = (3 : Int)))) => ?_)
  ·
    have c297 : xhid ((4 : Int) < XI r (.arg 49)) := ((by have z0 : ¬ (XI r (.sub (.arg 49) (.int 6)) < (0 : Int)) := h0; omega) : (4 : Int) < XI r (.arg 49))
    have c298 : xhid ((5 : Int) < XI r (.arg 49)) := ((by have z0 : ¬ (XI r (.sub (.arg 49) (.int 6)) < (0 : Int)) := h0; omega) : (5 : Int) < XI r (.arg 49))
    refine (Classical.em (XI r (.arg 1) < (0 : Int))).elim (fun (c299 : xhid (XI r (.arg 1) < (0 : Int))) => ?_) (fun (c299 : xhid (¬ (XI r (.arg 1) < (0 : Int)))) => ?_)
    ·
      have c300 : xhid ((1 : Int) < XI r (.arg 49)) := ((by have z0 : (5 : Int) < XI r (.arg 49) := c298; omega) : (1 : Int) < XI r (.arg 49))
      have c301 : xhid ((2 : Int) < XI r (.arg 49)) := ((by have z0 : (5 : Int) < XI r (.arg 49) := c298; omega) : (2 : Int) < XI r (.arg 49))
      have c302 : xhid ((3 : Int) < XI r (.arg 49)) := ((by have z0 : (5 : Int) < XI r (.arg 49) := c298; omega) : (3 : Int) < XI r (.arg 49))
      have c303 : xhid ((4 : Int) < XI r (.arg 49)) := ((by have z0 : (5 : Int) < XI r (.arg 49) := c298; omega) : (4 : Int) < XI r (.arg 49))
      have c304 : xhid ((5 : Int) < XI r (.arg 49)) := ((by have z0 : (5 : Int) < XI r (.arg 49) := c298; omega) : (5 : Int) < XI r (.arg 49))
      have c305 : xhid (XI r (.arg 1) < (0 : Int)) := ((by have z0 : XI r (.arg 1) < (0 : Int) := c299; have z1 : -2147483648 ≤ XI r (.arg 1) := b1; have z2 : XI r (.arg 1) < 2147483648 := d1; omega) : XI r (.arg 1) < (0 : Int))
      have c306 : xhid (XI r (.sub (.arg 49) (.int 6)) < (6 : Int)) := ((by omega) : XI r (.sub (.arg 49) (.int 6)) < (6 : Int))
      refine ⟨149, _, ?_, lf_36_30⟩
      refine xc_cons (xh_gt_F (XI_lit (by decide +kernel)) rfl h0) ?_
      refine xc_cons (xh_lt_T (XI_lit (by decide +kernel)) rfl h1) ?_
      refine xc_cons (xh_eq_T rfl (XI_lit (by decide +kernel)) hk) ?_
      refine xc_cons (xh_lt_T (XI_lit (by decide +kernel)) rfl c1) ?_
      refine xc_cons (xh_lt_T (XI_lit (by decide +kernel)) rfl c234) ?_
      refine xc_cons (xh_lt_T (XI_lit (by decide +kernel)) rfl c235) ?_
      refine xc_cons (xh_eq_T rfl (XI_lit (by decide +kernel)) c296) ?_
      refine xc_cons (xh_lt_T (XI_lit (by decide +kernel)) rfl c297) ?_
      refine xc_cons (xh_lt_T (XI_lit (by decide +kernel)) rfl c298) ?_
      refine xc_cons (xh_lt_T rfl (XI_lit (by decide +kernel)) c299) ?_
      refine xc_cons (xh_lt_T (XI_lit (by decide +kernel)) rfl c300) ?_
      refine xc_cons (xh_lt_T (XI_lit (by decide +kernel)) rfl c301) ?_
      refine xc_cons (xh_lt_T (XI_lit (by decide +kernel)) rfl c302) ?_
      refine xc_cons (xh_eq_T rfl (XI_lit (by decide +kernel)) c296) ?_
      refine xc_cons (xh_lt_T (XI_lit (by decide +kernel)) rfl c303) ?_
      refine xc_cons (xh_lt_T (XI_lit (by decide +kernel)) rfl c304) ?_
      refine xc_cons (xh_lt_T rfl (XI_lit (by decide +kernel)) c305) ?_
      refine xc_cons (xh_gt_T (XI_lit (by decide +kernel)) rfl c306) ?_
      exact xc_nil
    ·
      have c307 : xhid ((4 : Int) ≤ XI r (.arg 1)) := ((by have z0 : ¬ (XI r (.arg 1) < (0 : Int)) := c299; have z1 : ¬ (XI r (.arg 1) = (0 : Int)) := c2; have z2 : ¬ (XI r (.arg 1) = (1 : Int)) := c60; have z3 : ¬ (XI r (.arg 1) = (2 : Int)) := c118; have z4 : ¬ (XI r (.arg 1) = (3 : Int)) := c176; have z5 : -2147483648 ≤ XI r (.arg 1) := b1; have z6 : XI r (.arg 1) < 2147483648 := d1; omega) : (4 : Int) ≤ XI r (.arg 1))
      have c308 : xhid ((1 : Int) < XI r (.arg 49)) := ((by have z0 : (5 : Int) < XI r (.arg 49) := c298; omega) : (1 : Int) < XI r (.arg 49))
      have c309 : xhid ((2 : Int) < XI r (.arg 49)) := ((by have z0 : (5 : Int) < XI r (.arg 49) := c298; omega) : (2 : Int) < XI r (.arg 49))
      have c310 : xhid ((3 : Int) < XI r (.arg 49)) := ((by have z0 : (5 : Int) < XI r (.arg 49) := c298; omega) : (3 : Int) < XI r (.arg 49))
      have c311 : xhid ((4 : Int) < XI r (.arg 49)) := ((by have z0 : (5 : Int) < XI r (.arg 49) := c298; omega) : (4 : Int) < XI r (.arg 49))
      have c312 : xhid ((5 : Int) < XI r (.arg 49)) := ((by have z0 : (5 : Int) < XI r (.arg 49) := c298; omega) : (5 : Int) < XI r (.arg 49))
      have c313 : xhid (¬ (XI r (.arg 1) < (0 : Int))) := ((by have z0 : (4 : Int) ≤ XI r (.arg 1) := c307; have z1 : -2147483648 ≤ XI r (.arg 1) := b1; have z2 : XI r (.arg 1) < 2147483648 := d1; omega) : ¬ (XI r (.arg 1) < (0 : Int)))
      have c314 : xhid ((3 : Int) < XI r (.arg 1)) := ((by have z0 : ¬ (XI r (.arg 1) < (0 : Int)) := c313; have z1 : ¬ (XI r (.arg 1) = (0 : Int)) := c2; have z2 : ¬ (XI r (.arg 1) = (1 : Int)) := c60; have z3 : ¬ (XI r (.arg 1) = (2 : Int)) := c118; have z4 : ¬ (XI r (.arg 1) = (3 : Int)) := c176; have z5 : -2147483648 ≤ XI r (.arg 1) := b1; have z6 : XI r (.arg 1) < 2147483648 := d1; omega) : (3 : Int) < XI r (.arg 1))
      have c315 : xhid (XI r (.sub (.arg 49) (.int 6)) < (6 : Int)) := ((by omega) : XI r (.sub (.arg 49) (.int 6)) < (6 : Int))
      refine ⟨155, _, ?_, lf_36_31⟩
      refine xc_cons (xh_gt_F (XI_lit (by decide +kernel)) rfl h0) ?_
      refine xc_cons (xh_lt_T (XI_lit (by decide +kernel)) rfl h1) ?_
      refine xc_cons (xh_eq_T rfl (XI_lit (by decide +kernel)) hk) ?_
      refine xc_cons (xh_lt_T (XI_lit (by decide +kernel)) rfl c1) ?_
      refine xc_cons (xh_lt_T (XI_lit (by decide +kernel)) rfl c234) ?_
      refine xc_cons (xh_lt_T (XI_lit (by decide +kernel)) rfl c235) ?_
      refine xc_cons (xh_eq_T rfl (XI_lit (by decide +kernel)) c296) ?_
      refine xc_cons (xh_lt_T (XI_lit (by decide +kernel)) rfl c297) ?_
      refine xc_cons (xh_lt_T (XI_lit (by decide +kernel)) rfl c298) ?_
      refine xc_cons (xh_lt_F rfl (XI_lit (by decide +kernel)) c299) ?_
      refine xc_cons (xh_ge_T rfl (XI_lit (by decide +kernel)) c307) ?_
      refine xc_cons (xh_lt_T (XI_lit (by decide +kernel)) rfl c308) ?_
      refine xc_cons (xh_lt_T (XI_lit (by decide +kernel)) rfl c309) ?_
      refine xc_cons (xh_lt_T (XI_lit (by decide +kernel)) rfl c310) ?_
      refine xc_cons (xh_eq_T rfl (XI_lit (by decide +kernel)) c296) ?_
      refine xc_cons (xh_lt_T (XI_lit (by decide +kernel)) rfl c311) ?_
      refine xc_cons (xh_lt_T (XI_lit (by decide +kernel)) rfl c312) ?_
      refine xc_cons (xh_lt_F rfl (XI_lit (by decide +kernel)) c313) ?_
      refine xc_cons (xh_gt_T rfl (XI_lit (by decide +kernel)) c314) ?_
      refine xc_cons (xh_gt_T (XI_lit (by decide +kernel)) rfl c315) ?_
      exact xc_nil
  have c316 : xhid ((4 : Int) < XI r (.arg 49)) := ((by have z0 : ¬ (XI r (.sub (.arg 49) (.int 6)) < (0 : Int)) := h0; omega) : (4 : Int) < XI r (.arg 49))
  have c317 : xhid ((5 : Int) < XI r (.arg 49)) := ((by have z0 : ¬ (XI r (.sub (.arg 49) (.int 6)) < (0 : Int)) := h0; omega) : (5 : Int) < XI r (.arg 49))
  refine (Classical.em (XI r (.arg 1) < (0 : Int))).elim (fun (c318 : xhid (XI r (.arg 1) < (0 : Int))) => ?_) (fun (c318 : xhid (¬ (XI r (.arg 1) < (0 : Int)))) => ?_)
  ·
    have c319 : xhid ((1 : Int) < XI r (.arg 49)) := ((by have z0 : (5 : Int) < XI r (.arg 49) := c317; omega) : (1 : Int) < XI r (.arg 49))
    have c320 : xhid ((2 : Int) < XI r (.arg 49)) := ((by have z0 : (5 : Int) < XI r (.arg 49) := c317; omega) : (2 : Int) < XI r (.arg 49))
    have c321 : xhid ((3 : Int) < XI r (.arg 49)) := ((by have z0 : (5 : Int) < XI r (.arg 49) := c317; omega) : (3 : Int) < XI r (.arg 49))
    have c322 : xhid ((4 : Int) < XI r (.arg 49)) := ((by have z0 : (5 : Int) < XI r (.arg 49) := c317; omega) : (4 : Int) < XI r (.arg 49))
    have c323 : xhid ((5 : Int) < XI r (.arg 49)) := ((by have z0 : (5 : Int) < XI r (.arg 49) := c317; omega) : (5 : Int) < XI r (.arg 49))
    have c324 : xhid (XI r (.arg 1) < (0 : Int)) := ((by have z0 : XI r (.arg 1) < (0 : Int) := c318; have z1 : -2147483648 ≤ XI r (.arg 1) := b1; have z2 : XI r (.arg 1) < 2147483648 := d1; omega) : XI r (.arg 1) < (0 : Int))
    have c325 : xhid (XI r (.sub (.arg 49) (.int 6)) < (6 : Int)) := ((by omega) : XI r (.sub (.arg 49) (.int 6)) < (6 : Int))
    refine ⟨149, _, ?_, lf_36_32⟩
    refine xc_cons (xh_gt_F (XI_lit (by decide +kernel)) rfl h0) ?_
    refine xc_cons (xh_lt_T (XI_lit (by decide +kernel)) rfl h1) ?_
    refine xc_cons (xh_eq_T rfl (XI_lit (by decide +kernel)) hk) ?_
    refine xc_cons (xh_lt_T (XI_lit (by decide +kernel)) rfl c1) ?_
    refine xc_cons (xh_lt_T (XI_lit (by decide +kernel)) rfl c234) ?_
    refine xc_cons (xh_lt_T (XI_lit (by decide +kernel)) rfl c235) ?_
    refine xc_cons (xh_lt_T (XI_lit (by decide +kernel)) rfl c316) ?_
    refine xc_cons (xh_lt_T (XI_lit (by decide +kernel)) rfl c317) ?_
    refine xc_cons (xh_lt_T rfl (XI_lit (by decide +kernel)) c318) ?_
    refine xc_cons (xh_lt_T (XI_lit (by decide +kernel)) rfl c319) ?_
    refine xc_cons (xh_lt_T (XI_lit (by decide +kernel)) rfl c320) ?_
    refine xc_cons (xh_lt_T (XI_lit (by decide +kernel)) rfl c321) ?_
    refine xc_cons (xh_lt_T (XI_lit (by decide +kernel)) rfl c322) ?_
    refine xc_cons (xh_lt_T (XI_lit (by decide +kernel)) rfl c323) ?_
    refine xc_cons (xh_lt_T rfl (XI_lit (by decide +kernel)) c324) ?_
    refine xc_cons (xh_gt_T (XI_lit (by decide +kernel)) rfl c325) ?_
    exact xc_nil
  ·
    have c326 : xhid ((4 : Int) ≤ XI r (.arg 1)) := ((by have z0 : ¬ (XI r (.arg 1) < (0 : Int)) := c318; have z1 : ¬ (XI r (.arg 1) = (0 : Int)) := c2; have z2 : ¬ (XI r (.arg 1) = (1 : Int)) := c60; have z3 : ¬ (XI r (.arg 1) = (2 : Int)) := c118; have z4 : ¬ (XI r (.arg 1) = (3 : Int)) := c176; have z5 : -2147483648 ≤ XI r (.arg 1) := b1; have z6 : XI r (.arg 1) < 2147483648 := d1; omega) : (4 : Int) ≤ XI r (.arg 1))
    have c327 : xhid ((1 : Int) < XI r (.arg 49)) := ((by have z0 : (5 : Int) < XI r (.arg 49) := c317; omega) : (1 : Int) < XI r (.arg 49))
    have c328 : xhid ((2 : Int) < XI r (.arg 49)) := ((by have z0 : (5 : Int) < XI r (.arg 49) := c317; omega) : (2 : Int) < XI r (.arg 49))
    have c329 : xhid ((3 : Int) < XI r (.arg 49)) := ((by have z0 : (5 : Int) < XI r (.arg 49) := c317; omega) : (3 : Int) < XI r (.arg 49))
    have c330 : xhid ((4 : Int) < XI r (.arg 49)) := ((by have z0 : (5 : Int) < XI r (.arg 49) := c317; omega) : (4 : Int) < XI r (.arg 49))
    have c331 : xhid ((5 : Int) < XI r (.arg 49)) := ((by have z0 : (5 : Int) < XI r (.arg 49) := c317; omega) : (5 : Int) < XI r (.arg 49))
    have c332 : xhid (¬ (XI r (.arg 1) < (0 : Int))) := ((by have z0 : (4 : Int) ≤ XI r (.arg 1) := c326; have z1 : -2147483648 ≤ XI r (.arg 1) := b1; have z2 : XI r (.arg 1) < 2147483648 := d1; omega) : ¬ (XI r (.arg 1) < (0 : Int)))
    have c333 : xhid ((3 : Int) < XI r (.arg 1)) := ((by have z0 : ¬ (XI r (.arg 1) < (0 : Int)) := c332; have z1 : ¬ (XI r (.arg 1) = (0 : Int)) := c2; have z2 : ¬ (XI r (.arg 1) = (1 : Int)) := c60; have z3 : ¬ (XI r (.arg 1) = (2 : Int)) := c118; have z4 : ¬ (XI r (.arg 1) = (3 : Int)) := c176; have z5 : -2147483648 ≤ XI r (.arg 1) := b1; have z6 : XI r (.arg 1) < 2147483648 := d1; omega) : (3 : Int) < XI r (.arg 1))
    have c334 : xhid (XI r (.sub (.arg 49) (.int 6)) < (6 : Int)) := ((by omega) : XI r (.sub (.arg 49) (.int 6)) < (6 : Int))
    refine ⟨155, _, ?_, lf_36_33⟩
    refine xc_cons (xh_gt_F (XI_lit (by decide +kernel)) rfl h0) ?_
    refine xc_cons (xh_lt_T (XI_lit (by decide +kernel)) rfl h1) ?_
    refine xc_cons (xh_eq_T rfl (XI_lit (by decide +kernel)) hk) ?_
    refine xc_cons (xh_lt_T (XI_lit (by decide +kernel)) rfl c1) ?_
    refine xc_cons (xh_lt_T (XI_lit (by decide +kernel)) rfl c234) ?_
    refine xc_cons (xh_lt_T (XI_lit (by decide +kernel)) rfl c235) ?_
    refine xc_cons (xh_lt_T (XI_lit (by decide +kernel)) rfl c316) ?_
    refine xc_cons (xh_lt_T (XI_lit (by decide +kernel)) rfl c317) ?_
    refine xc_cons (xh_lt_F rfl (XI_lit (by decide +kernel)) c318) ?_
    refine xc_cons (xh_ge_T rfl (XI_lit (by decide +kernel)) c326) ?_
    refine xc_cons (xh_lt_T (XI_lit (by decide +kernel)) rfl c327) ?_
    refine xc_cons (xh_lt_T (XI_lit (by decide +kernel)) rfl c328) ?_
    refine xc_cons (xh_lt_T (XI_lit (by decide +kernel)) rfl c329) ?_
    refine xc_cons (xh_lt_T (XI_lit (by decide +kernel)) rfl c330) ?_
    refine xc_cons (xh_lt_T (XI_lit (by decide +kernel)) rfl c331) ?_
    refine xc_cons (xh_lt_F rfl (XI_lit (by decide +kernel)) c332) ?_
    refine xc_cons (xh_gt_T rfl (XI_lit (by decide +kernel)) c333) ?_
    refine xc_cons (xh_gt_T (XI_lit (by decide +kernel)) rfl c334) ?_
    exact xc_nil
theorem lf_37_0 : xfin (xev 154 20 xlaw 18 xlo0 [] xh0 [(.gt, .int 0, .sub (.arg 49) (.int 6), false), (.lt, .int 0, .arg 49, true), (.eq, .op2 .iand (.arg 0) (.int 63), .int 37, true), (.lt, .int 1, .arg 49, true), (.eq, .arg 1, .int 0, true), (.lt, .int 2, .arg 49, true), (.lt, .arg 2, .int 0, true), (.lt, .int 1, .arg 49, true), (.eq, .arg 1, .int 0, true), (.lt, .int 2, .arg 49, true), (.lt, .arg 2, .int 0, true), (.gt, .int 6, .sub (.arg 49) (.int 6), true)]) = true := by decide +kernel
theorem lf_37_1 : xfin (xev 162 20 xlaw 18 xlo0 [] xh0 [(.gt, .int 0, .sub (.arg 49) (.int 6), false), (.lt, .int 0, .arg 49, true), (.eq, .op2 .iand (.arg 0) (.int 63), .int 37, true), (.lt, .int 1, .arg 49, true), (.eq, .arg 1, .int 0, true), (.lt, .int 2, .arg 49, true), (.lt, .arg 2, .int 0, false), (.ge, .arg 2, .int 0, true), (.lt, .int 1, .arg 49, true), (.eq, .arg 1, .int 0, true), (.lt, .int 2, .arg 49, true), (.lt, .arg 2, .int 0, false), (.gt, .arg 2, .int (-1), true), (.gt, .int 6, .sub (.arg 49) (.int 6), true)]) = true := by decide +kernel
theorem lf_37_2 : xfin (xev 154 20 xlaw 18 xlo0 [] xh0 [(.gt, .int 0, .sub (.arg 49) (.int 6), false), (.lt, .int 0, .arg 49, true), (.eq, .op2 .iand (.arg 0) (.int 63), .int 37, true), (.lt, .int 1, .arg 49, true), (.eq, .arg 1, .int 1, true), (.lt, .int 2, .arg 49, true), (.lt, .arg 2, .int 0, true), (.lt, .int 1, .arg 49, true), (.eq, .arg 1, .int 1, true), (.lt, .int 2, .arg 49, true), (.lt, .arg 2, .int 0, true), (.gt, .int 6, .sub (.arg 49) (.int 6), true)]) = true := by decide +kernel
theorem lf_37_3 : xfin (xev 162 20 xlaw 18 xlo0 [] xh0 [(.gt, .int 0, .sub (.arg 49) (.int 6), false), (.lt, .int 0, .arg 49, true), (.eq, .op2 .iand (.arg 0) (.int 63), .int 37, true), (.lt, .int 1, .arg 49, true), (.eq, .arg 1, .int 1, true), (.lt, .int 2, .arg 49, true), (.lt, .arg 2, .int 0, false), (.ge, .arg 2, .int 0, true), (.lt, .int 1, .arg 49, true), (.eq, .arg 1, .int 1, true), (.lt, .int 2, .arg 49, true), (.lt, .arg 2, .int 0, false), (.gt, .arg 2, .int (-1), true), (.gt, .int 6, .sub (.arg 49) (.int 6), true)]) = true := by decide +kernel
theorem lf_37_4 : xfin (xev 154 20 xlaw 18 xlo0 [] xh0 [(.gt, .int 0, .sub (.arg 49) (.int 6), false), (.lt, .int 0, .arg 49, true), (.eq, .op2 .iand (.arg 0) (.int 63), .int 37, true), (.lt, .int 1, .arg 49, true), (.eq, .arg 1, .int 2, true), (.lt, .int 2, .arg 49, true), (.lt, .arg 2, .int 0, true), (.lt, .int 1, .arg 49, true), (.eq, .arg 1, .int 2, true), (.lt, .int 2, .arg 49, true), (.lt, .arg 2, .int 0, true), (.gt, .int 6, .sub (.arg 49) (.int 6), true)]) = true := by decide +kernel
theorem lf_37_5 : xfin (xev 162 20 xlaw 18 xlo0 [] xh0 [(.gt, .int 0, .sub (.arg 49) (.int 6), false), (.lt, .int 0, .arg 49, true), (.eq, .op2 .iand (.arg 0) (.int 63), .int 37, true), (.lt, .int 1, .arg 49, true), (.eq, .arg 1, .int 2, true), (.lt, .int 2, .arg 49, true), (.lt, .arg 2, .int 0, false), (.ge, .arg 2, .int 0, true), (.lt, .int 1, .arg 49, true), (.eq, .arg 1, .int 2, true), (.lt, .int 2, .arg 49, true), (.lt, .arg 2, .int 0, false), (.gt, .arg 2, .int (-1), true), (.gt, .int 6, .sub (.arg 49) (.int 6), true)]) = true := by decide +kernel
theorem lf_37_6 : xfin (xev 154 20 xlaw 18 xlo0 [] xh0 [(.gt, .int 0, .sub (.arg 49) (.int 6), false), (.lt, .int 0, .arg 49, true), (.eq, .op2 .iand (.arg 0) (.int 63), .int 37, true), (.lt, .int 1, .arg 49, true), (.eq, .arg 1, .int 3, true), (.lt, .int 2, .arg 49, true), (.lt, .arg 2, .int 0, true), (.lt, .int 1, .arg 49, true), (.eq, .arg 1, .int 3, true), (.lt, .int 2, .arg 49, true), (.lt, .arg 2, .int 0, true), (.gt, .int 6, .sub (.arg 49) (.int 6), true)]) = true := by decide +kernel
theorem lf_37_7 : xfin (xev 162 20 xlaw 18 xlo0 [] xh0 [(.gt, .int 0, .sub (.arg 49) (.int 6), false), (.lt, .int 0, .arg 49, true), (.eq, .op2 .iand (.arg 0) (.int 63), .int 37, true), (.lt, .int 1, .arg 49, true), (.eq, .arg 1, .int 3, true), (.lt, .int 2, .arg 49, true), (.lt, .arg 2, .int 0, false), (.ge, .arg 2, .int 0, true), (.lt, .int 1, .arg 49, true), (.eq, .arg 1, .int 3, true), (.lt, .int 2, .arg 49, true), (.lt, .arg 2, .int 0, false), (.gt, .arg 2, .int (-1), true), (.gt, .int 6, .sub (.arg 49) (.int 6), true)]) = true := by decide +kernel
theorem lf_37_8 : xfin (xev 119 20 xlaw 18 xlo0 [] xh0 [(.gt, .int 0, .sub (.arg 49) (.int 6), false), (.lt, .int 0, .arg 49, true), (.eq, .op2 .iand (.arg 0) (.int 63), .int 37, true), (.lt, .int 1, .arg 49, true), (.lt, .int 2, .arg 49, true), (.lt, .arg 1, .int 0, true), (.lt, .int 1, .arg 49, true), (.lt, .int 2, .arg 49, true), (.lt, .arg 1, .int 0, true), (.gt, .int 6, .sub (.arg 49) (.int 6), true)]) = true := by decide +kernel
theorem lf_37_9 : xfin (xev 125 20 xlaw 18 xlo0 [] xh0 [(.gt, .int 0, .sub (.arg 49) (.int 6), false), (.lt, .int 0, .arg 49, true), (.eq, .op2 .iand (.arg 0) (.int 63), .int 37, true), (.lt, .int 1, .arg 49, true), (.lt, .int 2, .arg 49, true), (.lt, .arg 1, .int 0, false), (.ge, .arg 1, .int 4, true), (.lt, .int 1, .arg 49, true), (.lt, .int 2, .arg 49, true), (.lt, .arg 1, .int 0, false), (.gt, .arg 1, .int 3, true), (.gt, .int 6, .sub (.arg 49) (.int 6), true)]) = true := by decide +kernel
set_option maxHeartbeats 4000000 in
theorem cv_37 {r : Nat → Value} (h49 : XI r (.arg 49) = 6) (hs : XI r (.sub (.arg 49) (.int 6)) = 0) (hk : XI r (.op2 .iand (.arg 0) (.int 63)) = 37) : ∃ (f : Nat) (E : List xB), (∀ q ∈ E, xhold r q) ∧ xfin (xev f 20 xlaw 18 xlo0 [] xh0 E) = true := by
  have h0 : ¬ (XI r (.sub (.arg 49) (.int 6)) < (0 : Int)) := by omega
  have h1 : (0 : Int) < XI r (.arg 49) := by omega
  have b0 : xhid (-2147483648 ≤ XI r (.arg 0)) := XI_lo r (.arg 0)
  have d0 : xhid (XI r (.arg 0) < 2147483648) := XI_hi r (.arg 0)
  have b1 : xhid (-2147483648 ≤ XI r (.arg 1)) := XI_lo r (.arg 1)
  have d1 : xhid (XI r (.arg 1) < 2147483648) := XI_hi r (.arg 1)
  have b2 : xhid (-2147483648 ≤ XI r (.arg 2)) := XI_lo r (.arg 2)
  have d2 : xhid (XI r (.arg 2) < 2147483648) := XI_hi r (.arg 2)
  have b3 : xhid (-2147483648 ≤ XI r (.arg 3)) := XI_lo r (.arg 3)
  have d3 : xhid (XI r (.arg 3) < 2147483648) := XI_hi r (.arg 3)
  have b4 : xhid (-2147483648 ≤ XI r (.arg 4)) := XI_lo r (.arg 4)
  have d4 : xhid (XI r (.arg 4) < 2147483648) := XI_hi r (.arg 4)
  have b5 : xhid (-2147483648 ≤ XI r (.arg 5)) := XI_lo r (.arg 5)
  have d5 : xhid (XI r (.arg 5) < 2147483648) := XI_hi r (.arg 5)
  have c1 : xhid ((1 : Int) < XI r (.arg 49)) := ((by have z0 : ¬ (XI r (.sub (.arg 49) (.int 6)) < (0 : Int)) := h0; omega) : (1 : Int) < XI r (.arg 49))
  refine (Classical.em (XI r (.arg 1) = (0 : Int))).elim (fun (c2 : xhid (XI r (.arg 1) = (0 : Int))) => ?_) (fun (c2 : xhid (¬ (XI r (.arg 1) = (0 : Int)))) => ?_)
  ·
    have c3 : xhid ((2 : Int) < XI r (.arg 49)) := ((by have z0 : ¬ (XI r (.sub (.arg 49) (.int 6)) < (0 : Int)) := h0; omega) : (2 : Int) < XI r (.arg 49))
    refine (Classical.em (XI r (.arg 2) < (0 : Int))).elim (fun (c4 : xhid (XI r (.arg 2) < (0 : Int))) => ?_) (fun (c4 : xhid (¬ (XI r (.arg 2) < (0 : Int)))) => ?_)
    ·
      have c5 : xhid ((1 : Int) < XI r (.arg 49)) := ((by have z0 : (2 : Int) < XI r (.arg 49) := c3; omega) : (1 : Int) < XI r (.arg 49))
      have c6 : xhid ((2 : Int) < XI r (.arg 49)) := ((by have z0 : (2 : Int) < XI r (.arg 49) := c3; omega) : (2 : Int) < XI r (.arg 49))
      have c7 : xhid (XI r (.arg 2) < (0 : Int)) := ((by have z0 : XI r (.arg 2) < (0 : Int) := c4; have z1 : -2147483648 ≤ XI r (.arg 2) := b2; have z2 : XI r (.arg 2) < 2147483648 := d2; omega) : XI r (.arg 2) < (0 : Int))
      have c8 : xhid (XI r (.sub (.arg 49) (.int 6)) < (6 : Int)) := ((by omega) : XI r (.sub (.arg 49) (.int 6)) < (6 : Int))
      refine ⟨154, _, ?_, lf_37_0⟩
      refine xc_cons (xh_gt_F (XI_lit (by decide +kernel)) rfl h0) ?_
      refine xc_cons (xh_lt_T (XI_lit (by decide +kernel)) rfl h1) ?_
      refine xc_cons (xh_eq_T rfl (XI_lit (by decide +kernel)) hk) ?_
      refine xc_cons (xh_lt_T (XI_lit (by decide +kernel)) rfl c1) ?_
      refine xc_cons (xh_eq_T rfl (XI_lit (by decide +kernel)) c2) ?_
      refine xc_cons (xh_lt_T (XI_lit (by decide +kernel)) rfl c3) ?_
      refine xc_cons (xh_lt_T rfl (XI_lit (by decide +kernel)) c4) ?_
      refine xc_cons (xh_lt_T (XI_lit (by decide +kernel)) rfl c5) ?_
      refine xc_cons (xh_eq_T rfl (XI_lit (by decide +kernel)) c2) ?_
      refine xc_cons (xh_lt_T (XI_lit (by decide +kernel)) rfl c6) ?_
      refine xc_cons (xh_lt_T rfl (XI_lit (by decide +kernel)) c7) ?_
      refine xc_cons (xh_gt_T (XI_lit (by decide +kernel)) rfl c8) ?_
      exact xc_nil
    ·
      have c9 : xhid ((0 : Int) ≤ XI r (.arg 2)) := ((by have z0 : ¬ (XI r (.arg 2) < (0 : Int)) := c4; have z1 : -2147483648 ≤ XI r (.arg 2) := b2; have z2 : XI r (.arg 2) < 2147483648 := d2; omega) : (0 : Int) ≤ XI r (.arg 2))
      have c10 : xhid ((1 : Int) < XI r (.arg 49)) := ((by have z0 : (2 : Int) < XI r (.arg 49) := c3; omega) : (1 : Int) < XI r (.arg 49))
      have c11 : xhid ((2 : Int) < XI r (.arg 49)) := ((by have z0 : (2 : Int) < XI r (.arg 49) := c3; omega) : (2 : Int) < XI r (.arg 49))
      have c12 : xhid (¬ (XI r (.arg 2) < (0 : Int))) := ((by have z0 : (0 : Int) ≤ XI r (.arg 2) := c9; have z1 : -2147483648 ≤ XI r (.arg 2) := b2; have z2 : XI r (.arg 2) < 2147483648 := d2; omega) : ¬ (XI r (.arg 2) < (0 : Int)))
      have c13 : xhid ((-1 : Int) < XI r (.arg 2)) := ((by have z0 : ¬ (XI r (.arg 2) < (0 : Int)) := c12; have z1 : -2147483648 ≤ XI r (.arg 2) := b2; have z2 : XI r (.arg 2) < 2147483648 := d2; omega) : (-1 : Int) < XI r (.arg 2))
      have c14 : xhid (XI r (.sub (.arg 49) (.int 6)) < (6 : Int)) := ((by omega) : XI r (.sub (.arg 49) (.int 6)) < (6 : Int))
      refine ⟨162, _, ?_, lf_37_1⟩
      refine xc_cons (xh_gt_F (XI_lit (by decide +kernel)) rfl h0) ?_
      refine xc_cons (xh_lt_T (XI_lit (by decide +kernel)) rfl h1) ?_
      refine xc_cons (xh_eq_T rfl (XI_lit (by decide +kernel)) hk) ?_
      refine xc_cons (xh_lt_T (XI_lit (by decide +kernel)) rfl c1) ?_
      refine xc_cons (xh_eq_T rfl (XI_lit (by decide +kernel)) c2) ?_
      refine xc_cons (xh_lt_T (XI_lit (by decide +kernel)) rfl c3) ?_
      refine xc_cons (xh_lt_F rfl (XI_lit (by decide +kernel)) c4) ?_
      refine xc_cons (xh_ge_T rfl (XI_lit (by decide +kernel)) c9) ?_
      refine xc_cons (xh_lt_T (XI_lit (by decide +kernel)) rfl c10) ?_
      refine xc_cons (xh_eq_T rfl (XI_lit (by decide +kernel)) c2) ?_
      refine xc_cons (xh_lt_T (XI_lit (by decide +kernel)) rfl c11) ?_
      refine xc_cons (xh_lt_F rfl (XI_lit (by decide +kernel)) c12) ?_
      refine xc_cons (xh_gt_T rfl (XI_lit (by decide +kernel)) c13) ?_
      refine xc_cons (xh_gt_T (XI_lit (by decide +kernel)) rfl c14) ?_
      exact xc_nil
  refine (Classical.em (XI r (.arg 1) = (1 : Int))).elim (fun (c15 : xhid (XI r (.arg 1) = (1 : Int))) => ?_) (fun (c15 : xhid (¬ (XI r (.arg 1) = (1 : Int)))) => ?_)
  ·
    have c16 : xhid ((2 : Int) < XI r (.arg 49)) := ((by have z0 : ¬ (XI r (.sub (.arg 49) (.int 6)) < (0 : Int)) := h0; omega) : (2 : Int) < XI r (.arg 49))
    refine (Classical.em (XI r (.arg 2) < (0 : Int))).elim (fun (c17 : xhid (XI r (.arg 2) < (0 : Int))) => ?_) (fun (c17 : xhid (¬ (XI r (.arg 2) < (0 : Int)))) => ?_)
    ·
      have c18 : xhid ((1 : Int) < XI r (.arg 49)) := ((by have z0 : (2 : Int) < XI r (.arg 49) := c16; omega) : (1 : Int) < XI r (.arg 49))
      have c19 : xhid ((2 : Int) < XI r (.arg 49)) := ((by have z0 : (2 : Int) < XI r (.arg 49) := c16; omega) : (2 : Int) < XI r (.arg 49))
      have c20 : xhid (XI r (.arg 2) < (0 : Int)) := ((by have z0 : XI r (.arg 2) < (0 : Int) := c17; have z1 : -2147483648 ≤ XI r (.arg 2) := b2; have z2 : XI r (.arg 2) < 2147483648 := d2; omega) : XI r (.arg 2) < (0 : Int))
      have c21 : xhid (XI r (.sub (.arg 49) (.int 6)) < (6 : Int)) := ((by omega) : XI r (.sub (.arg 49) (.int 6)) < (6 : Int))
      refine ⟨154, _, ?_, lf_37_2⟩
      refine xc_cons (xh_gt_F (XI_lit (by decide +kernel)) rfl h0) ?_
      refine xc_cons (xh_lt_T (XI_lit (by decide +kernel)) rfl h1) ?_
      refine xc_cons (xh_eq_T rfl (XI_lit (by decide +kernel)) hk) ?_
      refine xc_cons (xh_lt_T (XI_lit (by decide +kernel)) rfl c1) ?_
      refine xc_cons (xh_eq_T rfl (XI_lit (by decide +kernel)) c15) ?_
      refine xc_cons (xh_lt_T (XI_lit (by decide +kernel)) rfl c16) ?_
      refine xc_cons (xh_lt_T rfl (XI_lit (by decide +kernel)) c17) ?_
      refine xc_cons (xh_lt_T (XI_lit (by decide +kernel)) rfl c18) ?_
      refine xc_cons (xh_eq_T rfl (XI_lit (by decide +kernel)) c15) ?_
      refine xc_cons (xh_lt_T (XI_lit (by decide +kernel)) rfl c19) ?_
      refine xc_cons (xh_lt_T rfl (XI_lit (by decide +kernel)) c20) ?_
      refine xc_cons (xh_gt_T (XI_lit (by decide +kernel)) rfl c21) ?_
      exact xc_nil
    ·
      have c22 : xhid ((0 : Int) ≤ XI r (.arg 2)) := ((by have z0 : ¬ (XI r (.arg 2) < (0 : Int)) := c17; have z1 : -2147483648 ≤ XI r (.arg 2) := b2; have z2 : XI r (.arg 2) < 2147483648 := d2; omega) : (0 : Int) ≤ XI r (.arg 2))
      have c23 : xhid ((1 : Int) < XI r (.arg 49)) := ((by have z0 : (2 : Int) < XI r (.arg 49) := c16; omega) : (1 : Int) < XI r (.arg 49))
      have c24 : xhid ((2 : Int) < XI r (.arg 49)) := ((by have z0 : (2 : Int) < XI r (.arg 49) := c16; omega) : (2 : Int) < XI r (.arg 49))
      have c25 : xhid (¬ (XI r (.arg 2) < (0 : Int))) := ((by have z0 : (0 : Int) ≤ XI r (.arg 2) := c22; have z1 : -2147483648 ≤ XI r (.arg 2) := b2; have z2 : XI r (.arg 2) < 2147483648 := d2; omega) : ¬ (XI r (.arg 2) < (0 : Int)))
      have c26 : xhid ((-1 : Int) < XI r (.arg 2)) := ((by have z0 : ¬ (XI r (.arg 2) < (0 : Int)) := c25; have z1 : -2147483648 ≤ XI r (.arg 2) := b2; have z2 : XI r (.arg 2) < 2147483648 := d2; omega) : (-1 : Int) < XI r (.arg 2))
      have c27 : xhid (XI r (.sub (.arg 49) (.int 6)) < (6 : Int)) := ((by omega) : XI r (.sub (.arg 49) (.int 6)) < (6 : Int))
      refine ⟨162, _, ?_, lf_37_3⟩
      refine xc_cons (xh_gt_F (XI_lit (by decide +kernel)) rfl h0) ?_
      refine xc_cons (xh_lt_T (XI_lit (by decide +kernel)) rfl h1) ?_
      refine xc_cons (xh_eq_T rfl (XI_lit (by decide +kernel)) hk) ?_
      refine xc_cons (xh_lt_T (XI_lit (by decide +kernel)) rfl c1) ?_
      refine xc_cons (xh_eq_T rfl (XI_lit (by decide +kernel)) c15) ?_
      refine xc_cons (xh_lt_T (XI_lit (by decide +kernel)) rfl c16) ?_
      refine xc_cons (xh_lt_F rfl (XI_lit (by decide +kernel)) c17) ?_
      refine xc_cons (xh_ge_T rfl (XI_lit (by decide +kernel)) c22) ?_
      refine xc_cons (xh_lt_T (XI_lit (by decide +kernel)) rfl c23) ?_
      refine xc_cons (xh_eq_T rfl (XI_lit (by decide +kernel)) c15) ?_
      refine xc_cons (xh_lt_T (XI_lit (by decide +kernel)) rfl c24) ?_
      refine xc_cons (xh_lt_F rfl (XI_lit (by decide +kernel)) c25) ?_
      refine xc_cons (xh_gt_T rfl (XI_lit (by decide +kernel)) c26) ?_
      refine xc_cons (xh_gt_T (XI_lit (by decide +kernel)) rfl c27) ?_
      exact xc_nil
  refine (Classical.em (XI r (.arg 1) = (2 : Int))).elim (fun (c28 : xhid (XI r (.arg 1) = (2 : Int))) => ?_) (fun (c28 : xhid (¬ (XI r (.arg 1) = (2 : Int)))) => ?_)
  ·
    have c29 : xhid ((2 : Int) < XI r (.arg 49)) := ((by have z0 : ¬ (XI r (.sub (.arg 49) (.int 6)) < (0 : Int)) := h0; omega) : (2 : Int) < XI r (.arg 49))
    refine (Classical.em (XI r (.arg 2) < (0 : Int))).elim (fun (c30 : xhid (XI r (.arg 2) < (0 : Int))) => ?_) (fun (c30 : xhid (¬ (XI r (.arg 2) < (0 : Int)))) => ?_)
    ·
      have c31 : xhid ((1 : Int) < XI r (.arg 49)) := ((by have z0 : (2 : Int) < XI r (.arg 49) := c29; omega) : (1 : Int) < XI r (.arg 49))
      have c32 : xhid ((2 : Int) < XI r (.arg 49)) := ((by have z0 : (2 : Int) < XI r (.arg 49) := c29; omega) : (2 : Int) < XI r (.arg 49))
      have c33 : xhid (XI r (.arg 2) < (0 : Int)) := ((by have z0 : XI r (.arg 2) < (0 : Int) := c30; have z1 : -2147483648 ≤ XI r (.arg 2) := b2; have z2 : XI r (.arg 2) < 2147483648 := d2; omega) : XI r (.arg 2) < (0 : Int))
      have c34 : xhid (XI r (.sub (.arg 49) (.int 6)) < (6 : Int)) := ((by omega) : XI r (.sub (.arg 49) (.int 6)) < (6 : Int))
      refine ⟨154, _, ?_, lf_37_4⟩
      refine xc_cons (xh_gt_F (XI_lit (by decide +kernel)) rfl h0) ?_
      refine xc_cons (xh_lt_T (XI_lit (by decide +kernel)) rfl h1) ?_
      refine xc_cons (xh_eq_T rfl (XI_lit (by decide +kernel)) hk) ?_
      refine xc_cons (xh_lt_T (XI_lit (by decide +kernel)) rfl c1) ?_
      refine xc_cons (xh_eq_T rfl (XI_lit (by decide +kernel)) c28) ?_
      refine xc_cons (xh_lt_T (XI_lit (by decide +kernel)) rfl c29) ?_
      refine xc_cons (xh_lt_T rfl (XI_lit (by decide +kernel)) c30) ?_
      refine xc_cons (xh_lt_T (XI_lit (by decide +kernel)) rfl c31) ?_
      refine xc_cons (xh_eq_T rfl (XI_lit (by decide +kernel)) c28) ?_
      refine xc_cons (xh_lt_T (XI_lit (by decide +kernel)) rfl c32) ?_
      refine xc_cons (xh_lt_T rfl (XI_lit (by decide +kernel)) c33) ?_
      refine xc_cons (xh_gt_T (XI_lit (by decide +kernel)) rfl c34) ?_
      exact xc_nil
    ·
      have c35 : xhid ((0 : Int) ≤ XI r (.arg 2)) := ((by have z0 : ¬ (XI r (.arg 2) < (0 : Int)) := c30; have z1 : -2147483648 ≤ XI r (.arg 2) := b2; have z2 : XI r (.arg 2) < 2147483648 := d2; omega) : (0 : Int) ≤ XI r (.arg 2))
      have c36 : xhid ((1 : Int) < XI r (.arg 49)) := ((by have z0 : (2 : Int) < XI r (.arg 49) := c29; omega) : (1 : Int) < XI r (.arg 49))
      have c37 : xhid ((2 : Int) < XI r (.arg 49)) := ((by have z0 : (2 : Int) < XI r (.arg 49) := c29; omega) : (2 : Int) < XI r (.arg 49))
      have c38 : xhid (¬ (XI r (.arg 2) < (0 : Int))) := ((by have z0 : (0 : Int) ≤ XI r (.arg 2) := c35; have z1 : -2147483648 ≤ XI r (.arg 2) := b2; have z2 : XI r (.arg 2) < 2147483648 := d2; omega) : ¬ (XI r (.arg 2) < (0 : Int)))
      have c39 : xhid ((-1 : Int) < XI r (.arg 2)) := ((by have z0 : ¬ (XI r (.arg 2) < (0 : Int)) := c38; have z1 : -2147483648 ≤ XI r (.arg 2) := b2; have z2 : XI r (.arg 2) < 2147483648 := d2; omega) : (-1 : Int) < XI r (.arg 2))
      have c40 : xhid (XI r (.sub (.arg 49) (.int 6)) < (6 : Int)) := ((by omega) : XI r (.sub (.arg 49) (.int 6)) < (6 : Int))
      refine ⟨162, _, ?_, lf_37_5⟩
      refine xc_cons (xh_gt_F (XI_lit (by decide +kernel)) rfl h0) ?_
      refine xc_cons (xh_lt_T (XI_lit (by decide +kernel)) rfl h1) ?_
      refine xc_cons (xh_eq_T rfl (XI_lit (by decide +kernel)) hk) ?_
      refine xc_cons (xh_lt_T (XI_lit (by decide +kernel)) rfl c1) ?_
      refine xc_cons (xh_eq_T rfl (XI_lit (by decide +kernel)) c28) ?_
      refine xc_cons (xh_lt_T (XI_lit (by decide +kernel)) rfl c29) ?_
      refine xc_cons (xh_lt_F rfl (XI_lit (by decide +kernel)) c30) ?_
      refine xc_cons (xh_ge_T rfl (XI_lit (by decide +kernel)) c35) ?_
      refine xc_cons (xh_lt_T (XI_lit (by decide +kernel)) rfl c36) ?_
      refine xc_cons (xh_eq_T rfl (XI_lit (by decide +kernel)) c28) ?_
      refine xc_cons (xh_lt_T (XI_lit (by decide +kernel)) rfl c37) ?_
      refine xc_cons (xh_lt_F rfl (XI_lit (by decide +kernel)) c38) ?_
      refine xc_cons (xh_gt_T rfl (XI_lit (by decide +kernel)) c39) ?_
      refine xc_cons (xh_gt_T (XI_lit (by decide +kernel)) rfl c40) ?_
      exact xc_nil
  refine (Classical.em (XI r (.arg 1) = (3 : Int))).elim (fun (c41 : xhid (XI r (.arg 1) = (3 : Int))) => ?_) (fun (c41 : xhid (¬ (XI r (.arg 1) = (3 : Int)))) => ?_)
  ·
    have c42 : xhid ((2 : Int) < XI r (.arg 49)) := ((by have z0 : ¬ (XI r (.sub (.arg 49) (.int 6)) < (0 : Int)) := h0; omega) : (2 : Int) < XI r (.arg 49))
    refine (Classical.em (XI r (.arg 2) < (0 : Int))).elim (fun (c43 : xhid (XI r (.arg 2) < (0 : Int))) => ?_) (fun (c43 : xhid (¬ (XI r (.arg 2) < (0 : Int)))) => ?_)
    ·
      have c44 : xhid ((1 : Int) < XI r (.arg 49)) := ((by have z0 : (2 : Int) < XI r (.arg 49) := c42; omega) : (1 : Int) < XI r (.arg 49))
      have c45 : xhid ((2 : Int) < XI r (.arg 49)) := ((by have z0 : (2 : Int) < XI r (.arg 49) := c42; omega) : (2 : Int) < XI r (.arg 49))
      have c46 : xhid (XI r (.arg 2) < (0 : Int)) := ((by have z0 : XI r (.arg 2) < (0 : Int) := c43; have z1 : -2147483648 ≤ XI r (.arg 2) := b2; have z2 : XI r (.arg 2) < 2147483648 := d2; omega) : XI r (.arg 2) < (0 : Int))
      have c47 : xhid (XI r (.sub (.arg 49) (.int 6)) < (6 : Int)) := ((by omega) : XI r (.sub (.arg 49) (.int 6)) < (6 : Int))
      refine ⟨154, _, ?_, lf_37_6⟩
      refine xc_cons (xh_gt_F (XI_lit (by decide +kernel)) rfl h0) ?_
      refine xc_cons (xh_lt_T (XI_lit (by decide +kernel)) rfl h1) ?_
      refine xc_cons (xh_eq_T rfl (XI_lit (by decide +kernel)) hk) ?_
      refine xc_cons (xh_lt_T (XI_lit (by decide +kernel)) rfl c1) ?_
      refine xc_cons (xh_eq_T rfl (XI_lit (by decide +kernel)) c41) ?_
      refine xc_cons (xh_lt_T (XI_lit (by decide +kernel)) rfl c42) ?_
      refine xc_cons (xh_lt_T rfl (XI_lit (by decide +kernel)) c43) ?_
      refine xc_cons (xh_lt_T (XI_lit (by decide +kernel)) rfl c44) ?_
      refine xc_cons (xh_eq_T rfl (XI_lit (by decide +kernel)) c41) ?_
      refine xc_cons (xh_lt_T (XI_lit (by decide +kernel)) rfl c45) ?_
      refine xc_cons (xh_lt_T rfl (XI_lit (by decide +kernel)) c46) ?_
      refine xc_cons (xh_gt_T (XI_lit (by decide +kernel)) rfl c47) ?_
      exact xc_nil
    ·
      have c48 : xhid ((0 : Int) ≤ XI r (.arg 2)) := ((by have z0 : ¬ (XI r (.arg 2) < (0 : Int)) := c43; have z1 : -2147483648 ≤ XI r (.arg 2) := b2; have z2 : XI r (.arg 2) < 2147483648 := d2; omega) : (0 : Int) ≤ XI r (.arg 2))
      have c49 : xhid ((1 : Int) < XI r (.arg 49)) := ((by have z0 : (2 : Int) < XI r (.arg 49) := c42; omega) : (1 : Int) < XI r (.arg 49))
      have c50 : xhid ((2 : Int) < XI r (.arg 49)) := ((by have z0 : (2 : Int) < XI r (.arg 49) := c42; omega) : (2 : Int) < XI r (.arg 49))
      have c51 : xhid (¬ (XI r (.arg 2) < (0 : Int))) := ((by have z0 : (0 : Int) ≤ XI r (.arg 2) := c48; have z1 : -2147483648 ≤ XI r (.arg 2) := b2; have z2 : XI r (.arg 2) < 2147483648 := d2; omega) : ¬ (XI r (.arg 2) < (0 : Int)))
      have c52 : xhid ((-1 : Int) < XI r (.arg 2)) := ((by have z0 : ¬ (XI r (.arg 2) < (0 : Int)) := c51; have z1 : -2147483648 ≤ XI r (.arg 2) := b2; have z2 : XI r (.arg 2) < 2147483648 := d2; omega) : (-1 : Int) < XI r (.arg 2))
      have c53 : xhid (XI r (.sub (.arg 49) (.int 6)) < (6 : Int)) := ((by omega) : XI r (.sub (.arg 49) (.int 6)) < (6 : Int))
      refine ⟨162, _, ?_, lf_37_7⟩
      refine xc_cons (xh_gt_F (XI_lit (by decide +kernel)) rfl h0) ?_
      refine xc_cons (xh_lt_T (XI_lit (by decide +kernel)) rfl h1) ?_
      refine xc_cons (xh_eq_T rfl (XI_lit (by decide +kernel)) hk) ?_
      refine xc_cons (xh_lt_T (XI_lit (by decide +kernel)) rfl c1) ?_
      refine xc_cons (xh_eq_T rfl (XI_lit (by decide +kernel)) c41) ?_
      refine xc_cons (xh_lt_T (XI_lit (by decide +kernel)) rfl c42) ?_
      refine xc_cons (xh_lt_F rfl (XI_lit (by decide +kernel)) c43) ?_
      refine xc_cons (xh_ge_T rfl (XI_lit (by decide +kernel)) c48) ?_
      refine xc_cons (xh_lt_T (XI_lit (by decide +kernel)) rfl c49) ?_
      refine xc_cons (xh_eq_T rfl (XI_lit (by decide +kernel)) c41) ?_
      refine xc_cons (xh_lt_T (XI_lit (by decide +kernel)) rfl c50) ?_
      refine xc_cons (xh_lt_F rfl (XI_lit (by decide +kernel)) c51) ?_
      refine xc_cons (xh_gt_T rfl (XI_lit (by decide +kernel)) c52) ?_
      refine xc_cons (xh_gt_T (XI_lit (by decide +kernel)) rfl c53) ?_
      exact xc_nil
  have c54 : xhid ((2 : Int) < XI r (.arg 49)) := ((by have z0 : ¬ (XI r (.sub (.arg 49) (.int 6)) < (0 : Int)) := h0; omega) : (2 : Int) < XI r (.arg 49))
  refine (Classical.em (XI r (.arg 1) < (0 : Int))).elim (fun (c55 : xhid (XI r (.arg 1) < (0 : Int))) => ?_) (fun (c55 : xhid (¬ (XI r (.arg 1) < (0 : Int)))) => ?_)
  ·
    have c56 : xhid ((1 : Int) < XI r (.arg 49)) := ((by have z0 : (2 : Int) < XI r (.arg 49) := c54; omega) : (1 : Int) < XI r (.arg 49))
    have c57 : xhid ((2 : Int) < XI r (.arg 49)) := ((by have z0 : (2 : Int) < XI r (.arg 49) := c54; omega) : (2 : Int) < XI r (.arg 49))
    have c58 : xhid (XI r (.arg 1) < (0 : Int)) := ((by have z0 : XI r (.arg 1) < (0 : Int) := c55; have z1 : -2147483648 ≤ XI r (.arg 1) := b1; have z2 : XI r (.arg 1) < 2147483648 := d1; omega) : XI r (.arg 1) < (0 : Int))
    have c59 : xhid (XI r (.sub (.arg 49) (.int 6)) < (6 : Int)) := ((by omega) : XI r (.sub (.arg 49) (.int 6)) < (6 : Int))
    refine ⟨119, _, ?_, lf_37_8⟩
    refine xc_cons (xh_gt_F (XI_lit (by decide +kernel)) rfl h0) ?_
    refine xc_cons (xh_lt_T (XI_lit (by decide +kernel)) rfl h1) ?_
    refine xc_cons (xh_eq_T rfl (XI_lit (by decide +kernel)) hk) ?_
    refine xc_cons (xh_lt_T (XI_lit (by decide +kernel)) rfl c1) ?_
    refine xc_cons (xh_lt_T (XI_lit (by decide +kernel)) rfl c54) ?_
    refine xc_cons (xh_lt_T rfl (XI_lit (by decide +kernel)) c55) ?_
    refine xc_cons (xh_lt_T (XI_lit (by decide +kernel)) rfl c56) ?_
    refine xc_cons (xh_lt_T (XI_lit (by decide +kernel)) rfl c57) ?_
    refine xc_cons (xh_lt_T rfl (XI_lit (by decide +kernel)) c58) ?_
    refine xc_cons (xh_gt_T (XI_lit (by decide +kernel)) rfl c59) ?_
    exact xc_nil
  ·
    have c60 : xhid ((4 : Int) ≤ XI r (.arg 1)) := ((by have z0 : ¬ (XI r (.arg 1) < (0 : Int)) := c55; have z1 : ¬ (XI r (.arg 1) = (0 : Int)) := c2; have z2 : ¬ (XI r (.arg 1) = (1 : Int)) := c15; have z3 : ¬ (XI r (.arg 1) = (2 : Int)) := c28; have z4 : ¬ (XI r (.arg 1) = (3 : Int)) := c41; have z5 : -2147483648 ≤ XI r (.arg 1) := b1; have z6 : XI r (.arg 1) < 2147483648 := d1; omega) : (4 : Int) ≤ XI r (.arg 1))
    have c61 : xhid ((1 : Int) < XI r (.arg 49)) := ((by have z0 : (2 : Int) < XI r (.arg 49) := c54; omega) : (1 : Int) < XI r (.arg 49))
    have c62 : xhid ((2 : Int) < XI r (.arg 49)) := ((by have z0 : (2 : Int) < XI r (.arg 49) := c54; omega) : (2 : Int) < XI r (.arg 49))
    have c63 : xhid (¬ (XI r (.arg 1) < (0 : Int))) := ((by have z0 : (4 : Int) ≤ XI r (.arg 1) := c60; have z1 : -2147483648 ≤ XI r (.arg 1) := b1; have z2 : XI r (.arg 1) < 2147483648 := d1; omega) : ¬ (XI r (.arg 1) < (0 : Int)))
    have c64 : xhid ((3 : Int) < XI r (.arg 1)) := ((by have z0 : ¬ (XI r (.arg 1) < (0 : Int)) := c63; have z1 : ¬ (XI r (.arg 1) = (0 : Int)) := c2; have z2 : ¬ (XI r (.arg 1) = (1 : Int)) := c15; have z3 : ¬ (XI r (.arg 1) = (2 : Int)) := c28; have z4 : ¬ (XI r (.arg 1) = (3 : Int)) := c41; have z5 : -2147483648 ≤ XI r (.arg 1) := b1; have z6 : XI r (.arg 1) < 2147483648 := d1; omega) : (3 : Int) < XI r (.arg 1))
    have c65 : xhid (XI r (.sub (.arg 49) (.int 6)) < (6 : Int)) := ((by omega) : XI r (.sub (.arg 49) (.int 6)) < (6 : Int))
    refine ⟨125, _, ?_, lf_37_9⟩
    refine xc_cons (xh_gt_F (XI_lit (by decide +kernel)) rfl h0) ?_
    refine xc_cons (xh_lt_T (XI_lit (by decide +kernel)) rfl h1) ?_
    refine xc_cons (xh_eq_T rfl (XI_lit (by decide +kernel)) hk) ?_
    refine xc_cons (xh_lt_T (XI_lit (by decide +kernel)) rfl c1) ?_
    refine xc_cons (xh_lt_T (XI_lit (by decide +kernel)) rfl c54) ?_
    refine xc_cons (xh_lt_F rfl (XI_lit (by decide +kernel)) c55) ?_
    refine xc_cons (xh_ge_T rfl (XI_lit (by decide +kernel)) c60) ?_
    refine xc_cons (xh_lt_T (XI_lit (by decide +kernel)) rfl c61) ?_
    refine xc_cons (xh_lt_T (XI_lit (by decide +kernel)) rfl c62) ?_
    refine xc_cons (xh_lt_F rfl (XI_lit (by decide +kernel)) c63) ?_
    refine xc_cons (xh_gt_T rfl (XI_lit (by decide +kernel)) c64) ?_
    refine xc_cons (xh_gt_T (XI_lit (by decide +kernel)) rfl c65) ?_
    exact xc_nil
theorem lf_39_0 : xfin (xev 85 20 xlaw 18 xlo0 [] xh0 [(.gt, .int 0, .sub (.arg 49) (.int 6), false), (.lt, .int 0, .arg 49, true), (.eq, .op2 .iand (.arg 0) (.int 63), .int 39, true), (.gt, .int 6, .sub (.arg 49) (.int 6), true)]) = true := by decide +kernel
set_option maxHeartbeats 4000000 in
theorem cv_39 {r : Nat → Value} (h49 : XI r (.arg 49) = 6) (hs : XI r (.sub (.arg 49) (.int 6)) = 0) (hk : XI r (.op2 .iand (.arg 0) (.int 63)) = 39) : ∃ (f : Nat) (E : List xB), (∀ q ∈ E, xhold r q) ∧ xfin (xev f 20 xlaw 18 xlo0 [] xh0 E) = true := by
  have h0 : ¬ (XI r (.sub (.arg 49) (.int 6)) < (0 : Int)) := by omega
  have h1 : (0 : Int) < XI r (.arg 49) := by omega
  have b0 : xhid (-2147483648 ≤ XI r (.arg 0)) := XI_lo r (.arg 0)
  have d0 : xhid (XI r (.arg 0) < 2147483648) := XI_hi r (.arg 0)
  have b1 : xhid (-2147483648 ≤ XI r (.arg 1)) := XI_lo r (.arg 1)
  have d1 : xhid (XI r (.arg 1) < 2147483648) := XI_hi r (.arg 1)
  have b2 : xhid (-2147483648 ≤ XI r (.arg 2)) := XI_lo r (.arg 2)
  have d2 : xhid (XI r (.arg 2) < 2147483648) := XI_hi r (.arg 2)
  have b3 : xhid (-2147483648 ≤ XI r (.arg 3)) := XI_lo r (.arg 3)
  have d3 : xhid (XI r (.arg 3) < 2147483648) := XI_hi r (.arg 3)
  have b4 : xhid (-2147483648 ≤ XI r (.arg 4)) := XI_lo r (.arg 4)
  have d4 : xhid (XI r (.arg 4) < 2147483648) := XI_hi r (.arg 4)
  have b5 : xhid (-2147483648 ≤ XI r (.arg 5)) := XI_lo r (.arg 5)
  have d5 : xhid (XI r (.arg 5) < 2147483648) := XI_hi r (.arg 5)
  have c1 : xhid (XI r (.sub (.arg 49) (.int 6)) < (6 : Int)) := ((by omega) : XI r (.sub (.arg 49) (.int 6)) < (6 : Int))
  refine ⟨85, _, ?_, lf_39_0⟩
  refine xc_cons (xh_gt_F (XI_lit (by decide +kernel)) rfl h0) ?_
  refine xc_cons (xh_lt_T (XI_lit (by decide +kernel)) rfl h1) ?_
  refine xc_cons (xh_eq_T rfl (XI_lit (by decide +kernel)) hk) ?_
  refine xc_cons (xh_gt_T (XI_lit (by decide +kernel)) rfl c1) ?_
  exact xc_nil
theorem lf_40_0 : xfin (xev 117 20 xlaw 18 xlo0 [] xh0 [(.gt, .int 0, .sub (.arg 49) (.int 6), false), (.lt, .int 0, .arg 49, true), (.eq, .op2 .iand (.arg 0) (.int 63), .int 40, true), (.lt, .int 1, .arg 49, true), (.lt, .int 1, .arg 49, true), (.gt, .int 6, .sub (.arg 49) (.int 6), true)]) = true := by decide +kernel
set_option maxHeartbeats 4000000 in
theorem cv_40 {r : Nat → Value} (h49 : XI r (.arg 49) = 6) (hs : XI r (.sub (.arg 49) (.int 6)) = 0) (hk : XI r (.op2 .iand (.arg 0) (.int 63)) = 40) : ∃ (f : Nat) (E : List xB), (∀ q ∈ E, xhold r q) ∧ xfin (xev f 20 xlaw 18 xlo0 [] xh0 E) = true := by
  have h0 : ¬ (XI r (.sub (.arg 49) (.int 6)) < (0 : Int)) := by omega
  have h1 : (0 : Int) < XI r (.arg 49) := by omega
  have b0 : xhid (-2147483648 ≤ XI r (.arg 0)) := XI_lo r (.arg 0)
  have d0 : xhid (XI r (.arg 0) < 2147483648) := XI_hi r (.arg 0)
  have b1 : xhid (-2147483648 ≤ XI r (.arg 1)) := XI_lo r (.arg 1)
  have d1 : xhid (XI r (.arg 1) < 2147483648) := XI_hi r (.arg 1)
  have b2 : xhid (-2147483648 ≤ XI r (.arg 2)) := XI_lo r (.arg 2)
  have d2 : xhid (XI r (.arg 2) < 2147483648) := XI_hi r (.arg 2)
  have b3 : xhid (-2147483648 ≤ XI r (.arg 3)) := XI_lo r (.arg 3)
  have d3 : xhid (XI r (.arg 3) < 2147483648) := XI_hi r (.arg 3)
  have b4 : xhid (-2147483648 ≤ XI r (.arg 4)) := XI_lo r (.arg 4)
  have d4 : xhid (XI r (.arg 4) < 2147483648) := XI_hi r (.arg 4)
  have b5 : xhid (-2147483648 ≤ XI r (.arg 5)) := XI_lo r (.arg 5)
  have d5 : xhid (XI r (.arg 5) < 2147483648) := XI_hi r (.arg 5)
  have c1 : xhid ((1 : Int) < XI r (.arg 49)) := ((by have z0 : ¬ (XI r (.sub (.arg 49) (.int 6)) < (0 : Int)) := h0; omega) : (1 : Int) < XI r (.arg 49))
  have c2 : xhid ((1 : Int) < XI r (.arg 49)) := ((by have z0 : (1 : Int) < XI r (.arg 49) := c1; omega) : (1 : Int) < XI r (.arg 49))
  have c3 : xhid (XI r (.sub (.arg 49) (.int 6)) < (6 : Int)) := ((by omega) : XI r (.sub (.arg 49) (.int 6)) < (6 : Int))
  refine ⟨117, _, ?_, lf_40_0⟩
  refine xc_cons (xh_gt_F (XI_lit (by decide +kernel)) rfl h0) ?_
  refine xc_cons (xh_lt_T (XI_lit (by decide +kernel)) rfl h1) ?_
  refine xc_cons (xh_eq_T rfl (XI_lit (by decide +kernel)) hk) ?_
  refine xc_cons (xh_lt_T (XI_lit (by decide +kernel)) rfl c1) ?_
  refine xc_cons (xh_lt_T (XI_lit (by decide +kernel)) rfl c2) ?_
  refine xc_cons (xh_gt_T (XI_lit (by decide +kernel)) rfl c3) ?_
  exact xc_nil
theorem lf_41_0 : xfin (xev 144 20 xlaw 18 xlo0 [] xh0 [(.gt, .int 0, .sub (.arg 49) (.int 6), false), (.lt, .int 0, .arg 49, true), (.eq, .op2 .iand (.arg 0) (.int 63), .int 41, true), (.lt, .int 1, .arg 49, true), (.lt, .int 2, .arg 49, true), (.lt, .arg 1, .int 0, true), (.lt, .int 1, .arg 49, true), (.lt, .int 2, .arg 49, true), (.lt, .arg 1, .int 0, true), (.gt, .int 6, .sub (.arg 49) (.int 6), true)]) = true := by decide +kernel
theorem lf_41_1 : xfin (xev 152 20 xlaw 18 xlo0 [] xh0 [(.gt, .int 0, .sub (.arg 49) (.int 6), false), (.lt, .int 0, .arg 49, true), (.eq, .op2 .iand (.arg 0) (.int 63), .int 41, true), (.lt, .int 1, .arg 49, true), (.lt, .int 2, .arg 49, true), (.lt, .arg 1, .int 0, false), (.ge, .arg 1, .int 0, true), (.lt, .int 1, .arg 49, true), (.lt, .int 2, .arg 49, true), (.lt, .arg 1, .int 0, false), (.gt, .arg 1, .int (-1), true), (.gt, .int 6, .sub (.arg 49) (.int 6), true)]) = true := by decide +kernel
set_option maxHeartbeats 4000000 in
theorem cv_41 {r : Nat → Value} (h49 : XI r (.arg 49) = 6) (hs : XI r (.sub (.arg 49) (.int 6)) = 0) (hk : XI r (.op2 .iand (.arg 0) (.int 63)) = 41) : ∃ (f : Nat) (E : List xB), (∀ q ∈ E, xhold r q) ∧ xfin (xev f 20 xlaw 18 xlo0 [] xh0 E) = true := by
  have h0 : ¬ (XI r (.sub (.arg 49) (.int 6)) < (0 : Int)) := by omega
  have h1 : (0 : Int) < XI r (.arg 49) := by omega
  have b0 : xhid (-2147483648 ≤ XI r (.arg 0)) := XI_lo r (.arg 0)
  have d0 : xhid (XI r (.arg 0) < 2147483648) := XI_hi r (.arg 0)
  have b1 : xhid (-2147483648 ≤ XI r (.arg 1)) := XI_lo r (.arg 1)
  have d1 : xhid (XI r (.arg 1) < 2147483648) := XI_hi r (.arg 1)
  have b2 : xhid (-2147483648 ≤ XI r (.arg 2)) := XI_lo r (.arg 2)
  have d2 : xhid (XI r (.arg 2) < 2147483648) := XI_hi r (.arg 2)
  have b3 : xhid (-2147483648 ≤ XI r (.arg 3)) := XI_lo r (.arg 3)
  have d3 : xhid (XI r (.arg 3) < 2147483648) := XI_hi r (.arg 3)
  have b4 : xhid (-2147483648 ≤ XI r (.arg 4)) := XI_lo r (.arg 4)
  have d4 : xhid (XI r (.arg 4) < 2147483648) := XI_hi r (.arg 4)
  have b5 : xhid (-2147483648 ≤ XI r (.arg 5)) := XI_lo r (.arg 5)
  have d5 : xhid (XI r (.arg 5) < 2147483648) := XI_hi r (.arg 5)
  have c1 : xhid ((1 : Int) < XI r (.arg 49)) := ((by have z0 : ¬ (XI r (.sub (.arg 49) (.int 6)) < (0 : Int)) := h0; omega) : (1 : Int) < XI r (.arg 49))
  have c2 : xhid ((2 : Int) < XI r (.arg 49)) := ((by have z0 : ¬ (XI r (.sub (.arg 49) (.int 6)) < (0 : Int)) := h0; omega) : (2 : Int) < XI r (.arg 49))
  refine (Classical.em (XI r (.arg 1) < (0 : Int))).elim (fun (c3 : xhid (XI r (.arg 1) < (0 : Int))) => ?_) (fun (c3 : xhid (¬ (XI r (.arg 1) < (0 : Int)))) => ?_)
  ·
    have c4 : xhid ((1 : Int) < XI r (.arg 49)) := ((by have z0 : (2 : Int) < XI r (.arg 49) := c2; omega) : (1 : Int) < XI r (.arg 49))
    have c5 : xhid ((2 : Int) < XI r (.arg 49)) := ((by have z0 : (2 : Int) < XI r (.arg 49) := c2; omega) : (2 : Int) < XI r (.arg 49))
    have c6 : xhid (XI r (.arg 1) < (0 : Int)) := ((by have z0 : XI r (.arg 1) < (0 : Int) := c3; have z1 : -2147483648 ≤ XI r (.arg 1) := b1; have z2 : XI r (.arg 1) < 2147483648 := d1; omega) : XI r (.arg 1) < (0 : Int))
    have c7 : xhid (XI r (.sub (.arg 49) (.int 6)) < (6 : Int)) := ((by omega) : XI r (.sub (.arg 49) (.int 6)) < (6 : Int))
    refine ⟨144, _, ?_, lf_41_0⟩
    refine xc_cons (xh_gt_F (XI_lit (by decide +kernel)) rfl h0) ?_
    refine xc_cons (xh_lt_T (XI_lit (by decide +kernel)) rfl h1) ?_
    refine xc_cons (xh_eq_T rfl (XI_lit (by decide +kernel)) hk) ?_
    refine xc_cons (xh_lt_T (XI_lit (by decide +kernel)) rfl c1) ?_
    refine xc_cons (xh_lt_T (XI_lit (by decide +kernel)) rfl c2) ?_
    refine xc_cons (xh_lt_T rfl (XI_lit (by decide +kernel)) c3) ?_
    refine xc_cons (xh_lt_T (XI_lit (by decide +kernel)) rfl c4) ?_
    refine xc_cons (xh_lt_T (XI_lit (by decide +kernel)) rfl c5) ?_
    refine xc_cons (xh_lt_T rfl (XI_lit (by decide +kernel)) c6) ?_
    refine xc_cons (xh_gt_T (XI_lit (by decide +kernel)) rfl c7) ?_
    exact xc_nil
  ·
    have c8 : xhid ((0 : Int) ≤ XI r (.arg 1)) := ((by have z0 : ¬ (XI r (.arg 1) < (0 : Int)) := c3; have z1 : -2147483648 ≤ XI r (.arg 1) := b1; have z2 : XI r (.arg 1) < 2147483648 := d1; omega) : (0 : Int) ≤ XI r (.arg 1))
    have c9 : xhid ((1 : Int) < XI r (.arg 49)) := ((by have z0 : (2 : Int) < XI r (.arg 49) := c2; omega) : (1 : Int) < XI r (.arg 49))
    have c10 : xhid ((2 : Int) < XI r (.arg 49)) := ((by have z0 : (2 : Int) < XI r (.arg 49) := c2; omega) : (2 : Int) < XI r (.arg 49))
    have c11 : xhid (¬ (XI r (.arg 1) < (0 : Int))) := ((by have z0 : (0 : Int) ≤ XI r (.arg 1) := c8; have z1 : -2147483648 ≤ XI r (.arg 1) := b1; have z2 : XI r (.arg 1) < 2147483648 := d1; omega) : ¬ (XI r (.arg 1) < (0 : Int)))
    have c12 : xhid ((-1 : Int) < XI r (.arg 1)) := ((by have z0 : ¬ (XI r (.arg 1) < (0 : Int)) := c11; have z1 : -2147483648 ≤ XI r (.arg 1) := b1; have z2 : XI r (.arg 1) < 2147483648 := d1; omega) : (-1 : Int) < XI r (.arg 1))
    have c13 : xhid (XI r (.sub (.arg 49) (.int 6)) < (6 : Int)) := ((by omega) : XI r (.sub (.arg 49) (.int 6)) < (6 : Int))
    refine ⟨152, _, ?_, lf_41_1⟩
    refine xc_cons (xh_gt_F (XI_lit (by decide +kernel)) rfl h0) ?_
    refine xc_cons (xh_lt_T (XI_lit (by decide +kernel)) rfl h1) ?_
    refine xc_cons (xh_eq_T rfl (XI_lit (by decide +kernel)) hk) ?_
    refine xc_cons (xh_lt_T (XI_lit (by decide +kernel)) rfl c1) ?_
    refine xc_cons (xh_lt_T (XI_lit (by decide +kernel)) rfl c2) ?_
    refine xc_cons (xh_lt_F rfl (XI_lit (by decide +kernel)) c3) ?_
    refine xc_cons (xh_ge_T rfl (XI_lit (by decide +kernel)) c8) ?_
    refine xc_cons (xh_lt_T (XI_lit (by decide +kernel)) rfl c9) ?_
    refine xc_cons (xh_lt_T (XI_lit (by decide +kernel)) rfl c10) ?_
    refine xc_cons (xh_lt_F rfl (XI_lit (by decide +kernel)) c11) ?_
    refine xc_cons (xh_gt_T rfl (XI_lit (by decide +kernel)) c12) ?_
    refine xc_cons (xh_gt_T (XI_lit (by decide +kernel)) rfl c13) ?_
    exact xc_nil
theorem lf_42_0 : xfin (xev 70 20 xlaw 18 xlo0 [] xh0 [(.gt, .int 0, .sub (.arg 49) (.int 6), false), (.lt, .int 0, .arg 49, true), (.eq, .op2 .iand (.arg 0) (.int 63), .int 42, true), (.lt, .int 1, .arg 49, true), (.eq, .arg 1, .int 0, true), (.lt, .int 1, .arg 49, true), (.eq, .arg 1, .int 0, true), (.gt, .int 6, .sub (.arg 49) (.int 6), true)]) = true := by decide +kernel
theorem lf_42_1 : xfin (xev 70 20 xlaw 18 xlo0 [] xh0 [(.gt, .int 0, .sub (.arg 49) (.int 6), false), (.lt, .int 0, .arg 49, true), (.eq, .op2 .iand (.arg 0) (.int 63), .int 42, true), (.lt, .int 1, .arg 49, true), (.eq, .arg 1, .int 1, true), (.lt, .int 1, .arg 49, true), (.eq, .arg 1, .int 1, true), (.gt, .int 6, .sub (.arg 49) (.int 6), true)]) = true := by decide +kernel
theorem lf_42_2 : xfin (xev 70 20 xlaw 18 xlo0 [] xh0 [(.gt, .int 0, .sub (.arg 49) (.int 6), false), (.lt, .int 0, .arg 49, true), (.eq, .op2 .iand (.arg 0) (.int 63), .int 42, true), (.lt, .int 1, .arg 49, true), (.eq, .arg 1, .int 2, true), (.lt, .int 1, .arg 49, true), (.eq, .arg 1, .int 2, true), (.gt, .int 6, .sub (.arg 49) (.int 6), true)]) = true := by decide +kernel
theorem lf_42_3 : xfin (xev 71 20 xlaw 18 xlo0 [] xh0 [(.gt, .int 0, .sub (.arg 49) (.int 6), false), (.lt, .int 0, .arg 49, true), (.eq, .op2 .iand (.arg 0) (.int 63), .int 42, true), (.lt, .int 1, .arg 49, true), (.eq, .arg 1, .int 3, true), (.lt, .int 1, .arg 49, true), (.eq, .arg 1, .int 3, true), (.gt, .int 6, .sub (.arg 49) (.int 6), true)]) = true := by decide +kernel
theorem lf_42_4 : xfin (xev 71 20 xlaw 18 xlo0 [] xh0 [(.gt, .int 0, .sub (.arg 49) (.int 6), false), (.lt, .int 0, .arg 49, true), (.eq, .op2 .iand (.arg 0) (.int 63), .int 42, true), (.lt, .int 1, .arg 49, true), (.eq, .arg 1, .int 4, true), (.lt, .int 1, .arg 49, true), (.eq, .arg 1, .int 4, true), (.gt, .int 6, .sub (.arg 49) (.int 6), true)]) = true := by decide +kernel
theorem lf_42_5 : xfin (xev 70 20 xlaw 18 xlo0 [] xh0 [(.gt, .int 0, .sub (.arg 49) (.int 6), false), (.lt, .int 0, .arg 49, true), (.eq, .op2 .iand (.arg 0) (.int 63), .int 42, true), (.lt, .int 1, .arg 49, true), (.eq, .arg 1, .int 5, true), (.lt, .int 1, .arg 49, true), (.eq, .arg 1, .int 5, true), (.gt, .int 6, .sub (.arg 49) (.int 6), true)]) = true := by decide +kernel
theorem lf_42_6 : xfin (xev 71 20 xlaw 18 xlo0 [] xh0 [(.gt, .int 0, .sub (.arg 49) (.int 6), false), (.lt, .int 0, .arg 49, true), (.eq, .op2 .iand (.arg 0) (.int 63), .int 42, true), (.lt, .int 1, .arg 49, true), (.eq, .arg 1, .int 6, true), (.lt, .int 1, .arg 49, true), (.eq, .arg 1, .int 6, true), (.gt, .int 6, .sub (.arg 49) (.int 6), true)]) = true := by decide +kernel
theorem lf_42_7 : xfin (xev 71 20 xlaw 18 xlo0 [] xh0 [(.gt, .int 0, .sub (.arg 49) (.int 6), false), (.lt, .int 0, .arg 49, true), (.eq, .op2 .iand (.arg 0) (.int 63), .int 42, true), (.lt, .int 1, .arg 49, true), (.eq, .arg 1, .int 7, true), (.lt, .int 1, .arg 49, true), (.eq, .arg 1, .int 7, true), (.gt, .int 6, .sub (.arg 49) (.int 6), true)]) = true := by decide +kernel
theorem lf_42_8 : xfin (xev 69 20 xlaw 18 xlo0 [] xh0 [(.gt, .int 0, .sub (.arg 49) (.int 6), false), (.lt, .int 0, .arg 49, true), (.eq, .op2 .iand (.arg 0) (.int 63), .int 42, true), (.lt, .int 1, .arg 49, true), (.eq, .arg 1, .int 8, true), (.lt, .int 1, .arg 49, true), (.eq, .arg 1, .int 8, true), (.gt, .int 6, .sub (.arg 49) (.int 6), true)]) = true := by decide +kernel
theorem lf_42_9 : xfin (xev 70 20 xlaw 18 xlo0 [] xh0 [(.gt, .int 0, .sub (.arg 49) (.int 6), false), (.lt, .int 0, .arg 49, true), (.eq, .op2 .iand (.arg 0) (.int 63), .int 42, true), (.lt, .int 1, .arg 49, true), (.eq, .arg 1, .int 9, true), (.lt, .int 1, .arg 49, true), (.eq, .arg 1, .int 9, true), (.gt, .int 6, .sub (.arg 49) (.int 6), true)]) = true := by decide +kernel
theorem lf_42_10 : xfin (xev 93 20 xlaw 18 xlo0 [] xh0 [(.gt, .int 0, .sub (.arg 49) (.int 6), false), (.lt, .int 0, .arg 49, true), (.eq, .op2 .iand (.arg 0) (.int 63), .int 42, true), (.lt, .int 1, .arg 49, true), (.lt, .arg 1, .int 0, true), (.lt, .int 1, .arg 49, true), (.lt, .arg 1, .int 0, true), (.gt, .int 6, .sub (.arg 49) (.int 6), true)]) = true := by decide +kernel
theorem lf_42_11 : xfin (xev 93 20 xlaw 18 xlo0 [] xh0 [(.gt, .int 0, .sub (.arg 49) (.int 6), false), (.lt, .int 0, .arg 49, true), (.eq, .op2 .iand (.arg 0) (.int 63), .int 42, true), (.lt, .int 1, .arg 49, true), (.gt, .arg 1, .int 9, true), (.lt, .int 1, .arg 49, true), (.gt, .arg 1, .int 9, true), (.gt, .int 6, .sub (.arg 49) (.int 6), true)]) = true := by decide +kernel
set_option maxHeartbeats 4000000 in
theorem cv_42 {r : Nat → Value} (h49 : XI r (.arg 49) = 6) (hs : XI r (.sub (.arg 49) (.int 6)) = 0) (hk : XI r (.op2 .iand (.arg 0) (.int 63)) = 42) : ∃ (f : Nat) (E : List xB), (∀ q ∈ E, xhold r q) ∧ xfin (xev f 20 xlaw 18 xlo0 [] xh0 E) = true := by
  have h0 : ¬ (XI r (.sub (.arg 49) (.int 6)) < (0 : Int)) := by omega
  have h1 : (0 : Int) < XI r (.arg 49) := by omega
  have b0 : xhid (-2147483648 ≤ XI r (.arg 0)) := XI_lo r (.arg 0)
  have d0 : xhid (XI r (.arg 0) < 2147483648) := XI_hi r (.arg 0)
  have b1 : xhid (-2147483648 ≤ XI r (.arg 1)) := XI_lo r (.arg 1)
  have d1 : xhid (XI r (.arg 1) < 2147483648) := XI_hi r (.arg 1)
  have b2 : xhid (-2147483648 ≤ XI r (.arg 2)) := XI_lo r (.arg 2)
  have d2 : xhid (XI r (.arg 2) < 2147483648) := XI_hi r (.arg 2)
  have b3 : xhid (-2147483648 ≤ XI r (.arg 3)) := XI_lo r (.arg 3)
  have d3 : xhid (XI r (.arg 3) < 2147483648) := XI_hi r (.arg 3)
  have b4 : xhid (-2147483648 ≤ XI r (.arg 4)) := XI_lo r (.arg 4)
  have d4 : xhid (XI r (.arg 4) < 2147483648) := XI_hi r (.arg 4)
  have b5 : xhid (-2147483648 ≤ XI r (.arg 5)) := XI_lo r (.arg 5)
  have d5 : xhid (XI r (.arg 5) < 2147483648) := XI_hi r (.arg 5)
  have c1 : xhid ((1 : Int) < XI r (.arg 49)) := ((by have z0 : ¬ (XI r (.sub (.arg 49) (.int 6)) < (0 : Int)) := h0; omega) : (1 : Int) < XI r (.arg 49))
  refine (Classical.em (XI r (.arg 1) = (0 : Int))).elim (fun (c2 : xhid (XI r (.arg 1) = (0 : Int))) => ?_) (fun (c2 : xhid (¬ (XI r (.arg 1) = (0 : Int)))) => ?_)
  ·
    have c3 : xhid ((1 : Int) < XI r (.arg 49)) := ((by have z0 : (1 : Int) < XI r (.arg 49) := c1; omega) : (1 : Int) < XI r (.arg 49))
    have c4 : xhid (XI r (.sub (.arg 49) (.int 6)) < (6 : Int)) := ((by omega) : XI r (.sub (.arg 49) (.int 6)) < (6 : Int))
    refine ⟨70, _, ?_, lf_42_0⟩
    refine xc_cons (xh_gt_F (XI_lit (by decide +kernel)) rfl h0) ?_
    refine xc_cons (xh_lt_T (XI_lit (by decide +kernel)) rfl h1) ?_
    refine xc_cons (xh_eq_T rfl (XI_lit (by decide +kernel)) hk) ?_
    refine xc_cons (xh_lt_T (XI_lit (by decide +kernel)) rfl c1) ?_
    refine xc_cons (xh_eq_T rfl (XI_lit (by decide +kernel)) c2) ?_
    refine xc_cons (xh_lt_T (XI_lit (by decide +kernel)) rfl c3) ?_
    refine xc_cons (xh_eq_T rfl (XI_lit (by decide +kernel)) c2) ?_
    refine xc_cons (xh_gt_T (XI_lit (by decide +kernel)) rfl c4) ?_
    exact xc_nil
  refine (Classical.em (XI r (.arg 1) = (1 : Int))).elim (fun (c5 : xhid (XI r (.arg 1) = (1 : Int))) => ?_) (fun (c5 : xhid (¬ (XI r (.arg 1) = (1 : Int)))) => ?_)
  ·
    have c6 : xhid ((1 : Int) < XI r (.arg 49)) := ((by have z0 : (1 : Int) < XI r (.arg 49) := c1; omega) : (1 : Int) < XI r (.arg 49))
    have c7 : xhid (XI r (.sub (.arg 49) (.int 6)) < (6 : Int)) := ((by omega) : XI r (.sub (.arg 49) (.int 6)) < (6 : Int))
    refine ⟨70, _, ?_, lf_42_1⟩
    refine xc_cons (xh_gt_F (XI_lit (by decide +kernel)) rfl h0) ?_
    refine xc_cons (xh_lt_T (XI_lit (by decide +kernel)) rfl h1) ?_
    refine xc_cons (xh_eq_T rfl (XI_lit (by decide +kernel)) hk) ?_
    refine xc_cons (xh_lt_T (XI_lit (by decide +kernel)) rfl c1) ?_
    refine xc_cons (xh_eq_T rfl (XI_lit (by decide +kernel)) c5) ?_
    refine xc_cons (xh_lt_T (XI_lit (by decide +kernel)) rfl c6) ?_
    refine xc_cons (xh_eq_T rfl (XI_lit (by decide +kernel)) c5) ?_
    refine xc_cons (xh_gt_T (XI_lit (by decide +kernel)) rfl c7) ?_
    exact xc_nil
  refine (Classical.em (XI r (.arg 1) = (2 : Int))).elim (fun (c8 : xhid (XI r (.arg 1) = (2 : Int))) => ?_) (fun (c8 : xhid (¬ (XI r (.arg 1) = (2 : Int)))) => ?_)
  ·
    have c9 : xhid ((1 : Int) < XI r (.arg 49)) := ((by have z0 : (1 : Int) < XI r (.arg 49) := c1; omega) : (1 : Int) < XI r (.arg 49))
    have c10 : xhid (XI r (.sub (.arg 49) (.int 6)) < (6 : Int)) := ((by omega) : XI r (.sub (.arg 49) (.int 6)) < (6 : Int))
    refine ⟨70, _, ?_, lf_42_2⟩
    refine xc_cons (xh_gt_F (XI_lit (by decide +kernel)) rfl h0) ?_
    refine xc_cons (xh_lt_T (XI_lit (by decide +kernel)) rfl h1) ?_
    refine xc_cons (xh_eq_T rfl (XI_lit (by decide +kernel)) hk) ?_
    refine xc_cons (xh_lt_T (XI_lit (by decide +kernel)) rfl c1) ?_
    refine xc_cons (xh_eq_T rfl (XI_lit (by decide +kernel)) c8) ?_
    refine xc_cons (xh_lt_T (XI_lit (by decide +kernel)) rfl c9) ?_
    refine xc_cons (xh_eq_T rfl (XI_lit (by decide +kernel)) c8) ?_
    refine xc_cons (xh_gt_T (XI_lit (by decide +kernel)) rfl c10) ?_
    exact xc_nil
  refine (Classical.em (XI r (.arg 1) = (3 : Int))).elim (fun (c11 : xhid (XI r (.arg 1) = (3 : Int))) => ?_) (fun (c11 : xhid (¬ (XI r (.arg 1) = (3 : Int)))) => ?_)
  ·
    have c12 : xhid ((1 : Int) < XI r (.arg 49)) := ((by have z0 : (1 : Int) < XI r (.arg 49) := c1; omega) : (1 : Int) < XI r (.arg 49))
    have c13 : xhid (XI r (.sub (.arg 49) (.int 6)) < (6 : Int)) := ((by omega) : XI r (.sub (.arg 49) (.int 6)) < (6 : Int))
    refine ⟨71, _, ?_, lf_42_3⟩
    refine xc_cons (xh_gt_F (XI_lit (by decide +kernel)) rfl h0) ?_
    refine xc_cons (xh_lt_T (XI_lit (by decide +kernel)) rfl h1) ?_
    refine xc_cons (xh_eq_T rfl (XI_lit (by decide +kernel)) hk) ?_
    refine xc_cons (xh_lt_T (XI_lit (by decide +kernel)) rfl c1) ?_
    refine xc_cons (xh_eq_T rfl (XI_lit (by decide +kernel)) c11) ?_
    refine xc_cons (xh_lt_T (XI_lit (by decide +kernel)) rfl c12) ?_
    refine xc_cons (xh_eq_T rfl (XI_lit (by decide +kernel)) c11) ?_
    refine xc_cons (xh_gt_T (XI_lit (by decide +kernel)) rfl c13) ?_
    exact xc_nil
  refine (Classical.em (XI r (.arg 1) = (4 : Int))).elim (fun (c14 : xhid (XI r (.arg 1) = (4 : Int))) => ?_) (fun (c14 : xhid (¬ (XI r (.arg 1) = (4 : Int)))) => ?_)
  ·
    have c15 : xhid ((1 : Int) < XI r (.arg 49)) := ((by have z0 : (1 : Int) < XI r (.arg 49) := c1; omega) : (1 : Int) < XI r (.arg 49))
    have c16 : xhid (XI r (.sub (.arg 49) (.int 6)) < (6 : Int)) := ((by omega) : XI r (.sub (.arg 49) (.int 6)) < (6 : Int))
    refine ⟨71, _, ?_, lf_42_4⟩
    refine xc_cons (xh_gt_F (XI_lit (by decide +kernel)) rfl h0) ?_
    refine xc_cons (xh_lt_T (XI_lit (by decide +kernel)) rfl h1) ?_
    refine xc_cons (xh_eq_T rfl (XI_lit (by decide +kernel)) hk) ?_
    refine xc_cons (xh_lt_T (XI_lit (by decide +kernel)) rfl c1) ?_
    refine xc_cons (xh_eq_T rfl (XI_lit (by decide +kernel)) c14) ?_
    refine xc_cons (xh_lt_T (XI_lit (by decide +kernel)) rfl c15) ?_
    refine xc_cons (xh_eq_T rfl (XI_lit (by decide +kernel)) c14) ?_
    refine xc_cons (xh_gt_T (XI_lit (by decide +kernel)) rfl c16) ?_
    exact xc_nil
  refine (Classical.em (XI r (.arg 1) = (5 : Int))).elim (fun (c17 : xhid (XI r (.arg 1) = (5 : Int))) => ?_) (fun (c17 : xhid (¬ (XI r (.arg 1) = (5 : Int)))) => ?_)
  ·
    have c18 : xhid ((1 : Int) < XI r (.arg 49)) := ((by have z0 : (1 : Int) < XI r (.arg 49) := c1; omega) : (1 : Int) < XI r (.arg 49))
    have c19 : xhid (XI r (.sub (.arg 49) (.int 6)) < (6 : Int)) := ((by omega) : XI r (.sub (.arg 49) (.int 6)) < (6 : Int))
    refine ⟨70, _, ?_, lf_42_5⟩
    refine xc_cons (xh_gt_F (XI_lit (by decide +kernel)) rfl h0) ?_
    refine xc_cons (xh_lt_T (XI_lit (by decide +kernel)) rfl h1) ?_
    refine xc_cons (xh_eq_T rfl (XI_lit (by decide +kernel)) hk) ?_
    refine xc_cons (xh_lt_T (XI_lit (by decide +kernel)) rfl c1) ?_
    refine xc_cons (xh_eq_T rfl (XI_lit (by decide +kernel)) c17) ?_
    refine xc_cons (xh_lt_T (XI_lit (by decide +kernel)) rfl c18) ?_
    refine xc_cons (xh_eq_T rfl (XI_lit (by decide +kernel)) c17) ?_
    refine xc_cons (xh_gt_T (XI_lit (by decide +kernel)) rfl c19) ?_
    exact xc_nil
  refine (Classical.em (XI r (.arg 1) = (6 : Int))).elim (fun (c20 : xhid (XI r (.arg 1) = (6 : Int))) => ?_) (fun (c20 : xhid (¬ (XI r (.arg 1) = (6 : Int)))) => ?_)
  ·
    have c21 : xhid ((1 : Int) < XI r (.arg 49)) := ((by have z0 : (1 : Int) < XI r (.arg 49) := c1; omega) : (1 : Int) < XI r (.arg 49))
    have c22 : xhid (XI r (.sub (.arg 49) (.int 6)) < (6 : Int)) := ((by omega) : XI r (.sub (.arg 49) (.int 6)) < (6 : Int))
    refine ⟨71, _, ?_, lf_42_6⟩
    refine xc_cons (xh_gt_F (XI_lit (by decide +kernel)) rfl h0) ?_
    refine xc_cons (xh_lt_T (XI_lit (by decide +kernel)) rfl h1) ?_
    refine xc_cons (xh_eq_T rfl (XI_lit (by decide +kernel)) hk) ?_
    refine xc_cons (xh_lt_T (XI_lit (by decide +kernel)) rfl c1) ?_
    refine xc_cons (xh_eq_T rfl (XI_lit (by decide +kernel)) c20) ?_
    refine xc_cons (xh_lt_T (XI_lit (by decide +kernel)) rfl c21) ?_
    refine xc_cons (xh_eq_T rfl (XI_lit (by decide +kernel)) c20) ?_
    refine xc_cons (xh_gt_T (XI_lit (by decide +kernel)) rfl c22) ?_
    exact xc_nil
  refine (Classical.em (XI r (.arg 1) = (7 : Int))).elim (fun (c23 : xhid (XI r (.arg 1) = (7 : Int))) => ?_) (fun (c23 : xhid (¬ (XI r (.arg 1) = (7 : Int)))) => ?_)
  ·
    have c24 : xhid ((1 : Int) < XI r (.arg 49)) := ((by have z0 : (1 : Int) < XI r (.arg 49) := c1; omega) : (1 : Int) < XI r (.arg 49))
    have c25 : xhid (XI r (.sub (.arg 49) (.int 6)) < (6 : Int)) := ((by omega) : XI r (.sub (.arg 49) (.int 6)) < (6 : Int))
    refine ⟨71, _, ?_, lf_42_7⟩
    refine xc_cons (xh_gt_F (XI_lit (by decide +kernel)) rfl h0) ?_
    refine xc_cons (xh_lt_T (XI_lit (by decide +kernel)) rfl h1) ?_
    refine xc_cons (xh_eq_T rfl (XI_lit (by decide +kernel)) hk) ?_
    refine xc_cons (xh_lt_T (XI_lit (by decide +kernel)) rfl c1) ?_
    refine xc_cons (xh_eq_T rfl (XI_lit (by decide +kernel)) c23) ?_
    refine xc_cons (xh_lt_T (XI_lit (by decide +kernel)) rfl c24) ?_
    refine xc_cons (xh_eq_T rfl (XI_lit (by decide +kernel)) c23) ?_
    refine xc_cons (xh_gt_T (XI_lit (by decide +kernel)) rfl c25) ?_
    exact xc_nil
  refine (Classical.em (XI r (.arg 1) = (8 : Int))).elim (fun (c26 : xhid (XI r (.arg 1) = (8 : Int))) => ?_) (fun (c26 : xhid (¬ (XI r (.arg 1) = (8 : Int)))) => ?_)
  ·
    have c27 : xhid ((1 : Int) < XI r (.arg 49)) := ((by have z0 : (1 : Int) < XI r (.arg 49) := c1; omega) : (1 : Int) < XI r (.arg 49))
    have c28 : xhid (XI r (.sub (.arg 49) (.int 6)) < (6 : Int)) := ((by omega) : XI r (.sub (.arg 49) (.int 6)) < (6 : Int))
    refine ⟨69, _, ?_, lf_42_8⟩
    refine xc_cons (xh_gt_F (XI_lit (by decide +kernel)) rfl h0) ?_
    refine xc_cons (xh_lt_T (XI_lit (by decide +kernel)) rfl h1) ?_
    refine xc_cons (xh_eq_T rfl (XI_lit (by decide +kernel)) hk) ?_
    refine xc_cons (xh_lt_T (XI_lit (by decide +kernel)) rfl c1) ?_
    refine xc_cons (xh_eq_T rfl (XI_lit (by decide +kernel)) c26) ?_
    refine xc_cons (xh_lt_T (XI_lit (by decide +kernel)) rfl c27) ?_
    refine xc_cons (xh_eq_T rfl (XI_lit (by decide +kernel)) c26) ?_
    refine xc_cons (xh_gt_T (XI_lit (by decide +kernel)) rfl c28) ?_
    exact xc_nil
  refine (Classical.em (XI r (.arg 1) = (9 : Int))).elim (fun (c29 : xhid (XI r (.arg 1) = (9 : Int))) => ?_) (fun (c29 : xhid (¬ (XI r (.arg 1) = (9 : Int)))) => ?_)
  ·
    have c30 : xhid ((1 : Int) < XI r (.arg 49)) := ((by have z0 : (1 : Int) < XI r (.arg 49) := c1; omega) : (1 : Int) < XI r (.arg 49))
    have c31 : xhid (XI r (.sub (.arg 49) (.int 6)) < (6 : Int)) := ((by omega) : XI r (.sub (.arg 49) (.int 6)) < (6 : Int))
    refine ⟨70, _, ?_, lf_42_9⟩
    refine xc_cons (xh_gt_F (XI_lit (by decide +kernel)) rfl h0) ?_
    refine xc_cons (xh_lt_T (XI_lit (by decide +kernel)) rfl h1) ?_
    refine xc_cons (xh_eq_T rfl (XI_lit (by decide +kernel)) hk) ?_
    refine xc_cons (xh_lt_T (XI_lit (by decide +kernel)) rfl c1) ?_
    refine xc_cons (xh_eq_T rfl (XI_lit (by decide +kernel)) c29) ?_
    refine xc_cons (xh_lt_T (XI_lit (by decide +kernel)) rfl c30) ?_
    refine xc_cons (xh_eq_T rfl (XI_lit (by decide +kernel)) c29) ?_
    refine xc_cons (xh_gt_T (XI_lit (by decide +kernel)) rfl c31) ?_
    exact xc_nil
  refine (Classical.em (XI r (.arg 1) < (0 : Int))).elim (fun (c32 : xhid (XI r (.arg 1) < (0 : Int))) => ?_) (fun (c32 : xhid (¬ (XI r (.arg 1) < (0 : Int)))) => ?_)
  ·
    have c33 : xhid ((1 : Int) < XI r (.arg 49)) := ((by have z0 : (1 : Int) < XI r (.arg 49) := c1; omega) : (1 : Int) < XI r (.arg 49))
    refine (Classical.em (XI r (.arg 1) < (0 : Int))).elim (fun (c34 : xhid (XI r (.arg 1) < (0 : Int))) => ?_) (fun (c34 : xhid (¬ (XI r (.arg 1) < (0 : Int)))) => ?_)
    ·
      have c35 : xhid (XI r (.sub (.arg 49) (.int 6)) < (6 : Int)) := ((by omega) : XI r (.sub (.arg 49) (.int 6)) < (6 : Int))
      refine ⟨93, _, ?_, lf_42_10⟩
      refine xc_cons (xh_gt_F (XI_lit (by decide +kernel)) rfl h0) ?_
      refine xc_cons (xh_lt_T (XI_lit (by decide +kernel)) rfl h1) ?_
      refine xc_cons (xh_eq_T rfl (XI_lit (by decide +kernel)) hk) ?_
      refine xc_cons (xh_lt_T (XI_lit (by decide +kernel)) rfl c1) ?_
      refine xc_cons (xh_lt_T rfl (XI_lit (by decide +kernel)) c32) ?_
      refine xc_cons (xh_lt_T (XI_lit (by decide +kernel)) rfl c33) ?_
      refine xc_cons (xh_lt_T rfl (XI_lit (by decide +kernel)) c34) ?_
      refine xc_cons (xh_gt_T (XI_lit (by decide +kernel)) rfl c35) ?_
      exact xc_nil
    refine (Classical.em ((9 : Int) < XI r (.arg 1))).elim (fun (c36 : xhid ((9 : Int) < XI r (.arg 1))) => ?_) (fun (c36 : xhid (¬ ((9 : Int) < XI r (.arg 1)))) => ?_)
    ·
      exact ((by have z0 : ¬ (XI r (.sub (.arg 49) (.int 6)) < (0 : Int)) := h0; have z1 : (0 : Int) < XI r (.arg 49) := h1; have z2 : XI r (.op2 .iand (.arg 0) (.int 63)) = (42 : Int) := hk; have z3 : (1 : Int) < XI r (.arg 49) := c1; have z4 : XI r (.arg 1) < (0 : Int) := c32; have z5 : (1 : Int) < XI r (.arg 49) := c33; have z6 : ¬ (XI r (.arg 1) = (0 : Int)) := c2; have z7 : ¬ (XI r (.arg 1) = (1 : Int)) := c5; have z8 : ¬ (XI r (.arg 1) = (2 : Int)) := c8; have z9 : ¬ (XI r (.arg 1) = (3 : Int)) := c11; have z10 : ¬ (XI r (.arg 1) = (4 : Int)) := c14; have z11 : ¬ (XI r (.arg 1) = (5 : Int)) := c17; have z12 : ¬ (XI r (.arg 1) = (6 : Int)) := c20; have z13 : ¬ (XI r (.arg 1) = (7 : Int)) := c23; have z14 : ¬ (XI r (.arg 1) = (8 : Int)) := c26; have z15 : ¬ (XI r (.arg 1) = (9 : Int)) := c29; have z16 : ¬ (XI r (.arg 1) < (0 : Int)) := c34; have z17 : (9 : Int) < XI r (.arg 1) := c36; have z18 : -2147483648 ≤ XI r (.arg 0) := b0; have z19 : XI r (.arg 0) < 2147483648 := d0; have z20 : -2147483648 ≤ XI r (.arg 1) := b1; have z21 : XI r (.arg 1) < 2147483648 := d1; omega) : False).elim
    exact ((by have z0 : ¬ (XI r (.sub (.arg 49) (.int 6)) < (0 : Int)) := h0; have z1 : (0 : Int) < XI r (.arg 49) := h1; have z2 : XI r (.op2 .iand (.arg 0) (.int 63)) = (42 : Int) := hk; have z3 : (1 : Int) < XI r (.arg 49) := c1; have z4 : XI r (.arg 1) < (0 : Int) := c32; have z5 : (1 : Int) < XI r (.arg 49) := c33; have z6 : ¬ (XI r (.arg 1) = (0 : Int)) := c2; have z7 : ¬ (XI r (.arg 1) = (1 : Int)) := c5; have z8 : ¬ (XI r (.arg 1) = (2 : Int)) := c8; have z9 : ¬ (XI r (.arg 1) = (3 : Int)) := c11; have z10 : ¬ (XI r (.arg 1) = (4 : Int)) := c14; have z11 : ¬ (XI r (.arg 1) = (5 : Int)) := c17; have z12 : ¬ (XI r (.arg 1) = (6 : Int)) := c20; have z13 : ¬ (XI r (.arg 1) = (7 : Int)) := c23; have z14 : ¬ (XI r (.arg 1) = (8 : Int)) := c26; have z15 : ¬ (XI r (.arg 1) = (9 : Int)) := c29; have z16 : ¬ (XI r (.arg 1) < (0 : Int)) := c34; have z17 : ¬ ((9 : Int) < XI r (.arg 1)) := c36; have z18 : -2147483648 ≤ XI r (.arg 0) := b0; have z19 : XI r (.arg 0) < 2147483648 := d0; have z20 : -2147483648 ≤ XI r (.arg 1) := b1; have z21 : XI r (.arg 1) < 2147483648 := d1; omega) : False).elim
  refine (Classical.em ((9 : Int) < XI r (.arg 1))).elim (fun (c37 : xhid ((9 : Int) < XI r (.arg 1))) => ?_) (fun (c37 : xhid (¬ ((9 : Int) < XI r (.arg 1)))) => ?_)
  ·
    have c38 : xhid ((1 : Int) < XI r (.arg 49)) := ((by have z0 : (1 : Int) < XI r (.arg 49) := c1; omega) : (1 : Int) < XI r (.arg 49))
    refine (Classical.em (XI r (.arg 1) < (0 : Int))).elim (fun (c39 : xhid (XI r (.arg 1) < (0 : Int))) => ?_) (fun (c39 : xhid (¬ (XI r (.arg 1) < (0 : Int)))) => ?_)
    ·
      exact ((by have z0 : ¬ (XI r (.sub (.arg 49) (.int 6)) < (0 : Int)) := h0; have z1 : (0 : Int) < XI r (.arg 49) := h1; have z2 : XI r (.op2 .iand (.arg 0) (.int 63)) = (42 : Int) := hk; have z3 : (1 : Int) < XI r (.arg 49) := c1; have z4 : (9 : Int) < XI r (.arg 1) := c37; have z5 : (1 : Int) < XI r (.arg 49) := c38; have z6 : ¬ (XI r (.arg 1) = (0 : Int)) := c2; have z7 : ¬ (XI r (.arg 1) = (1 : Int)) := c5; have z8 : ¬ (XI r (.arg 1) = (2 : Int)) := c8; have z9 : ¬ (XI r (.arg 1) = (3 : Int)) := c11; have z10 : ¬ (XI r (.arg 1) = (4 : Int)) := c14; have z11 : ¬ (XI r (.arg 1) = (5 : Int)) := c17; have z12 : ¬ (XI r (.arg 1) = (6 : Int)) := c20; have z13 : ¬ (XI r (.arg 1) = (7 : Int)) := c23; have z14 : ¬ (XI r (.arg 1) = (8 : Int)) := c26; have z15 : ¬ (XI r (.arg 1) = (9 : Int)) := c29; have z16 : ¬ (XI r (.arg 1) < (0 : Int)) := c32; have z17 : XI r (.arg 1) < (0 : Int) := c39; have z18 : -2147483648 ≤ XI r (.arg 0) := b0; have z19 : XI r (.arg 0) < 2147483648 := d0; have z20 : -2147483648 ≤ XI r (.arg 1) := b1; have z21 : XI r (.arg 1) < 2147483648 := d1; omega) : False).elim
    refine (Classical.em ((9 : Int) < XI r (.arg 1))).elim (fun (c40 : xhid ((9 : Int) < XI r (.arg 1))) => ?_) (fun (c40 : xhid (¬ ((9 : Int) < XI r (.arg 1)))) => ?_)
    ·
      have c41 : xhid (XI r (.sub (.arg 49) (.int 6)) < (6 : Int)) := ((by omega) : XI r (.sub (.arg 49) (.int 6)) < (6 : Int))
      refine ⟨93, _, ?_, lf_42_11⟩
      refine xc_cons (xh_gt_F (XI_lit (by decide +kernel)) rfl h0) ?_
      refine xc_cons (xh_lt_T (XI_lit (by decide +kernel)) rfl h1) ?_
      refine xc_cons (xh_eq_T rfl (XI_lit (by decide +kernel)) hk) ?_
      refine xc_cons (xh_lt_T (XI_lit (by decide +kernel)) rfl c1) ?_
      refine xc_cons (xh_gt_T rfl (XI_lit (by decide +kernel)) c37) ?_
      refine xc_cons (xh_lt_T (XI_lit (by decide +kernel)) rfl c38) ?_
      refine xc_cons (xh_gt_T rfl (XI_lit (by decide +kernel)) c40) ?_
      refine xc_cons (xh_gt_T (XI_lit (by decide +kernel)) rfl c41) ?_
      exact xc_nil
    exact ((by have z0 : ¬ (XI r (.sub (.arg 49) (.int 6)) < (0 : Int)) := h0; have z1 : (0 : Int) < XI r (.arg 49) := h1; have z2 : XI r (.op2 .iand (.arg 0) (.int 63)) = (42 : Int) := hk; have z3 : (1 : Int) < XI r (.arg 49) := c1; have z4 : (9 : Int) < XI r (.arg 1) := c37; have z5 : (1 : Int) < XI r (.arg 49) := c38; have z6 : ¬ (XI r (.arg 1) = (0 : Int)) := c2; have z7 : ¬ (XI r (.arg 1) = (1 : Int)) := c5; have z8 : ¬ (XI r (.arg 1) = (2 : Int)) := c8; have z9 : ¬ (XI r (.arg 1) = (3 : Int)) := c11; have z10 : ¬ (XI r (.arg 1) = (4 : Int)) := c14; have z11 : ¬ (XI r (.arg 1) = (5 : Int)) := c17; have z12 : ¬ (XI r (.arg 1) = (6 : Int)) := c20; have z13 : ¬ (XI r (.arg 1) = (7 : Int)) := c23; have z14 : ¬ (XI r (.arg 1) = (8 : Int)) := c26; have z15 : ¬ (XI r (.arg 1) = (9 : Int)) := c29; have z16 : ¬ (XI r (.arg 1) < (0 : Int)) := c32; have z17 : ¬ (XI r (.arg 1) < (0 : Int)) := c39; have z18 : ¬ ((9 : Int) < XI r (.arg 1)) := c40; have z19 : -2147483648 ≤ XI r (.arg 0) := b0; have z20 : XI r (.arg 0) < 2147483648 := d0; have z21 : -2147483648 ≤ XI r (.arg 1) := b1; have z22 : XI r (.arg 1) < 2147483648 := d1; omega) : False).elim
  exact ((by have z0 : ¬ (XI r (.sub (.arg 49) (.int 6)) < (0 : Int)) := h0; have z1 : (0 : Int) < XI r (.arg 49) := h1; have z2 : XI r (.op2 .iand (.arg 0) (.int 63)) = (42 : Int) := hk; have z3 : (1 : Int) < XI r (.arg 49) := c1; have z4 : ¬ (XI r (.arg 1) = (0 : Int)) := c2; have z5 : ¬ (XI r (.arg 1) = (1 : Int)) := c5; have z6 : ¬ (XI r (.arg 1) = (2 : Int)) := c8; have z7 : ¬ (XI r (.arg 1) = (3 : Int)) := c11; have z8 : ¬ (XI r (.arg 1) = (4 : Int)) := c14; have z9 : ¬ (XI r (.arg 1) = (5 : Int)) := c17; have z10 : ¬ (XI r (.arg 1) = (6 : Int)) := c20; have z11 : ¬ (XI r (.arg 1) = (7 : Int)) := c23; have z12 : ¬ (XI r (.arg 1) = (8 : Int)) := c26; have z13 : ¬ (XI r (.arg 1) = (9 : Int)) := c29; have z14 : ¬ (XI r (.arg 1) < (0 : Int)) := c32; have z15 : ¬ ((9 : Int) < XI r (.arg 1)) := c37; have z16 : -2147483648 ≤ XI r (.arg 0) := b0; have z17 : XI r (.arg 0) < 2147483648 := d0; have z18 : -2147483648 ≤ XI r (.arg 1) := b1; have z19 : XI r (.arg 1) < 2147483648 := d1; omega) : False).elim
theorem lf_43_0 : xfin (xev 88 20 xlaw 18 xlo0 [] xh0 [(.gt, .int 0, .sub (.arg 49) (.int 6), false), (.lt, .int 0, .arg 49, true), (.eq, .op2 .iand (.arg 0) (.int 63), .int 43, true), (.lt, .int 1, .arg 49, true), (.eq, .arg 1, .int 1, true), (.lt, .int 1, .arg 49, true), (.eq, .arg 1, .int 1, true), (.gt, .int 6, .sub (.arg 49) (.int 6), true)]) = true := by decide +kernel
theorem lf_43_1 : xfin (xev 88 20 xlaw 18 xlo0 [] xh0 [(.gt, .int 0, .sub (.arg 49) (.int 6), false), (.lt, .int 0, .arg 49, true), (.eq, .op2 .iand (.arg 0) (.int 63), .int 43, true), (.lt, .int 1, .arg 49, true), (.eq, .arg 1, .int 2, true), (.lt, .int 1, .arg 49, true), (.eq, .arg 1, .int 2, true), (.gt, .int 6, .sub (.arg 49) (.int 6), true)]) = true := by decide +kernel
theorem lf_43_2 : xfin (xev 88 20 xlaw 18 xlo0 [] xh0 [(.gt, .int 0, .sub (.arg 49) (.int 6), false), (.lt, .int 0, .arg 49, true), (.eq, .op2 .iand (.arg 0) (.int 63), .int 43, true), (.lt, .int 1, .arg 49, true), (.eq, .arg 1, .int 3, true), (.lt, .int 1, .arg 49, true), (.eq, .arg 1, .int 3, true), (.gt, .int 6, .sub (.arg 49) (.int 6), true)]) = true := by decide +kernel
theorem lf_43_3 : xfin (xev 88 20 xlaw 18 xlo0 [] xh0 [(.gt, .int 0, .sub (.arg 49) (.int 6), false), (.lt, .int 0, .arg 49, true), (.eq, .op2 .iand (.arg 0) (.int 63), .int 43, true), (.lt, .int 1, .arg 49, true), (.eq, .arg 1, .int 4, true), (.lt, .int 1, .arg 49, true), (.eq, .arg 1, .int 4, true), (.gt, .int 6, .sub (.arg 49) (.int 6), true)]) = true := by decide +kernel
theorem lf_43_4 : xfin (xev 88 20 xlaw 18 xlo0 [] xh0 [(.gt, .int 0, .sub (.arg 49) (.int 6), false), (.lt, .int 0, .arg 49, true), (.eq, .op2 .iand (.arg 0) (.int 63), .int 43, true), (.lt, .int 1, .arg 49, true), (.eq, .arg 1, .int 5, true), (.lt, .int 1, .arg 49, true), (.eq, .arg 1, .int 5, true), (.gt, .int 6, .sub (.arg 49) (.int 6), true)]) = true := by decide +kernel
theorem lf_43_5 : xfin (xev 88 20 xlaw 18 xlo0 [] xh0 [(.gt, .int 0, .sub (.arg 49) (.int 6), false), (.lt, .int 0, .arg 49, true), (.eq, .op2 .iand (.arg 0) (.int 63), .int 43, true), (.lt, .int 1, .arg 49, true), (.eq, .arg 1, .int 6, true), (.lt, .int 1, .arg 49, true), (.eq, .arg 1, .int 6, true), (.gt, .int 6, .sub (.arg 49) (.int 6), true)]) = true := by decide +kernel
theorem lf_43_6 : xfin (xev 102 20 xlaw 18 xlo0 [] xh0 [(.gt, .int 0, .sub (.arg 49) (.int 6), false), (.lt, .int 0, .arg 49, true), (.eq, .op2 .iand (.arg 0) (.int 63), .int 43, true), (.lt, .int 1, .arg 49, true), (.lt, .arg 1, .int 1, true), (.lt, .int 1, .arg 49, true), (.lt, .arg 1, .int 1, true), (.gt, .int 6, .sub (.arg 49) (.int 6), true)]) = true := by decide +kernel
theorem lf_43_7 : xfin (xev 108 20 xlaw 18 xlo0 [] xh0 [(.gt, .int 0, .sub (.arg 49) (.int 6), false), (.lt, .int 0, .arg 49, true), (.eq, .op2 .iand (.arg 0) (.int 63), .int 43, true), (.lt, .int 1, .arg 49, true), (.lt, .arg 1, .int 1, false), (.le, .arg 1, .int 6, false), (.lt, .int 1, .arg 49, true), (.lt, .arg 1, .int 1, false), (.gt, .arg 1, .int 6, true), (.gt, .int 6, .sub (.arg 49) (.int 6), true)]) = true := by decide +kernel
set_option maxHeartbeats 4000000 in
theorem cv_43 {r : Nat → Value} (h49 : XI r (.arg 49) = 6) (hs : XI r (.sub (.arg 49) (.int 6)) = 0) (hk : XI r (.op2 .iand (.arg 0) (.int 63)) = 43) : ∃ (f : Nat) (E : List xB), (∀ q ∈ E, xhold r q) ∧ xfin (xev f 20 xlaw 18 xlo0 [] xh0 E) = true := by
  have h0 : ¬ (XI r (.sub (.arg 49) (.int 6)) < (0 : Int)) := by omega
  have h1 : (0 : Int) < XI r (.arg 49) := by omega
  have b0 : xhid (-2147483648 ≤ XI r (.arg 0)) := XI_lo r (.arg 0)
  have d0 : xhid (XI r (.arg 0) < 2147483648) := XI_hi r (.arg 0)
  have b1 : xhid (-2147483648 ≤ XI r (.arg 1)) := XI_lo r (.arg 1)
  have d1 : xhid (XI r (.arg 1) < 2147483648) := XI_hi r (.arg 1)
  have b2 : xhid (-2147483648 ≤ XI r (.arg 2)) := XI_lo r (.arg 2)
  have d2 : xhid (XI r (.arg 2) < 2147483648) := XI_hi r (.arg 2)
  have b3 : xhid (-2147483648 ≤ XI r (.arg 3)) := XI_lo r (.arg 3)
  have d3 : xhid (XI r (.arg 3) < 2147483648) := XI_hi r (.arg 3)
  have b4 : xhid (-2147483648 ≤ XI r (.arg 4)) := XI_lo r (.arg 4)
  have d4 : xhid (XI r (.arg 4) < 2147483648) := XI_hi r (.arg 4)
  have b5 : xhid (-2147483648 ≤ XI r (.arg 5)) := XI_lo r (.arg 5)
  have d5 : xhid (XI r (.arg 5) < 2147483648) := XI_hi r (.arg 5)
  have c1 : xhid ((1 : Int) < XI r (.arg 49)) := ((by have z0 : ¬ (XI r (.sub (.arg 49) (.int 6)) < (0 : Int)) := h0; omega) : (1 : Int) < XI r (.arg 49))
  refine (Classical.em (XI r (.arg 1) = (1 : Int))).elim (fun (c2 : xhid (XI r (.arg 1) = (1 : Int))) => ?_) (fun (c2 : xhid (¬ (XI r (.arg 1) = (1 : Int)))) => ?_)
  ·
    have c3 : xhid ((1 : Int) < XI r (.arg 49)) := ((by have z0 : (1 : Int) < XI r (.arg 49) := c1; omega) : (1 : Int) < XI r (.arg 49))
    have c4 : xhid (XI r (.sub (.arg 49) (.int 6)) < (6 : Int)) := ((by omega) : XI r (.sub (.arg 49) (.int 6)) < (6 : Int))
    refine ⟨88, _, ?_, lf_43_0⟩
    refine xc_cons (xh_gt_F (XI_lit (by decide +kernel)) rfl h0) ?_
    refine xc_cons (xh_lt_T (XI_lit (by decide +kernel)) rfl h1) ?_
    refine xc_cons (xh_eq_T rfl (XI_lit (by decide +kernel)) hk) ?_
    refine xc_cons (xh_lt_T (XI_lit (by decide +kernel)) rfl c1) ?_
    refine xc_cons (xh_eq_T rfl (XI_lit (by decide +kernel)) c2) ?_
    refine xc_cons (xh_lt_T (XI_lit (by decide +kernel)) rfl c3) ?_
    refine xc_cons (xh_eq_T rfl (XI_lit (by decide +kernel)) c2) ?_
    refine xc_cons (xh_gt_T (XI_lit (by decide +kernel)) rfl c4) ?_
    exact xc_nil
  refine (Classical.em (XI r (.arg 1) = (2 : Int))).elim (fun (c5 : xhid (XI r (.arg 1) = (2 : Int))) => ?_) (fun (c5 : xhid (¬ (XI r (.arg 1) = (2 : Int)))) => ?_)
  ·
    have c6 : xhid ((1 : Int) < XI r (.arg 49)) := ((by have z0 : (1 : Int) < XI r (.arg 49) := c1; omega) : (1 : Int) < XI r (.arg 49))
    have c7 : xhid (XI r (.sub (.arg 49) (.int 6)) < (6 : Int)) := ((by omega) : XI r (.sub (.arg 49) (.int 6)) < (6 : Int))
    refine ⟨88, _, ?_, lf_43_1⟩
    refine xc_cons (xh_gt_F (XI_lit (by decide +kernel)) rfl h0) ?_
    refine xc_cons (xh_lt_T (XI_lit (by decide +kernel)) rfl h1) ?_
    refine xc_cons (xh_eq_T rfl (XI_lit (by decide +kernel)) hk) ?_
    refine xc_cons (xh_lt_T (XI_lit (by decide +kernel)) rfl c1) ?_
    refine xc_cons (xh_eq_T rfl (XI_lit (by decide +kernel)) c5) ?_
    refine xc_cons (xh_lt_T (XI_lit (by decide +kernel)) rfl c6) ?_
    refine xc_cons (xh_eq_T rfl (XI_lit (by decide +kernel)) c5) ?_
    refine xc_cons (xh_gt_T (XI_lit (by decide +kernel)) rfl c7) ?_
    exact xc_nil
  refine (Classical.em (XI r (.arg 1) = (3 : Int))).elim (fun (c8 : xhid (XI r (.arg 1) = (3 : Int))) => ?_) (fun (c8 : xhid (¬ (XI r (.arg 1) = (3 : Int)))) => ?_)
  ·
    have c9 : xhid ((1 : Int) < XI r (.arg 49)) := ((by have z0 : (1 : Int) < XI r (.arg 49) := c1; omega) : (1 : Int) < XI r (.arg 49))
    have c10 : xhid (XI r (.sub (.arg 49) (.int 6)) < (6 : Int)) := ((by omega) : XI r (.sub (.arg 49) (.int 6)) < (6 : Int))
    refine ⟨88, _, ?_, lf_43_2⟩
    refine xc_cons (xh_gt_F (XI_lit (by decide +kernel)) rfl h0) ?_
    refine xc_cons (xh_lt_T (XI_lit (by decide +kernel)) rfl h1) ?_
    refine xc_cons (xh_eq_T rfl (XI_lit (by decide +kernel)) hk) ?_
    refine xc_cons (xh_lt_T (XI_lit (by decide +kernel)) rfl c1) ?_
    refine xc_cons (xh_eq_T rfl (XI_lit (by decide +kernel)) c8) ?_
    refine xc_cons (xh_lt_T (XI_lit (by decide +kernel)) rfl c9) ?_
    refine xc_cons (xh_eq_T rfl (XI_lit (by decide +kernel)) c8) ?_
    refine xc_cons (xh_gt_T (XI_lit (by decide +kernel)) rfl c10) ?_
    exact xc_nil
  refine (Classical.em (XI r (.arg 1) = (4 : Int))).elim (fun (c11 : xhid (XI r (.arg 1) = (4 : Int))) => ?_) (fun (c11 : xhid (¬ (XI r (.arg 1) = (4 : Int)))) => ?_)
  ·
    have c12 : xhid ((1 : Int) < XI r (.arg 49)) := ((by have z0 : (1 : Int) < XI r (.arg 49) := c1; omega) : (1 : Int) < XI r (.arg 49))
    have c13 : xhid (XI r (.sub (.arg 49) (.int 6)) < (6 : Int)) := ((by omega) : XI r (.sub (.arg 49) (.int 6)) < (6 : Int))
    refine ⟨88, _, ?_, lf_43_3⟩
    refine xc_cons (xh_gt_F (XI_lit (by decide +kernel)) rfl h0) ?_
    refine xc_cons (xh_lt_T (XI_lit (by decide +kernel)) rfl h1) ?_
    refine xc_cons (xh_eq_T rfl (XI_lit (by decide +kernel)) hk) ?_
    refine xc_cons (xh_lt_T (XI_lit (by decide +kernel)) rfl c1) ?_
    refine xc_cons (xh_eq_T rfl (XI_lit (by decide +kernel)) c11) ?_
    refine xc_cons (xh_lt_T (XI_lit (by decide +kernel)) rfl c12) ?_
    refine xc_cons (xh_eq_T rfl (XI_lit (by decide +kernel)) c11) ?_
    refine xc_cons (xh_gt_T (XI_lit (by decide +kernel)) rfl c13) ?_
    exact xc_nil
  refine (Classical.em (XI r (.arg 1) = (5 : Int))).elim (fun (c14 : xhid (XI r (.arg 1) = (5 : Int))) => ?_) (fun (c14 : xhid (¬ (XI r (.arg 1) = (5 : Int)))) => ?_)
  ·
    have c15 : xhid ((1 : Int) < XI r (.arg 49)) := ((by have z0 : (1 : Int) < XI r (.arg 49) := c1; omega) : (1 : Int) < XI r (.arg 49))
    have c16 : xhid (XI r (.sub (.arg 49) (.int 6)) < (6 : Int)) := ((by omega) : XI r (.sub (.arg 49) (.int 6)) < (6 : Int))
    refine ⟨88, _, ?_, lf_43_4⟩
    refine xc_cons (xh_gt_F (XI_lit (by decide +kernel)) rfl h0) ?_
    refine xc_cons (xh_lt_T (XI_lit (by decide +kernel)) rfl h1) ?_
    refine xc_cons (xh_eq_T rfl (XI_lit (by decide +kernel)) hk) ?_
    refine xc_cons (xh_lt_T (XI_lit (by decide +kernel)) rfl c1) ?_
    refine xc_cons (xh_eq_T rfl (XI_lit (by decide +kernel)) c14) ?_
    refine xc_cons (xh_lt_T (XI_lit (by decide +kernel)) rfl c15) ?_
    refine xc_cons (xh_eq_T rfl (XI_lit (by decide +kernel)) c14) ?_
    refine xc_cons (xh_gt_T (XI_lit (by decide +kernel)) rfl c16) ?_
    exact xc_nil
  refine (Classical.em (XI r (.arg 1) = (6 : Int))).elim (fun (c17 : xhid (XI r (.arg 1) = (6 : Int))) => ?_) (fun (c17 : xhid (¬ (XI r (.arg 1) = (6 : Int)))) => ?_)
  ·
    have c18 : xhid ((1 : Int) < XI r (.arg 49)) := ((by have z0 : (1 : Int) < XI r (.arg 49) := c1; omega) : (1 : Int) < XI r (.arg 49))
    have c19 : xhid (XI r (.sub (.arg 49) (.int 6)) < (6 : Int)) := ((by omega) : XI r (.sub (.arg 49) (.int 6)) < (6 : Int))
    refine ⟨88, _, ?_, lf_43_5⟩
    refine xc_cons (xh_gt_F (XI_lit (by decide +kernel)) rfl h0) ?_
    refine xc_cons (xh_lt_T (XI_lit (by decide +kernel)) rfl h1) ?_
    refine xc_cons (xh_eq_T rfl (XI_lit (by decide +kernel)) hk) ?_
    refine xc_cons (xh_lt_T (XI_lit (by decide +kernel)) rfl c1) ?_
    refine xc_cons (xh_eq_T rfl (XI_lit (by decide +kernel)) c17) ?_
    refine xc_cons (xh_lt_T (XI_lit (by decide +kernel)) rfl c18) ?_
    refine xc_cons (xh_eq_T rfl (XI_lit (by decide +kernel)) c17) ?_
    refine xc_cons (xh_gt_T (XI_lit (by decide +kernel)) rfl c19) ?_
    exact xc_nil
  refine (Classical.em (XI r (.arg 1) < (1 : Int))).elim (fun (c20 : xhid (XI r (.arg 1) < (1 : Int))) => ?_) (fun (c20 : xhid (¬ (XI r (.arg 1) < (1 : Int)))) => ?_)
  ·
    have c21 : xhid ((1 : Int) < XI r (.arg 49)) := ((by have z0 : (1 : Int) < XI r (.arg 49) := c1; omega) : (1 : Int) < XI r (.arg 49))
    have c22 : xhid (XI r (.arg 1) < (1 : Int)) := ((by have z0 : XI r (.arg 1) < (1 : Int) := c20; have z1 : -2147483648 ≤ XI r (.arg 1) := b1; have z2 : XI r (.arg 1) < 2147483648 := d1; omega) : XI r (.arg 1) < (1 : Int))
    have c23 : xhid (XI r (.sub (.arg 49) (.int 6)) < (6 : Int)) := ((by omega) : XI r (.sub (.arg 49) (.int 6)) < (6 : Int))
    refine ⟨102, _, ?_, lf_43_6⟩
    refine xc_cons (xh_gt_F (XI_lit (by decide +kernel)) rfl h0) ?_
    refine xc_cons (xh_lt_T (XI_lit (by decide +kernel)) rfl h1) ?_
    refine xc_cons (xh_eq_T rfl (XI_lit (by decide +kernel)) hk) ?_
    refine xc_cons (xh_lt_T (XI_lit (by decide +kernel)) rfl c1) ?_
    refine xc_cons (xh_lt_T rfl (XI_lit (by decide +kernel)) c20) ?_
    refine xc_cons (xh_lt_T (XI_lit (by decide +kernel)) rfl c21) ?_
    refine xc_cons (xh_lt_T rfl (XI_lit (by decide +kernel)) c22) ?_
    refine xc_cons (xh_gt_T (XI_lit (by decide +kernel)) rfl c23) ?_
    exact xc_nil
  ·
    have c24 : xhid (¬ (XI r (.arg 1) ≤ (6 : Int))) := ((by have z0 : ¬ (XI r (.arg 1) < (1 : Int)) := c20; have z1 : ¬ (XI r (.arg 1) = (1 : Int)) := c2; have z2 : ¬ (XI r (.arg 1) = (2 : Int)) := c5; have z3 : ¬ (XI r (.arg 1) = (3 : Int)) := c8; have z4 : ¬ (XI r (.arg 1) = (4 : Int)) := c11; have z5 : ¬ (XI r (.arg 1) = (5 : Int)) := c14; have z6 : ¬ (XI r (.arg 1) = (6 : Int)) := c17; have z7 : -2147483648 ≤ XI r (.arg 1) := b1; have z8 : XI r (.arg 1) < 2147483648 := d1; omega) : ¬ (XI r (.arg 1) ≤ (6 : Int)))
    have c25 : xhid ((1 : Int) < XI r (.arg 49)) := ((by have z0 : (1 : Int) < XI r (.arg 49) := c1; omega) : (1 : Int) < XI r (.arg 49))
    have c26 : xhid (¬ (XI r (.arg 1) < (1 : Int))) := ((by have z0 : ¬ (XI r (.arg 1) ≤ (6 : Int)) := c24; have z1 : -2147483648 ≤ XI r (.arg 1) := b1; have z2 : XI r (.arg 1) < 2147483648 := d1; omega) : ¬ (XI r (.arg 1) < (1 : Int)))
    have c27 : xhid ((6 : Int) < XI r (.arg 1)) := ((by have z0 : ¬ (XI r (.arg 1) < (1 : Int)) := c26; have z1 : ¬ (XI r (.arg 1) = (1 : Int)) := c2; have z2 : ¬ (XI r (.arg 1) = (2 : Int)) := c5; have z3 : ¬ (XI r (.arg 1) = (3 : Int)) := c8; have z4 : ¬ (XI r (.arg 1) = (4 : Int)) := c11; have z5 : ¬ (XI r (.arg 1) = (5 : Int)) := c14; have z6 : ¬ (XI r (.arg 1) = (6 : Int)) := c17; have z7 : -2147483648 ≤ XI r (.arg 1) := b1; have z8 : XI r (.arg 1) < 2147483648 := d1; omega) : (6 : Int) < XI r (.arg 1))
    have c28 : xhid (XI r (.sub (.arg 49) (.int 6)) < (6 : Int)) := ((by omega) : XI r (.sub (.arg 49) (.int 6)) < (6 : Int))
    refine ⟨108, _, ?_, lf_43_7⟩
    refine xc_cons (xh_gt_F (XI_lit (by decide +kernel)) rfl h0) ?_
    refine xc_cons (xh_lt_T (XI_lit (by decide +kernel)) rfl h1) ?_
    refine xc_cons (xh_eq_T rfl (XI_lit (by decide +kernel)) hk) ?_
    refine xc_cons (xh_lt_T (XI_lit (by decide +kernel)) rfl c1) ?_
    refine xc_cons (xh_lt_F rfl (XI_lit (by decide +kernel)) c20) ?_
    refine xc_cons (xh_le_F rfl (XI_lit (by decide +kernel)) c24) ?_
    refine xc_cons (xh_lt_T (XI_lit (by decide +kernel)) rfl c25) ?_
    refine xc_cons (xh_lt_F rfl (XI_lit (by decide +kernel)) c26) ?_
    refine xc_cons (xh_gt_T rfl (XI_lit (by decide +kernel)) c27) ?_
    refine xc_cons (xh_gt_T (XI_lit (by decide +kernel)) rfl c28) ?_
    exact xc_nil
