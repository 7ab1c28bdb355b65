theorem lf_17_0 : xfin (xev 126 20 xlaw 18 xlo0 [] xh0 [(.gt, .int 0, .sub (.arg 49) (.int 6), false), (.lt, .int 0, .arg 49, true), (.eq, .op2 .iand (.arg 0) (.int 63), .int 17, true), (.lt, .int 1, .arg 49, true), (.lt, .int 2, .arg 49, true), (.lt, .arg 1, .int 0, true), (.lt, .int 1, .arg 49, true), (.lt, .int 2, .arg 49, true), (.lt, .arg 1, .int 0, true), (.gt, .int 6, .sub (.arg 49) (.int 6), true)]) = true := by decide +kernel
theorem lf_17_1 : xfin (xev 134 20 xlaw 18 xlo0 [] xh0 [(.gt, .int 0, .sub (.arg 49) (.int 6), false), (.lt, .int 0, .arg 49, true), (.eq, .op2 .iand (.arg 0) (.int 63), .int 17, true), (.lt, .int 1, .arg 49, true), (.lt, .int 2, .arg 49, true), (.lt, .arg 1, .int 0, false), (.ge, .arg 1, .int 0, true), (.lt, .int 1, .arg 49, true), (.lt, .int 2, .arg 49, true), (.lt, .arg 1, .int 0, false), (.gt, .arg 1, .int (-1), true), (.gt, .int 6, .sub (.arg 49) (.int 6), true)]) = true := by decide +kernel
set_option maxHeartbeats 4000000 in
theorem cv_17 {r : Nat → Value} (h49 : XI r (.arg 49) = 6) (hs : XI r (.sub (.arg 49) (.int 6)) = 0) (hk : XI r (.op2 .iand (.arg 0) (.int 63)) = 17) : ∃ (f : Nat) (E : List xB), (∀ q ∈ E, xhold r q) ∧ xfin (xev f 20 xlaw 18 xlo0 [] xh0 E) = true := by
  have h0 : ¬ (XI r (.sub (.arg 49) (.int 6)) < (0 : Int)) := by omega
  have h1 : (0 : Int) < XI r (.arg 49) := by omega
  have b0 : xhid (-2147483648 ≤ XI r (.arg 0)) := XI_lo r (.arg 0)
  have d0 : xhid (XI r (.arg 0) < 2147483648) := XI_hi r (.arg 0)
  have b1 : xhid (-2147483648 ≤ XI r (.arg 1)) := XI_lo r (.arg 1)
  have d1 : xhid (XI r (.arg 1) < 2147483648) := XI_hi r (.arg 1)
  have b2 : xhid (-2147483648 ≤ XI r (.arg 2)) := XI_lo r (.arg 2)
  have d2 : xhid (XI r (.arg 2) < 2147483648) := XI_hi r (.arg 2)
  have b3 : xhid (-2147483648 ≤ XI r (.arg 3)) := XI_lo r (.arg 3)
  have d3 : xhid (XI r (.arg 3) < 2147483648) := XI_hi r (.arg 3)
  have b4 : xhid (-2147483648 ≤ XI r (.arg 4)) := XI_lo r (.arg 4)
  have d4 : xhid (XI r (.arg 4) < 2147483648) := XI_hi r (.arg 4)
  have b5 : xhid (-2147483648 ≤ XI r (.arg 5)) := XI_lo r (.arg 5)
  have d5 : xhid (XI r (.arg 5) < 2147483648) := XI_hi r (.arg 5)
  have c1 : xhid ((1 : Int) < XI r (.arg 49)) := ((by have z0 : ¬ (XI r (.sub (.arg 49) (.int 6)) < (0 : Int)) := h0; omega) : (1 : Int) < XI r (.arg 49))
  have c2 : xhid ((2 : Int) < XI r (.arg 49)) := ((by have z0 : ¬ (XI r (.sub (.arg 49) (.int 6)) < (0 : Int)) := h0; omega) : (2 : Int) < XI r (.arg 49))
  refine (Classical.em (XI r (.arg 1) < (0 : Int))).elim (fun (c3 : xhid (XI r (.arg 1) < (0 : Int))) => ?_) (fun (c3 : xhid (¬ (XI r (.arg 1) < (0 : Int)))) => ?_)
  ·
    have c4 : xhid ((1 : Int) < XI r (.arg 49)) := ((by have z0 : (2 : Int) < XI r (.arg 49) := c2; omega) : (1 : Int) < XI r (.arg 49))
    have c5 : xhid ((2 : Int) < XI r (.arg 49)) := ((by have z0 : (2 : Int) < XI r (.arg 49) := c2; omega) : (2 : Int) < XI r (.arg 49))
    have c6 : xhid (XI r (.arg 1) < (0 : Int)) := ((by have z0 : XI r (.arg 1) < (0 : Int) := c3; have z1 : -2147483648 ≤ XI r (.arg 1) := b1; have z2 : XI r (.arg 1) < 2147483648 := d1; omega) : XI r (.arg 1) < (0 : Int))
    have c7 : xhid (XI r (.sub (.arg 49) (.int 6)) < (6 : Int)) := ((by omega) : XI r (.sub (.arg 49) (.int 6)) < (6 : Int))
    refine ⟨126, _, ?_, lf_17_0⟩
    refine xc_cons (xh_gt_F (XI_lit (by decide +kernel)) rfl h0) ?_
    refine xc_cons (xh_lt_T (XI_lit (by decide +kernel)) rfl h1) ?_
    refine xc_cons (xh_eq_T rfl (XI_lit (by decide +kernel)) hk) ?_
    refine xc_cons (xh_lt_T (XI_lit (by decide +kernel)) rfl c1) ?_
    refine xc_cons (xh_lt_T (XI_lit (by decide +kernel)) rfl c2) ?_
    refine xc_cons (xh_lt_T rfl (XI_lit (by decide +kernel)) c3) ?_
    refine xc_cons (xh_lt_T (XI_lit (by decide +kernel)) rfl c4) ?_
    refine xc_cons (xh_lt_T (XI_lit (by decide +kernel)) rfl c5) ?_
    refine xc_cons (xh_lt_T rfl (XI_lit (by decide +kernel)) c6) ?_
    refine xc_cons (xh_gt_T (XI_lit (by decide +kernel)) rfl c7) ?_
    exact xc_nil
  ·
    have c8 : xhid ((0 : Int) ≤ XI r (.arg 1)) := ((by have z0 : ¬ (XI r (.arg 1) < (0 : Int)) := c3; have z1 : -2147483648 ≤ XI r (.arg 1) := b1; have z2 : XI r (.arg 1) < 2147483648 := d1; omega) : (0 : Int) ≤ XI r (.arg 1))
    have c9 : xhid ((1 : Int) < XI r (.arg 49)) := ((by have z0 : (2 : Int) < XI r (.arg 49) := c2; omega) : (1 : Int) < XI r (.arg 49))
    have c10 : xhid ((2 : Int) < XI r (.arg 49)) := ((by have z0 : (2 : Int) < XI r (.arg 49) := c2; omega) : (2 : Int) < XI r (.arg 49))
    have c11 : xhid (¬ (XI r (.arg 1) < (0 : Int))) := ((by have z0 : (0 : Int) ≤ XI r (.arg 1) := c8; have z1 : -2147483648 ≤ XI r (.arg 1) := b1; have z2 : XI r (.arg 1) < 2147483648 := d1; omega) : ¬ (XI r (.arg 1) < (0 : Int)))
    have c12 : xhid ((-1 : Int) < XI r (.arg 1)) := ((by have z0 : ¬ (XI r (.arg 1) < (0 : Int)) := c11; have z1 : -2147483648 ≤ XI r (.arg 1) := b1; have z2 : XI r (.arg 1) < 2147483648 := d1; omega) : (-1 : Int) < XI r (.arg 1))
    have c13 : xhid (XI r (.sub (.arg 49) (.int 6)) < (6 : Int)) := ((by omega) : XI r (.sub (.arg 49) (.int 6)) < (6 : Int))
    refine ⟨134, _, ?_, lf_17_1⟩
    refine xc_cons (xh_gt_F (XI_lit (by decide +kernel)) rfl h0) ?_
    refine xc_cons (xh_lt_T (XI_lit (by decide +kernel)) rfl h1) ?_
    refine xc_cons (xh_eq_T rfl (XI_lit (by decide +kernel)) hk) ?_
    refine xc_cons (xh_lt_T (XI_lit (by decide +kernel)) rfl c1) ?_
    refine xc_cons (xh_lt_T (XI_lit (by decide +kernel)) rfl c2) ?_
    refine xc_cons (xh_lt_F rfl (XI_lit (by decide +kernel)) c3) ?_
    refine xc_cons (xh_ge_T rfl (XI_lit (by decide +kernel)) c8) ?_
    refine xc_cons (xh_lt_T (XI_lit (by decide +kernel)) rfl c9) ?_
    refine xc_cons (xh_lt_T (XI_lit (by decide +kernel)) rfl c10) ?_
    refine xc_cons (xh_lt_F rfl (XI_lit (by decide +kernel)) c11) ?_
    refine xc_cons (xh_gt_T rfl (XI_lit (by decide +kernel)) c12) ?_
    refine xc_cons (xh_gt_T (XI_lit (by decide +kernel)) rfl c13) ?_
    exact xc_nil
theorem lf_18_0 : xfin (xev 136 20 xlaw 18 xlo0 [] xh0 [(.gt, .int 0, .sub (.arg 49) (.int 6), false), (.lt, .int 0, .arg 49, true), (.eq, .op2 .iand (.arg 0) (.int 63), .int 18, true), (.lt, .int 1, .arg 49, true), (.lt, .int 2, .arg 49, true), (.lt, .int 3, .arg 49, true), (.lt, .arg 1, .int 0, true), (.lt, .int 1, .arg 49, true), (.lt, .int 2, .arg 49, true), (.lt, .int 3, .arg 49, true), (.lt, .arg 1, .int 0, true), (.gt, .int 6, .sub (.arg 49) (.int 6), true)]) = true := by decide +kernel
theorem lf_18_1 : xfin (xev 144 20 xlaw 18 xlo0 [] xh0 [(.gt, .int 0, .sub (.arg 49) (.int 6), false), (.lt, .int 0, .arg 49, true), (.eq, .op2 .iand (.arg 0) (.int 63), .int 18, true), (.lt, .int 1, .arg 49, true), (.lt, .int 2, .arg 49, true), (.lt, .int 3, .arg 49, true), (.lt, .arg 1, .int 0, false), (.ge, .arg 1, .int 0, true), (.lt, .int 1, .arg 49, true), (.lt, .int 2, .arg 49, true), (.lt, .int 3, .arg 49, true), (.lt, .arg 1, .int 0, false), (.gt, .arg 1, .int (-1), true), (.gt, .int 6, .sub (.arg 49) (.int 6), true)]) = true := by decide +kernel
set_option maxHeartbeats 4000000 in
theorem cv_18 {r : Nat → Value} (h49 : XI r (.arg 49) = 6) (hs : XI r (.sub (.arg 49) (.int 6)) = 0) (hk : XI r (.op2 .iand (.arg 0) (.int 63)) = 18) : ∃ (f : Nat) (E : List xB), (∀ q ∈ E, xhold r q) ∧ xfin (xev f 20 xlaw 18 xlo0 [] xh0 E) = true := by
  have h0 : ¬ (XI r (.sub (.arg 49) (.int 6)) < (0 : Int)) := by omega
  have h1 : (0 : Int) < XI r (.arg 49) := by omega
  have b0 : xhid (-2147483648 ≤ XI r (.arg 0)) := XI_lo r (.arg 0)
  have d0 : xhid (XI r (.arg 0) < 2147483648) := XI_hi r (.arg 0)
  have b1 : xhid (-2147483648 ≤ XI r (.arg 1)) := XI_lo r (.arg 1)
  have d1 : xhid (XI r (.arg 1) < 2147483648) := XI_hi r (.arg 1)
  have b2 : xhid (-2147483648 ≤ XI r (.arg 2)) := XI_lo r (.arg 2)
  have d2 : xhid (XI r (.arg 2) < 2147483648) := XI_hi r (.arg 2)
  have b3 : xhid (-2147483648 ≤ XI r (.arg 3)) := XI_lo r (.arg 3)
  have d3 : xhid (XI r (.arg 3) < 2147483648) := XI_hi r (.arg 3)
  have b4 : xhid (-2147483648 ≤ XI r (.arg 4)) := XI_lo r (.arg 4)
  have d4 : xhid (XI r (.arg 4) < 2147483648) := XI_hi r (.arg 4)
  have b5 : xhid (-2147483648 ≤ XI r (.arg 5)) := XI_lo r (.arg 5)
  have d5 : xhid (XI r (.arg 5) < 2147483648) := XI_hi r (.arg 5)
  have c1 : xhid ((1 : Int) < XI r (.arg 49)) := ((by have z0 : ¬ (XI r (.sub (.arg 49) (.int 6)) < (0 : Int)) := h0; omega) : (1 : Int) < XI r (.arg 49))
  have c2 : xhid ((2 : Int) < XI r (.arg 49)) := ((by have z0 : ¬ (XI r (.sub (.arg 49) (.int 6)) < (0 : Int)) := h0; omega) : (2 : Int) < XI r (.arg 49))
  have c3 : xhid ((3 : Int) < XI r (.arg 49)) := ((by have z0 : ¬ (XI r (.sub (.arg 49) (.int 6)) < (0 : Int)) := h0; omega) : (3 : Int) < XI r (.arg 49))
  refine (Classical.em (XI r (.arg 1) < (0 : Int))).elim (fun (c4 : xhid (XI r (.arg 1) < (0 : Int))) => ?_) (fun (c4 : xhid (¬ (XI r (.arg 1) < (0 : Int)))) => ?_)
  ·
    have c5 : xhid ((1 : Int) < XI r (.arg 49)) := ((by have z0 : (3 : Int) < XI r (.arg 49) := c3; omega) : (1 : Int) < XI r (.arg 49))
    have c6 : xhid ((2 : Int) < XI r (.arg 49)) := ((by have z0 : (3 : Int) < XI r (.arg 49) := c3; omega) : (2 : Int) < XI r (.arg 49))
    have c7 : xhid ((3 : Int) < XI r (.arg 49)) := ((by have z0 : (3 : Int) < XI r (.arg 49) := c3; omega) : (3 : Int) < XI r (.arg 49))
    have c8 : xhid (XI r (.arg 1) < (0 : Int)) := ((by have z0 : XI r (.arg 1) < (0 : Int) := c4; have z1 : -2147483648 ≤ XI r (.arg 1) := b1; have z2 : XI r (.arg 1) < 2147483648 := d1; omega) : XI r (.arg 1) < (0 : Int))
    have c9 : xhid (XI r (.sub (.arg 49) (.int 6)) < (6 : Int)) := ((by omega) : XI r (.sub (.arg 49) (.int 6)) < (6 : Int))
    refine ⟨136, _, ?_, lf_18_0⟩
    refine xc_cons (xh_gt_F (XI_lit (by decide +kernel)) rfl h0) ?_
    refine xc_cons (xh_lt_T (XI_lit (by decide +kernel)) rfl h1) ?_
    refine xc_cons (xh_eq_T rfl (XI_lit (by decide +kernel)) hk) ?_
    refine xc_cons (xh_lt_T (XI_lit (by decide +kernel)) rfl c1) ?_
    refine xc_cons (xh_lt_T (XI_lit (by decide +kernel)) rfl c2) ?_
    refine xc_cons (xh_lt_T (XI_lit (by decide +kernel)) rfl c3) ?_
    refine xc_cons (xh_lt_T rfl (XI_lit (by decide +kernel)) c4) ?_
    refine xc_cons (xh_lt_T (XI_lit (by decide +kernel)) rfl c5) ?_
    refine xc_cons (xh_lt_T (XI_lit (by decide +kernel)) rfl c6) ?_
    refine xc_cons (xh_lt_T (XI_lit (by decide +kernel)) rfl c7) ?_
    refine xc_cons (xh_lt_T rfl (XI_lit (by decide +kernel)) c8) ?_
    refine xc_cons (xh_gt_T (XI_lit (by decide +kernel)) rfl c9) ?_
    exact xc_nil
  ·
    have c10 : xhid ((0 : Int) ≤ XI r (.arg 1)) := ((by have z0 : ¬ (XI r (.arg 1) < (0 : Int)) := c4; have z1 : -2147483648 ≤ XI r (.arg 1) := b1; have z2 : XI r (.arg 1) < 2147483648 := d1; omega) : (0 : Int) ≤ XI r (.arg 1))
    have c11 : xhid ((1 : Int) < XI r (.arg 49)) := ((by have z0 : (3 : Int) < XI r (.arg 49) := c3; omega) : (1 : Int) < XI r (.arg 49))
    have c12 : xhid ((2 : Int) < XI r (.arg 49)) := ((by have z0 : (3 : Int) < XI r (.arg 49) := c3; omega) : (2 : Int) < XI r (.arg 49))
    have c13 : xhid ((3 : Int) < XI r (.arg 49)) := ((by have z0 : (3 : Int) < XI r (.arg 49) := c3; omega) : (3 : Int) < XI r (.arg 49))
    have c14 : xhid (¬ (XI r (.arg 1) < (0 : Int))) := ((by have z0 : (0 : Int) ≤ XI r (.arg 1) := c10; have z1 : -2147483648 ≤ XI r (.arg 1) := b1; have z2 : XI r (.arg 1) < 2147483648 := d1; omega) : ¬ (XI r (.arg 1) < (0 : Int)))
    have c15 : xhid ((-1 : Int) < XI r (.arg 1)) := ((by have z0 : ¬ (XI r (.arg 1) < (0 : Int)) := c14; have z1 : -2147483648 ≤ XI r (.arg 1) := b1; have z2 : XI r (.arg 1) < 2147483648 := d1; omega) : (-1 : Int) < XI r (.arg 1))
    have c16 : xhid (XI r (.sub (.arg 49) (.int 6)) < (6 : Int)) := ((by omega) : XI r (.sub (.arg 49) (.int 6)) < (6 : Int))
    refine ⟨144, _, ?_, lf_18_1⟩
    refine xc_cons (xh_gt_F (XI_lit (by decide +kernel)) rfl h0) ?_
    refine xc_cons (xh_lt_T (XI_lit (by decide +kernel)) rfl h1) ?_
    refine xc_cons (xh_eq_T rfl (XI_lit (by decide +kernel)) hk) ?_
    refine xc_cons (xh_lt_T (XI_lit (by decide +kernel)) rfl c1) ?_
    refine xc_cons (xh_lt_T (XI_lit (by decide +kernel)) rfl c2) ?_
    refine xc_cons (xh_lt_T (XI_lit (by decide +kernel)) rfl c3) ?_
    refine xc_cons (xh_lt_F rfl (XI_lit (by decide +kernel)) c4) ?_
    refine xc_cons (xh_ge_T rfl (XI_lit (by decide +kernel)) c10) ?_
    refine xc_cons (xh_lt_T (XI_lit (by decide +kernel)) rfl c11) ?_
    refine xc_cons (xh_lt_T (XI_lit (by decide +kernel)) rfl c12) ?_
    refine xc_cons (xh_lt_T (XI_lit (by decide +kernel)) rfl c13) ?_
    refine xc_cons (xh_lt_F rfl (XI_lit (by decide +kernel)) c14) ?_
    refine xc_cons (xh_gt_T rfl (XI_lit (by decide +kernel)) c15) ?_
    refine xc_cons (xh_gt_T (XI_lit (by decide +kernel)) rfl c16) ?_
    exact xc_nil
theorem lf_19_0 : xfin (xev 136 20 xlaw 18 xlo0 [] xh0 [(.gt, .int 0, .sub (.arg 49) (.int 6), false), (.lt, .int 0, .arg 49, true), (.eq, .op2 .iand (.arg 0) (.int 63), .int 19, true), (.lt, .int 1, .arg 49, true), (.lt, .int 2, .arg 49, true), (.lt, .int 3, .arg 49, true), (.lt, .arg 1, .int 0, true), (.lt, .int 1, .arg 49, true), (.lt, .int 2, .arg 49, true), (.lt, .int 3, .arg 49, true), (.lt, .arg 1, .int 0, true), (.gt, .int 6, .sub (.arg 49) (.int 6), true)]) = true := by decide +kernel
theorem lf_19_1 : xfin (xev 144 20 xlaw 18 xlo0 [] xh0 [(.gt, .int 0, .sub (.arg 49) (.int 6), false), (.lt, .int 0, .arg 49, true), (.eq, .op2 .iand (.arg 0) (.int 63), .int 19, true), (.lt, .int 1, .arg 49, true), (.lt, .int 2, .arg 49, true), (.lt, .int 3, .arg 49, true), (.lt, .arg 1, .int 0, false), (.ge, .arg 1, .int 0, true), (.lt, .int 1, .arg 49, true), (.lt, .int 2, .arg 49, true), (.lt, .int 3, .arg 49, true), (.lt, .arg 1, .int 0, false), (.gt, .arg 1, .int (-1), true), (.gt, .int 6, .sub (.arg 49) (.int 6), true)]) = true := by decide +kernel
set_option maxHeartbeats 4000000 in
theorem cv_19 {r : Nat → Value} (h49 : XI r (.arg 49) = 6) (hs : XI r (.sub (.arg 49) (.int 6)) = 0) (hk : XI r (.op2 .iand (.arg 0) (.int 63)) = 19) : ∃ (f : Nat) (E : List xB), (∀ q ∈ E, xhold r q) ∧ xfin (xev f 20 xlaw 18 xlo0 [] xh0 E) = true := by
  have h0 : ¬ (XI r (.sub (.arg 49) (.int 6)) < (0 : Int)) := by omega
  have h1 : (0 : Int) < XI r (.arg 49) := by omega
  have b0 : xhid (-2147483648 ≤ XI r (.arg 0)) := XI_lo r (.arg 0)
  have d0 : xhid (XI r (.arg 0) < 2147483648) := XI_hi r (.arg 0)
  have b1 : xhid (-2147483648 ≤ XI r (.arg 1)) := XI_lo r (.arg 1)
  have d1 : xhid (XI r (.arg 1) < 2147483648) := XI_hi r (.arg 1)
  have b2 : xhid (-2147483648 ≤ XI r (.arg 2)) := XI_lo r (.arg 2)
  have d2 : xhid (XI r (.arg 2) < 2147483648) := XI_hi r (.arg 2)
  have b3 : xhid (-2147483648 ≤ XI r (.arg 3)) := XI_lo r (.arg 3)
  have d3 : xhid (XI r (.arg 3) < 2147483648) := XI_hi r (.arg 3)
  have b4 : xhid (-2147483648 ≤ XI r (.arg 4)) := XI_lo r (.arg 4)
  have d4 : xhid (XI r (.arg 4) < 2147483648) := XI_hi r (.arg 4)
  have b5 : xhid (-2147483648 ≤ XI r (.arg 5)) := XI_lo r (.arg 5)
  have d5 : xhid (XI r (.arg 5) < 2147483648) := XI_hi r (.arg 5)
  have c1 : xhid ((1 : Int) < XI r (.arg 49)) := ((by have z0 : ¬ (XI r (.sub (.arg 49) (.int 6)) < (0 : Int)) := h0; omega) : (1 : Int) < XI r (.arg 49))
  have c2 : xhid ((2 : Int) < XI r (.arg 49)) := ((by have z0 : ¬ (XI r (.sub (.arg 49) (.int 6)) < (0 : Int)) := h0; omega) : (2 : Int) < XI r (.arg 49))
  have c3 : xhid ((3 : Int) < XI r (.arg 49)) := ((by have z0 : ¬ (XI r (.sub (.arg 49) (.int 6)) < (0 : Int)) := h0; omega) : (3 : Int) < XI r (.arg 49))
  refine (Classical.em (XI r (.arg 1) < (0 : Int))).elim (fun (c4 : xhid (XI r (.arg 1) < (0 : Int))) => ?_) (fun (c4 : xhid (¬ (XI r (.arg 1) < (0 : Int)))) => ?_)
  ·
    have c5 : xhid ((1 : Int) < XI r (.arg 49)) := ((by have z0 : (3 : Int) < XI r (.arg 49) := c3; omega) : (1 : Int) < XI r (.arg 49))
    have c6 : xhid ((2 : Int) < XI r (.arg 49)) := ((by have z0 : (3 : Int) < XI r (.arg 49) := c3; omega) : (2 : Int) < XI r (.arg 49))
    have c7 : xhid ((3 : Int) < XI r (.arg 49)) := ((by have z0 : (3 : Int) < XI r (.arg 49) := c3; omega) : (3 : Int) < XI r (.arg 49))
    have c8 : xhid (XI r (.arg 1) < (0 : Int)) := ((by have z0 : XI r (.arg 1) < (0 : Int) := c4; have z1 : -2147483648 ≤ XI r (.arg 1) := b1; have z2 : XI r (.arg 1) < 2147483648 := d1; omega) : XI r (.arg 1) < (0 : Int))
    have c9 : xhid (XI r (.sub (.arg 49) (.int 6)) < (6 : Int)) := ((by omega) : XI r (.sub (.arg 49) (.int 6)) < (6 : Int))
    refine ⟨136, _, ?_, lf_19_0⟩
    refine xc_cons (xh_gt_F (XI_lit (by decide +kernel)) rfl h0) ?_
    refine xc_cons (xh_lt_T (XI_lit (by decide +kernel)) rfl h1) ?_
    refine xc_cons (xh_eq_T rfl (XI_lit (by decide +kernel)) hk) ?_
    refine xc_cons (xh_lt_T (XI_lit (by decide +kernel)) rfl c1) ?_
    refine xc_cons (xh_lt_T (XI_lit (by decide +kernel)) rfl c2) ?_
    refine xc_cons (xh_lt_T (XI_lit (by decide +kernel)) rfl c3) ?_
    refine xc_cons (xh_lt_T rfl (XI_lit (by decide +kernel)) c4) ?_
    refine xc_cons (xh_lt_T (XI_lit (by decide +kernel)) rfl c5) ?_
    refine xc_cons (xh_lt_T (XI_lit (by decide +kernel)) rfl c6) ?_
    refine xc_cons (xh_lt_T (XI_lit (by decide +kernel)) rfl c7) ?_
    refine xc_cons (xh_lt_T rfl (XI_lit (by decide +kernel)) c8) ?_
    refine xc_cons (xh_gt_T (XI_lit (by decide +kernel)) rfl c9) ?_
    exact xc_nil
  ·
    have c10 : xhid ((0 : Int) ≤ XI r (.arg 1)) := ((by have z0 : ¬ (XI r (.arg 1) < (0 : Int)) := c4; have z1 : -2147483648 ≤ XI r (.arg 1) := b1; have z2 : XI r (.arg 1) < 2147483648 := d1; omega) : (0 : Int) ≤ XI r (.arg 1))
    have c11 : xhid ((1 : Int) < XI r (.arg 49)) := ((by have z0 : (3 : Int) < XI r (.arg 49) := c3; omega) : (1 : Int) < XI r (.arg 49))
    have c12 : xhid ((2 : Int) < XI r (.arg 49)) := ((by have z0 : (3 : Int) < XI r (.arg 49) := c3; omega) : (2 : Int) < XI r (.arg 49))
    have c13 : xhid ((3 : Int) < XI r (.arg 49)) := ((by have z0 : (3 : Int) < XI r (.arg 49) := c3; omega) : (3 : Int) < XI r (.arg 49))
    have c14 : xhid (¬ (XI r (.arg 1) < (0 : Int))) := ((by have z0 : (0 : Int) ≤ XI r (.arg 1) := c10; have z1 : -2147483648 ≤ XI r (.arg 1) := b1; have z2 : XI r (.arg 1) < 2147483648 := d1; omega) : ¬ (XI r (.arg 1) < (0 : Int)))
    have c15 : xhid ((-1 : Int) < XI r (.arg 1)) := ((by have z0 : ¬ (XI r (.arg 1) < (0 : Int)) := c14; have z1 : -2147483648 ≤ XI r (.arg 1) := b1; have z2 : XI r (.arg 1) < 2147483648 := d1; omega) : (-1 : Int) < XI r (.arg 1))
    have c16 : xhid (XI r (.sub (.arg 49) (.int 6)) < (6 : Int)) := ((by omega) : XI r (.sub (.arg 49) (.int 6)) < (6 : Int))
    refine ⟨144, _, ?_, lf_19_1⟩
    refine xc_cons (xh_gt_F (XI_lit (by decide +kernel)) rfl h0) ?_
    refine xc_cons (xh_lt_T (XI_lit (by decide +kernel)) rfl h1) ?_
    refine xc_cons (xh_eq_T rfl (XI_lit (by decide +kernel)) hk) ?_
    refine xc_cons (xh_lt_T (XI_lit (by decide +kernel)) rfl c1) ?_
    refine xc_cons (xh_lt_T (XI_lit (by decide +kernel)) rfl c2) ?_
    refine xc_cons (xh_lt_T (XI_lit (by decide +kernel)) rfl c3) ?_
    refine xc_cons (xh_lt_F rfl (XI_lit (by decide +kernel)) c4) ?_
    refine xc_cons (xh_ge_T rfl (XI_lit (by decide +kernel)) c10) ?_
    refine xc_cons (xh_lt_T (XI_lit (by decide +kernel)) rfl c11) ?_
    refine xc_cons (xh_lt_T (XI_lit (by decide +kernel)) rfl c12) ?_
    refine xc_cons (xh_lt_T (XI_lit (by decide +kernel)) rfl c13) ?_
    refine xc_cons (xh_lt_F rfl (XI_lit (by decide +kernel)) c14) ?_
    refine xc_cons (xh_gt_T rfl (XI_lit (by decide +kernel)) c15) ?_
    refine xc_cons (xh_gt_T (XI_lit (by decide +kernel)) rfl c16) ?_
    exact xc_nil
theorem lf_20_0 : xfin (xev 126 20 xlaw 18 xlo0 [] xh0 [(.gt, .int 0, .sub (.arg 49) (.int 6), false), (.lt, .int 0, .arg 49, true), (.eq, .op2 .iand (.arg 0) (.int 63), .int 20, true), (.lt, .int 1, .arg 49, true), (.lt, .int 2, .arg 49, true), (.lt, .arg 1, .int 0, true), (.lt, .int 1, .arg 49, true), (.lt, .int 2, .arg 49, true), (.lt, .arg 1, .int 0, true), (.gt, .int 6, .sub (.arg 49) (.int 6), true)]) = true := by decide +kernel
theorem lf_20_1 : xfin (xev 134 20 xlaw 18 xlo0 [] xh0 [(.gt, .int 0, .sub (.arg 49) (.int 6), false), (.lt, .int 0, .arg 49, true), (.eq, .op2 .iand (.arg 0) (.int 63), .int 20, true), (.lt, .int 1, .arg 49, true), (.lt, .int 2, .arg 49, true), (.lt, .arg 1, .int 0, false), (.ge, .arg 1, .int 0, true), (.lt, .int 1, .arg 49, true), (.lt, .int 2, .arg 49, true), (.lt, .arg 1, .int 0, false), (.gt, .arg 1, .int (-1), true), (.gt, .int 6, .sub (.arg 49) (.int 6), true)]) = true := by decide +kernel
set_option maxHeartbeats 4000000 in
theorem cv_20 {r : Nat → Value} (h49 : XI r (.arg 49) = 6) (hs : XI r (.sub (.arg 49) (.int 6)) = 0) (hk : XI r (.op2 .iand (.arg 0) (.int 63)) = 20) : ∃ (f : Nat) (E : List xB), (∀ q ∈ E, xhold r q) ∧ xfin (xev f 20 xlaw 18 xlo0 [] xh0 E) = true := by
  have h0 : ¬ (XI r (.sub (.arg 49) (.int 6)) < (0 : Int)) := by omega
  have h1 : (0 : Int) < XI r (.arg 49) := by omega
  have b0 : xhid (-2147483648 ≤ XI r (.arg 0)) := XI_lo r (.arg 0)
  have d0 : xhid (XI r (.arg 0) < 2147483648) := XI_hi r (.arg 0)
  have b1 : xhid (-2147483648 ≤ XI r (.arg 1)) := XI_lo r (.arg 1)
  have d1 : xhid (XI r (.arg 1) < 2147483648) := XI_hi r (.arg 1)
  have b2 : xhid (-2147483648 ≤ XI r (.arg 2)) := XI_lo r (.arg 2)
  have d2 : xhid (XI r (.arg 2) < 2147483648) := XI_hi r (.arg 2)
  have b3 : xhid (-2147483648 ≤ XI r (.arg 3)) := XI_lo r (.arg 3)
  have d3 : xhid (XI r (.arg 3) < 2147483648) := XI_hi r (.arg 3)
  have b4 : xhid (-2147483648 ≤ XI r (.arg 4)) := XI_lo r (.arg 4)
  have d4 : xhid (XI r (.arg 4) < 2147483648) := XI_hi r (.arg 4)
  have b5 : xhid (-2147483648 ≤ XI r (.arg 5)) := XI_lo r (.arg 5)
  have d5 : xhid (XI r (.arg 5) < 2147483648) := XI_hi r (.arg 5)
  have c1 : xhid ((1 : Int) < XI r (.arg 49)) := ((by have z0 : ¬ (XI r (.sub (.arg 49) (.int 6)) < (0 : Int)) := h0; omega) : (1 : Int) < XI r (.arg 49))
  have c2 : xhid ((2 : Int) < XI r (.arg 49)) := ((by have z0 : ¬ (XI r (.sub (.arg 49) (.int 6)) < (0 : Int)) := h0; omega) : (2 : Int) < XI r (.arg 49))
  refine (Classical.em (XI r (.arg 1) < (0 : Int))).elim (fun (c3 : xhid (XI r (.arg 1) < (0 : Int))) => ?_) (fun (c3 : xhid (¬ (XI r (.arg 1) < (0 : Int)))) => ?_)
  ·
    have c4 : xhid ((1 : Int) < XI r (.arg 49)) := ((by have z0 : (2 : Int) < XI r (.arg 49) := c2; omega) : (1 : Int) < XI r (.arg 49))
    have c5 : xhid ((2 : Int) < XI r (.arg 49)) := ((by have z0 : (2 : Int) < XI r (.arg 49) := c2; omega) : (2 : Int) < XI r (.arg 49))
    have c6 : xhid (XI r (.arg 1) < (0 : Int)) := ((by have z0 : XI r (.arg 1) < (0 : Int) := c3; have z1 : -2147483648 ≤ XI r (.arg 1) := b1; have z2 : XI r (.arg 1) < 2147483648 := d1; omega) : XI r (.arg 1) < (0 : Int))
    have c7 : xhid (XI r (.sub (.arg 49) (.int 6)) < (6 : Int)) := ((by omega) : XI r (.sub (.arg 49) (.int 6)) < (6 : Int))
    refine ⟨126, _, ?_, lf_20_0⟩
    refine xc_cons (xh_gt_F (XI_lit (by decide +kernel)) rfl h0) ?_
    refine xc_cons (xh_lt_T (XI_lit (by decide +kernel)) rfl h1) ?_
    refine xc_cons (xh_eq_T rfl (XI_lit (by decide +kernel)) hk) ?_
    refine xc_cons (xh_lt_T (XI_lit (by decide +kernel)) rfl c1) ?_
    refine xc_cons (xh_lt_T (XI_lit (by decide +kernel)) rfl c2) ?_
    refine xc_cons (xh_lt_T rfl (XI_lit (by decide +kernel)) c3) ?_
    refine xc_cons (xh_lt_T (XI_lit (by decide +kernel)) rfl c4) ?_
    refine xc_cons (xh_lt_T (XI_lit (by decide +kernel)) rfl c5) ?_
    refine xc_cons (xh_lt_T rfl (XI_lit (by decide +kernel)) c6) ?_
    refine xc_cons (xh_gt_T (XI_lit (by decide +kernel)) rfl c7) ?_
    exact xc_nil
  ·
    have c8 : xhid ((0 : Int) ≤ XI r (.arg 1)) := ((by have z0 : ¬ (XI r (.arg 1) < (0 : Int)) := c3; have z1 : -2147483648 ≤ XI r (.arg 1) := b1; have z2 : XI r (.arg 1) < 2147483648 := d1; omega) : (0 : Int) ≤ XI r (.arg 1))
    have c9 : xhid ((1 : Int) < XI r (.arg 49)) := ((by have z0 : (2 : Int) < XI r (.arg 49) := c2; omega) : (1 : Int) < XI r (.arg 49))
    have c10 : xhid ((2 : Int) < XI r (.arg 49)) := ((by have z0 : (2 : Int) < XI r (.arg 49) := c2; omega) : (2 : Int) < XI r (.arg 49))
    have c11 : xhid (¬ (XI r (.arg 1) < (0 : Int))) := ((by have z0 : (0 : Int) ≤ XI r (.arg 1) := c8; have z1 : -2147483648 ≤ XI r (.arg 1) := b1; have z2 : XI r (.arg 1) < 2147483648 := d1; omega) : ¬ (XI r (.arg 1) < (0 : Int)))
    have c12 : xhid ((-1 : Int) < XI r (.arg 1)) := ((by have z0 : ¬ (XI r (.arg 1) < (0 : Int)) := c11; have z1 : -2147483648 ≤ XI r (.arg 1) := b1; have z2 : XI r (.arg 1) < 2147483648 := d1; omega) : (-1 : Int) < XI r (.arg 1))
    have c13 : xhid (XI r (.sub (.arg 49) (.int 6)) < (6 : Int)) := ((by omega) : XI r (.sub (.arg 49) (.int 6)) < (6 : Int))
    refine ⟨134, _, ?_, lf_20_1⟩
    refine xc_cons (xh_gt_F (XI_lit (by decide +kernel)) rfl h0) ?_
    refine xc_cons (xh_lt_T (XI_lit (by decide +kernel)) rfl h1) ?_
    refine xc_cons (xh_eq_T rfl (XI_lit (by decide +kernel)) hk) ?_
    refine xc_cons (xh_lt_T (XI_lit (by decide +kernel)) rfl c1) ?_
    refine xc_cons (xh_lt_T (XI_lit (by decide +kernel)) rfl c2) ?_
    refine xc_cons (xh_lt_F rfl (XI_lit (by decide +kernel)) c3) ?_
    refine xc_cons (xh_ge_T rfl (XI_lit (by decide +kernel)) c8) ?_
    refine xc_cons (xh_lt_T (XI_lit (by decide +kernel)) rfl c9) ?_
    refine xc_cons (xh_lt_T (XI_lit (by decide +kernel)) rfl c10) ?_
    refine xc_cons (xh_lt_F rfl (XI_lit (by decide +kernel)) c11) ?_
    refine xc_cons (xh_gt_T rfl (XI_lit (by decide +kernel)) c12) ?_
    refine xc_cons (xh_gt_T (XI_lit (by decide +kernel)) rfl c13) ?_
    exact xc_nil
theorem lf_21_0 : xfin (xev 136 20 xlaw 18 xlo0 [] xh0 [(.gt, .int 0, .sub (.arg 49) (.int 6), false), (.lt, .int 0, .arg 49, true), (.eq, .op2 .iand (.arg 0) (.int 63), .int 21, true), (.lt, .int 1, .arg 49, true), (.lt, .int 2, .arg 49, true), (.lt, .int 3, .arg 49, true), (.lt, .arg 1, .int 0, true), (.lt, .int 1, .arg 49, true), (.lt, .int 2, .arg 49, true), (.lt, .int 3, .arg 49, true), (.lt, .arg 1, .int 0, true), (.gt, .int 6, .sub (.arg 49) (.int 6), true)]) = true := by decide +kernel
theorem lf_21_1 : xfin (xev 144 20 xlaw 18 xlo0 [] xh0 [(.gt, .int 0, .sub (.arg 49) (.int 6), false), (.lt, .int 0, .arg 49, true), (.eq, .op2 .iand (.arg 0) (.int 63), .int 21, true), (.lt, .int 1, .arg 49, true), (.lt, .int 2, .arg 49, true), (.lt, .int 3, .arg 49, true), (.lt, .arg 1, .int 0, false), (.ge, .arg 1, .int 0, true), (.lt, .int 1, .arg 49, true), (.lt, .int 2, .arg 49, true), (.lt, .int 3, .arg 49, true), (.lt, .arg 1, .int 0, false), (.gt, .arg 1, .int (-1), true), (.gt, .int 6, .sub (.arg 49) (.int 6), true)]) = true := by decide +kernel
set_option maxHeartbeats 4000000 in
theorem cv_21 {r : Nat → Value} (h49 : XI r (.arg 49) = 6) (hs : XI r (.sub (.arg 49) (.int 6)) = 0) (hk : XI r (.op2 .iand (.arg 0) (.int 63)) = 21) : ∃ (f : Nat) (E : List xB), (∀ q ∈ E, xhold r q) ∧ xfin (xev f 20 xlaw 18 xlo0 [] xh0 E) = true := by
  have h0 : ¬ (XI r (.sub (.arg 49) (.int 6)) < (0 : Int)) := by omega
  have h1 : (0 : Int) < XI r (.arg 49) := by omega
  have b0 : xhid (-2147483648 ≤ XI r (.arg 0)) := XI_lo r (.arg 0)
  have d0 : xhid (XI r (.arg 0) < 2147483648) := XI_hi r (.arg 0)
  have b1 : xhid (-2147483648 ≤ XI r (.arg 1)) := XI_lo r (.arg 1)
  have d1 : xhid (XI r (.arg 1) < 2147483648) := XI_hi r (.arg 1)
  have b2 : xhid (-2147483648 ≤ XI r (.arg 2)) := XI_lo r (.arg 2)
  have d2 : xhid (XI r (.arg 2) < 2147483648) := XI_hi r (.arg 2)
  have b3 : xhid (-2147483648 ≤ XI r (.arg 3)) := XI_lo r (.arg 3)
  have d3 : xhid (XI r (.arg 3) < 2147483648) := XI_hi r (.arg 3)
  have b4 : xhid (-2147483648 ≤ XI r (.arg 4)) := XI_lo r (.arg 4)
  have d4 : xhid (XI r (.arg 4) < 2147483648) := XI_hi r (.arg 4)
  have b5 : xhid (-2147483648 ≤ XI r (.arg 5)) := XI_lo r (.arg 5)
  have d5 : xhid (XI r (.arg 5) < 2147483648) := XI_hi r (.arg 5)
  have c1 : xhid ((1 : Int) < XI r (.arg 49)) := ((by have z0 : ¬ (XI r (.sub (.arg 49) (.int 6)) < (0 : Int)) := h0; omega) : (1 : Int) < XI r (.arg 49))
  have c2 : xhid ((2 : Int) < XI r (.arg 49)) := ((by have z0 : ¬ (XI r (.sub (.arg 49) (.int 6)) < (0 : Int)) := h0; omega) : (2 : Int) < XI r (.arg 49))
  have c3 : xhid ((3 : Int) < XI r (.arg 49)) := ((by have z0 : ¬ (XI r (.sub (.arg 49) (.int 6)) < (0 : Int)) := h0; omega) : (3 : Int) < XI r (.arg 49))
  refine (Classical.em (XI r (.arg 1) < (0 : Int))).elim (fun (c4 : xhid (XI r (.arg 1) < (0 : Int))) => ?_) (fun (c4 : xhid (¬ (XI r (.arg 1) < (0 : Int)))) => ?_)
  ·
    have c5 : xhid ((1 : Int) < XI r (.arg 49)) := ((by have z0 : (3 : Int) < XI r (.arg 49) := c3; omega) : (1 : Int) < XI r (.arg 49))
    have c6 : xhid ((2 : Int) < XI r (.arg 49)) := ((by have z0 : (3 : Int) < XI r (.arg 49) := c3; omega) : (2 : Int) < XI r (.arg 49))
    have c7 : xhid ((3 : Int) < XI r (.arg 49)) := ((by have z0 : (3 : Int) < XI r (.arg 49) := c3; omega) : (3 : Int) < XI r (.arg 49))
    have c8 : xhid (XI r (.arg 1) < (0 : Int)) := ((by have z0 : XI r (.arg 1) < (0 : Int) := c4; have z1 : -2147483648 ≤ XI r (.arg 1) := b1; have z2 : XI r (.arg 1) < 2147483648 := d1; omega) : XI r (.arg 1) < (0 : Int))
    have c9 : xhid (XI r (.sub (.arg 49) (.int 6)) < (6 : Int)) := ((by omega) : XI r (.sub (.arg 49) (.int 6)) < (6 : Int))
    refine ⟨136, _, ?_, lf_21_0⟩
    refine xc_cons (xh_gt_F (XI_lit (by decide +kernel)) rfl h0) ?_
    refine xc_cons (xh_lt_T (XI_lit (by decide +kernel)) rfl h1) ?_
    refine xc_cons (xh_eq_T rfl (XI_lit (by decide +kernel)) hk) ?_
    refine xc_cons (xh_lt_T (XI_lit (by decide +kernel)) rfl c1) ?_
    refine xc_cons (xh_lt_T (XI_lit (by decide +kernel)) rfl c2) ?_
    refine xc_cons (xh_lt_T (XI_lit (by decide +kernel)) rfl c3) ?_
    refine xc_cons (xh_lt_T rfl (XI_lit (by decide +kernel)) c4) ?_
    refine xc_cons (xh_lt_T (XI_lit (by decide +kernel)) rfl c5) ?_
    refine xc_cons (xh_lt_T (XI_lit (by decide +kernel)) rfl c6) ?_
    refine xc_cons (xh_lt_T (XI_lit (by decide +kernel)) rfl c7) ?_
    refine xc_cons (xh_lt_T rfl (XI_lit (by decide +kernel)) c8) ?_
    refine xc_cons (xh_gt_T (XI_lit (by decide +kernel)) rfl c9) ?_
    exact xc_nil
  ·
    have c10 : xhid ((0 : Int) ≤ XI r (.arg 1)) := ((by have z0 : ¬ (XI r (.arg 1) < (0 : Int)) := c4; have z1 : -2147483648 ≤ XI r (.arg 1) := b1; have z2 : XI r (.arg 1) < 2147483648 := d1; omega) : (0 : Int) ≤ XI r (.arg 1))
    have c11 : xhid ((1 : Int) < XI r (.arg 49)) := ((by have z0 : (3 : Int) < XI r (.arg 49) := c3; omega) : (1 : Int) < XI r (.arg 49))
    have c12 : xhid ((2 : Int) < XI r (.arg 49)) := ((by have z0 : (3 : Int) < XI r (.arg 49) := c3; omega) : (2 : Int) < XI r (.arg 49))
    have c13 : xhid ((3 : Int) < XI r (.arg 49)) := ((by have z0 : (3 : Int) < XI r (.arg 49) := c3; omega) : (3 : Int) < XI r (.arg 49))
    have c14 : xhid (¬ (XI r (.arg 1) < (0 : Int))) := ((by have z0 : (0 : Int) ≤ XI r (.arg 1) := c10; have z1 : -2147483648 ≤ XI r (.arg 1) := b1; have z2 : XI r (.arg 1) < 2147483648 := d1; omega) : ¬ (XI r (.arg 1) < (0 : Int)))
    have c15 : xhid ((-1 : Int) < XI r (.arg 1)) := ((by have z0 : ¬ (XI r (.arg 1) < (0 : Int)) := c14; have z1 : -2147483648 ≤ XI r (.arg 1) := b1; have z2 : XI r (.arg 1) < 2147483648 := d1; omega) : (-1 : Int) < XI r (.arg 1))
    have c16 : xhid (XI r (.sub (.arg 49) (.int 6)) < (6 : Int)) := ((by omega) : XI r (.sub (.arg 49) (.int 6)) < (6 : Int))
    refine ⟨144, _, ?_, lf_21_1⟩
    refine xc_cons (xh_gt_F (XI_lit (by decide +kernel)) rfl h0) ?_
    refine xc_cons (xh_lt_T (XI_lit (by decide +kernel)) rfl h1) ?_
    refine xc_cons (xh_eq_T rfl (XI_lit (by decide +kernel)) hk) ?_
    refine xc_cons (xh_lt_T (XI_lit (by decide +kernel)) rfl c1) ?_
    refine xc_cons (xh_lt_T (XI_lit (by decide +kernel)) rfl c2) ?_
    refine xc_cons (xh_lt_T (XI_lit (by decide +kernel)) rfl c3) ?_
    refine xc_cons (xh_lt_F rfl (XI_lit (by decide +kernel)) c4) ?_
    refine xc_cons (xh_ge_T rfl (XI_lit (by decide +kernel)) c10) ?_
    refine xc_cons (xh_lt_T (XI_lit (by decide +kernel)) rfl c11) ?_
    refine xc_cons (xh_lt_T (XI_lit (by decide +kernel)) rfl c12) ?_
    refine xc_cons (xh_lt_T (XI_lit (by decide +kernel)) rfl c13) ?_
    refine xc_cons (xh_lt_F rfl (XI_lit (by decide +kernel)) c14) ?_
    refine xc_cons (xh_gt_T rfl (XI_lit (by decide +kernel)) c15) ?_
    refine xc_cons (xh_gt_T (XI_lit (by decide +kernel)) rfl c16) ?_
    exact xc_nil
theorem lf_22_0 : xfin (xev 126 20 xlaw 18 xlo0 [] xh0 [(.gt, .int 0, .sub (.arg 49) (.int 6), false), (.lt, .int 0, .arg 49, true), (.eq, .op2 .iand (.arg 0) (.int 63), .int 22, true), (.lt, .int 1, .arg 49, true), (.lt, .int 2, .arg 49, true), (.lt, .arg 1, .int 0, true), (.lt, .int 1, .arg 49, true), (.lt, .int 2, .arg 49, true), (.lt, .arg 1, .int 0, true), (.gt, .int 6, .sub (.arg 49) (.int 6), true)]) = true := by decide +kernel
theorem lf_22_1 : xfin (xev 134 20 xlaw 18 xlo0 [] xh0 [(.gt, .int 0, .sub (.arg 49) (.int 6), false), (.lt, .int 0, .arg 49, true), (.eq, .op2 .iand (.arg 0) (.int 63), .int 22, true), (.lt, .int 1, .arg 49, true), (.lt, .int 2, .arg 49, true), (.lt, .arg 1, .int 0, false), (.ge, .arg 1, .int 0, true), (.lt, .int 1, .arg 49, true), (.lt, .int 2, .arg 49, true), (.lt, .arg 1, .int 0, false), (.gt, .arg 1, .int (-1), true), (.gt, .int 6, .sub (.arg 49) (.int 6), true)]) = true := by decide +kernel
set_option maxHeartbeats 4000000 in
theorem cv_22 {r : Nat → Value} (h49 : XI r (.arg 49) = 6) (hs : XI r (.sub (.arg 49) (.int 6)) = 0) (hk : XI r (.op2 .iand (.arg 0) (.int 63)) = 22) : ∃ (f : Nat) (E : List xB), (∀ q ∈ E, xhold r q) ∧ xfin (xev f 20 xlaw 18 xlo0 [] xh0 E) = true := by
  have h0 : ¬ (XI r (.sub (.arg 49) (.int 6)) < (0 : Int)) := by omega
  have h1 : (0 : Int) < XI r (.arg 49) := by omega
  have b0 : xhid (-2147483648 ≤ XI r (.arg 0)) := XI_lo r (.arg 0)
  have d0 : xhid (XI r (.arg 0) < 2147483648) := XI_hi r (.arg 0)
  have b1 : xhid (-2147483648 ≤ XI r (.arg 1)) := XI_lo r (.arg 1)
  have d1 : xhid (XI r (.arg 1) < 2147483648) := XI_hi r (.arg 1)
  have b2 : xhid (-2147483648 ≤ XI r (.arg 2)) := XI_lo r (.arg 2)
  have d2 : xhid (XI r (.arg 2) < 2147483648) := XI_hi r (.arg 2)
  have b3 : xhid (-2147483648 ≤ XI r (.arg 3)) := XI_lo r (.arg 3)
  have d3 : xhid (XI r (.arg 3) < 2147483648) := XI_hi r (.arg 3)
  have b4 : xhid (-2147483648 ≤ XI r (.arg 4)) := XI_lo r (.arg 4)
  have d4 : xhid (XI r (.arg 4) < 2147483648) := XI_hi r (.arg 4)
  have b5 : xhid (-2147483648 ≤ XI r (.arg 5)) := XI_lo r (.arg 5)
  have d5 : xhid (XI r (.arg 5) < 2147483648) := XI_hi r (.arg 5)
  have c1 : xhid ((1 : Int) < XI r (.arg 49)) := ((by have z0 : ¬ (XI r (.sub (.arg 49) (.int 6)) < (0 : Int)) := h0; omega) : (1 : Int) < XI r (.arg 49))
  have c2 : xhid ((2 : Int) < XI r (.arg 49)) := ((by have z0 : ¬ (XI r (.sub (.arg 49) (.int 6)) < (0 : Int)) := h0; omega) : (2 : Int) < XI r (.arg 49))
  refine (Classical.em (XI r (.arg 1) < (0 : Int))).elim (fun (c3 : xhid (XI r (.arg 1) < (0 : Int))) => ?_) (fun (c3 : xhid (¬ (XI r (.arg 1) < (0 : Int)))) => ?_)
  ·
    have c4 : xhid ((1 : Int) < XI r (.arg 49)) := ((by have z0 : (2 : Int) < XI r (.arg 49) := c2; omega) : (1 : Int) < XI r (.arg 49))
    have c5 : xhid ((2 : Int) < XI r (.arg 49)) := ((by have z0 : (2 : Int) < XI r (.arg 49) := c2; omega) : (2 : Int) < XI r (.arg 49))
    have c6 : xhid (XI r (.arg 1) < (0 : Int)) := ((by have z0 : XI r (.arg 1) < (0 : Int) := c3; have z1 : -2147483648 ≤ XI r (.arg 1) := b1; have z2 : XI r (.arg 1) < 2147483648 := d1; omega) : XI r (.arg 1) < (0 : Int))
    have c7 : xhid (XI r (.sub (.arg 49) (.int 6)) < (6 : Int)) := ((by omega) : XI r (.sub (.arg 49) (.int 6)) < (6 : Int))
    refine ⟨126, _, ?_, lf_22_0⟩
    refine xc_cons (xh_gt_F (XI_lit (by decide +kernel)) rfl h0) ?_
    refine xc_cons (xh_lt_T (XI_lit (by decide +kernel)) rfl h1) ?_
    refine xc_cons (xh_eq_T rfl (XI_lit (by decide +kernel)) hk) ?_
    refine xc_cons (xh_lt_T (XI_lit (by decide +kernel)) rfl c1) ?_
    refine xc_cons (xh_lt_T (XI_lit (by decide +kernel)) rfl c2) ?_
    refine xc_cons (xh_lt_T rfl (XI_lit (by decide +kernel)) c3) ?_
    refine xc_cons (xh_lt_T (XI_lit (by decide +kernel)) rfl c4) ?_
    refine xc_cons (xh_lt_T (XI_lit (by decide +kernel)) rfl c5) ?_
    refine xc_cons (xh_lt_T rfl (XI_lit (by decide +kernel)) c6) ?_
    refine xc_cons (xh_gt_T (XI_lit (by decide +kernel)) rfl c7) ?_
    exact xc_nil
  ·
    have c8 : xhid ((0 : Int) ≤ XI r (.arg 1)) := ((by have z0 : ¬ (XI r (.arg 1) < (0 : Int)) := c3; have z1 : -2147483648 ≤ XI r (.arg 1) := b1; have z2 : XI r (.arg 1) < 2147483648 := d1; omega) : (0 : Int) ≤ XI r (.arg 1))
    have c9 : xhid ((1 : Int) < XI r (.arg 49)) := ((by have z0 : (2 : Int) < XI r (.arg 49) := c2; omega) : (1 : Int) < XI r (.arg 49))
    have c10 : xhid ((2 : Int) < XI r (.arg 49)) := ((by have z0 : (2 : Int) < XI r (.arg 49) := c2; omega) : (2 : Int) < XI r (.arg 49))
    have c11 : xhid (¬ (XI r (.arg 1) < (0 : Int))) := ((by have z0 : (0 : Int) ≤ XI r (.arg 1) := c8; have z1 : -2147483648 ≤ XI r (.arg 1) := b1; have z2 : XI r (.arg 1) < 2147483648 := d1; omega) : ¬ (XI r (.arg 1) < (0 : Int)))
    have c12 : xhid ((-1 : Int) < XI r (.arg 1)) := ((by have z0 : ¬ (XI r (.arg 1) < (0 : Int)) := c11; have z1 : -2147483648 ≤ XI r (.arg 1) := b1; have z2 : XI r (.arg 1) < 2147483648 := d1; omega) : (-1 : Int) < XI r (.arg 1))
    have c13 : xhid (XI r (.sub (.arg 49) (.int 6)) < (6 : Int)) := ((by omega) : XI r (.sub (.arg 49) (.int 6)) < (6 : Int))
    refine ⟨134, _, ?_, lf_22_1⟩
    refine xc_cons (xh_gt_F (XI_lit (by decide +kernel)) rfl h0) ?_
    refine xc_cons (xh_lt_T (XI_lit (by decide +kernel)) rfl h1) ?_
    refine xc_cons (xh_eq_T rfl (XI_lit (by decide +kernel)) hk) ?_
    refine xc_cons (xh_lt_T (XI_lit (by decide +kernel)) rfl c1) ?_
    refine xc_cons (xh_lt_T (XI_lit (by decide +kernel)) rfl c2) ?_
    refine xc_cons (xh_lt_F rfl (XI_lit (by decide +kernel)) c3) ?_
    refine xc_cons (xh_ge_T rfl (XI_lit (by decide +kernel)) c8) ?_
    refine xc_cons (xh_lt_T (XI_lit (by decide +kernel)) rfl c9) ?_
    refine xc_cons (xh_lt_T (XI_lit (by decide +kernel)) rfl c10) ?_
    refine xc_cons (xh_lt_F rfl (XI_lit (by decide +kernel)) c11) ?_
    refine xc_cons (xh_gt_T rfl (XI_lit (by decide +kernel)) c12) ?_
    refine xc_cons (xh_gt_T (XI_lit (by decide +kernel)) rfl c13) ?_
    exact xc_nil
theorem lf_23_0 : xfin (xev 136 20 xlaw 18 xlo0 [] xh0 [(.gt, .int 0, .sub (.arg 49) (.int 6), false), (.lt, .int 0, .arg 49, true), (.eq, .op2 .iand (.arg 0) (.int 63), .int 23, true), (.lt, .int 1, .arg 49, true), (.lt, .int 2, .arg 49, true), (.lt, .int 3, .arg 49, true), (.lt, .arg 1, .int 0, true), (.lt, .int 1, .arg 49, true), (.lt, .int 2, .arg 49, true), (.lt, .int 3, .arg 49, true), (.lt, .arg 1, .int 0, true), (.gt, .int 6, .sub (.arg 49) (.int 6), true)]) = true := by decide +kernel
theorem lf_23_1 : xfin (xev 144 20 xlaw 18 xlo0 [] xh0 [(.gt, .int 0, .sub (.arg 49) (.int 6), false), (.lt, .int 0, .arg 49, true), (.eq, .op2 .iand (.arg 0) (.int 63), .int 23, true), (.lt, .int 1, .arg 49, true), (.lt, .int 2, .arg 49, true), (.lt, .int 3, .arg 49, true), (.lt, .arg 1, .int 0, false), (.ge, .arg 1, .int 0, true), (.lt, .int 1, .arg 49, true), (.lt, .int 2, .arg 49, true), (.lt, .int 3, .arg 49, true), (.lt, .arg 1, .int 0, false), (.gt, .arg 1, .int (-1), true), (.gt, .int 6, .sub (.arg 49) (.int 6), true)]) = true := by decide +kernel
set_option maxHeartbeats 4000000 in
theorem cv_23 {r : Nat → Value} (h49 : XI r (.arg 49) = 6) (hs : XI r (.sub (.arg 49) (.int 6)) = 0) (hk : XI r (.op2 .iand (.arg 0) (.int 63)) = 23) : ∃ (f : Nat) (E : List xB), (∀ q ∈ E, xhold r q) ∧ xfin (xev f 20 xlaw 18 xlo0 [] xh0 E) = true := by
  have h0 : ¬ (XI r (.sub (.arg 49) (.int 6)) < (0 : Int)) := by omega
  have h1 : (0 : Int) < XI r (.arg 49) := by omega
  have b0 : xhid (-2147483648 ≤ XI r (.arg 0)) := XI_lo r (.arg 0)
  have d0 : xhid (XI r (.arg 0) < 2147483648) := XI_hi r (.arg 0)
  have b1 : xhid (-2147483648 ≤ XI r (.arg 1)) := XI_lo r (.arg 1)
  have d1 : xhid (XI r (.arg 1) < 2147483648) := XI_hi r (.arg 1)
  have b2 : xhid (-2147483648 ≤ XI r (.arg 2)) := XI_lo r (.arg 2)
  have d2 : xhid (XI r (.arg 2) < 2147483648) := XI_hi r (.arg 2)
  have b3 : xhid (-2147483648 ≤ XI r (.arg 3)) := XI_lo r (.arg 3)
  have d3 : xhid (XI r (.arg 3) < 2147483648) := XI_hi r (.arg 3)
  have b4 : xhid (-2147483648 ≤ XI r (.arg 4)) := XI_lo r (.arg 4)
  have d4 : xhid (XI r (.arg 4) < 2147483648) := XI_hi r (.arg 4)
  have b5 : xhid (-2147483648 ≤ XI r (.arg 5)) := XI_lo r (.arg 5)
  have d5 : xhid (XI r (.arg 5) < 2147483648) := XI_hi r (.arg 5)
  have c1 : xhid ((1 : Int) < XI r (.arg 49)) := ((by have z0 : ¬ (XI r (.sub (.arg 49) (.int 6)) < (0 : Int)) := h0; omega) : (1 : Int) < XI r (.arg 49))
  have c2 : xhid ((2 : Int) < XI r (.arg 49)) := ((by have z0 : ¬ (XI r (.sub (.arg 49) (.int 6)) < (0 : Int)) := h0; omega) : (2 : Int) < XI r (.arg 49))
  have c3 : xhid ((3 : Int) < XI r (.arg 49)) := ((by have z0 : ¬ (XI r (.sub (.arg 49) (.int 6)) < (0 : Int)) := h0; omega) : (3 : Int) < XI r (.arg 49))
  refine (Classical.em (XI r (.arg 1) < (0 : Int))).elim (fun (c4 : xhid (XI r (.arg 1) < (0 : Int))) => ?_) (fun (c4 : xhid (¬ (XI r (.arg 1) < (0 : Int)))) => ?_)
  ·
    have c5 : xhid ((1 : Int) < XI r (.arg 49)) := ((by have z0 : (3 : Int) < XI r (.arg 49) := c3; omega) : (1 : Int) < XI r (.arg 49))
    have c6 : xhid ((2 : Int) < XI r (.arg 49)) := ((by have z0 : (3 : Int) < XI r (.arg 49) := c3; omega) : (2 : Int) < XI r (.arg 49))
    have c7 : xhid ((3 : Int) < XI r (.arg 49)) := ((by have z0 : (3 : Int) < XI r (.arg 49) := c3; omega) : (3 : Int) < XI r (.arg 49))
    have c8 : xhid (XI r (.arg 1) < (0 : Int)) := ((by have z0 : XI r (.arg 1) < (0 : Int) := c4; have z1 : -2147483648 ≤ XI r (.arg 1) := b1; have z2 : XI r (.arg 1) < 2147483648 := d1; omega) : XI r (.arg 1) < (0 : Int))
    have c9 : xhid (XI r (.sub (.arg 49) (.int 6)) < (6 : Int)) := ((by omega) : XI r (.sub (.arg 49) (.int 6)) < (6 : Int))
    refine ⟨136, _, ?_, lf_23_0⟩
    refine xc_cons (xh_gt_F (XI_lit (by decide +kernel)) rfl h0) ?_
    refine xc_cons (xh_lt_T (XI_lit (by decide +kernel)) rfl h1) ?_
    refine xc_cons (xh_eq_T rfl (XI_lit (by decide +kernel)) hk) ?_
    refine xc_cons (xh_lt_T (XI_lit (by decide +kernel)) rfl c1) ?_
    refine xc_cons (xh_lt_T (XI_lit (by decide +kernel)) rfl c2) ?_
    refine xc_cons (xh_lt_T (XI_lit (by decide +kernel)) rfl c3) ?_
    refine xc_cons (xh_lt_T rfl (XI_lit (by decide +kernel)) c4) ?_
    refine xc_cons (xh_lt_T (XI_lit (by decide +kernel)) rfl c5) ?_
    refine xc_cons (xh_lt_T (XI_lit (by decide +kernel)) rfl c6) ?_
    refine xc_cons (xh_lt_T (XI_lit (by decide +kernel)) rfl c7) ?_
    refine xc_cons (xh_lt_T rfl (XI_lit (by decide +kernel)) c8) ?_
    refine xc_cons (xh_gt_T (XI_lit (by decide +kernel)) rfl c9) ?_
    exact xc_nil
  ·
    have c10 : xhid ((0 : Int) ≤ XI r (.arg 1)) := ((by have z0 : ¬ (XI r (.arg 1) < (0 : Int)) := c4; have z1 : -2147483648 ≤ XI r (.arg 1) := b1; have z2 : XI r (.arg 1) < 2147483648 := d1; omega) : (0 : Int) ≤ XI r (.arg 1))
    have c11 : xhid ((1 : Int) < XI r (.arg 49)) := ((by have z0 : (3 : Int) < XI r (.arg 49) := c3; omega) : (1 : Int) < XI r (.arg 49))
    have c12 : xhid ((2 : Int) < XI r (.arg 49)) := ((by have z0 : (3 : Int) < XI r (.arg 49) := c3; omega) : (2 : Int) < XI r (.arg 49))
    have c13 : xhid ((3 : Int) < XI r (.arg 49)) := ((by have z0 : (3 : Int) < XI r (.arg 49) := c3; omega) : (3 : Int) < XI r (.arg 49))
    have c14 : xhid (¬ (XI r (.arg 1) < (0 : Int))) := ((by have z0 : (0 : Int) ≤ XI r (.arg 1) := c10; have z1 : -2147483648 ≤ XI r (.arg 1) := b1; have z2 : XI r (.arg 1) < 2147483648 := d1; omega) : ¬ (XI r (.arg 1) < (0 : Int)))
    have c15 : xhid ((-1 : Int) < XI r (.arg 1)) := ((by have z0 : ¬ (XI r (.arg 1) < (0 : Int)) := c14; have z1 : -2147483648 ≤ XI r (.arg 1) := b1; have z2 : XI r (.arg 1) < 2147483648 := d1; omega) : (-1 : Int) < XI r (.arg 1))
    have c16 : xhid (XI r (.sub (.arg 49) (.int 6)) < (6 : Int)) := ((by omega) : XI r (.sub (.arg 49) (.int 6)) < (6 : Int))
    refine ⟨144, _, ?_, lf_23_1⟩
    refine xc_cons (xh_gt_F (XI_lit (by decide +kernel)) rfl h0) ?_
    refine xc_cons (xh_lt_T (XI_lit (by decide +kernel)) rfl h1) ?_
    refine xc_cons (xh_eq_T rfl (XI_lit (by decide +kernel)) hk) ?_
    refine xc_cons (xh_lt_T (XI_lit (by decide +kernel)) rfl c1) ?_
    refine xc_cons (xh_lt_T (XI_lit (by decide +kernel)) rfl c2) ?_
    refine xc_cons (xh_lt_T (XI_lit (by decide +kernel)) rfl c3) ?_
    refine xc_cons (xh_lt_F rfl (XI_lit (by decide +kernel)) c4) ?_
    refine xc_cons (xh_ge_T rfl (XI_lit (by decide +kernel)) c10) ?_
    refine xc_cons (xh_lt_T (XI_lit (by decide +kernel)) rfl c11) ?_
    refine xc_cons (xh_lt_T (XI_lit (by decide +kernel)) rfl c12) ?_
    refine xc_cons (xh_lt_T (XI_lit (by decide +kernel)) rfl c13) ?_
    refine xc_cons (xh_lt_F rfl (XI_lit (by decide +kernel)) c14) ?_
    refine xc_cons (xh_gt_T rfl (XI_lit (by decide +kernel)) c15) ?_
    refine xc_cons (xh_gt_T (XI_lit (by decide +kernel)) rfl c16) ?_
    exact xc_nil
theorem lf_24_0 : xfin (xev 116 20 xlaw 18 xlo0 [] xh0 [(.gt, .int 0, .sub (.arg 49) (.int 6), false), (.lt, .int 0, .arg 49, true), (.eq, .op2 .iand (.arg 0) (.int 63), .int 24, true), (.lt, .int 1, .arg 49, true), (.lt, .arg 1, .int 0, true), (.lt, .int 1, .arg 49, true), (.lt, .arg 1, .int 0, true), (.gt, .int 6, .sub (.arg 49) (.int 6), true)]) = true := by decide +kernel
theorem lf_24_1 : xfin (xev 124 20 xlaw 18 xlo0 [] xh0 [(.gt, .int 0, .sub (.arg 49) (.int 6), false), (.lt, .int 0, .arg 49, true), (.eq, .op2 .iand (.arg 0) (.int 63), .int 24, true), (.lt, .int 1, .arg 49, true), (.lt, .arg 1, .int 0, false), (.ge, .arg 1, .int 0, true), (.lt, .int 1, .arg 49, true), (.lt, .arg 1, .int 0, false), (.gt, .arg 1, .int (-1), true), (.gt, .int 6, .sub (.arg 49) (.int 6), true)]) = true := by decide +kernel
set_option maxHeartbeats 4000000 in
theorem cv_24 {r : Nat → Value} (h49 : XI r (.arg 49) = 6) (hs : XI r (.sub (.arg 49) (.int 6)) = 0) (hk : XI r (.op2 .iand (.arg 0) (.int 63)) = 24) : ∃ (f : Nat) (E : List xB), (∀ q ∈ E, xhold r q) ∧ xfin (xev f 20 xlaw 18 xlo0 [] xh0 E) = true := by
  have h0 : ¬ (XI r (.sub (.arg 49) (.int 6)) < (0 : Int)) := by omega
  have h1 : (0 : Int) < XI r (.arg 49) := by omega
  have b0 : xhid (-2147483648 ≤ XI r (.arg 0)) := XI_lo r (.arg 0)
  have d0 : xhid (XI r (.arg 0) < 2147483648) := XI_hi r (.arg 0)
  have b1 : xhid (-2147483648 ≤ XI r (.arg 1)) := XI_lo r (.arg 1)
  have d1 : xhid (XI r (.arg 1) < 2147483648) := XI_hi r (.arg 1)
  have b2 : xhid (-2147483648 ≤ XI r (.arg 2)) := XI_lo r (.arg 2)
  have d2 : xhid (XI r (.arg 2) < 2147483648) := XI_hi r (.arg 2)
  have b3 : xhid (-2147483648 ≤ XI r (.arg 3)) := XI_lo r (.arg 3)
  have d3 : xhid (XI r (.arg 3) < 2147483648) := XI_hi r (.arg 3)
  have b4 : xhid (-2147483648 ≤ XI r (.arg 4)) := XI_lo r (.arg 4)
  have d4 : xhid (XI r (.arg 4) < 2147483648) := XI_hi r (.arg 4)
  have b5 : xhid (-2147483648 ≤ XI r (.arg 5)) := XI_lo r (.arg 5)
  have d5 : xhid (XI r (.arg 5) < 2147483648) := XI_hi r (.arg 5)
  have c1 : xhid ((1 : Int) < XI r (.arg 49)) := ((by have z0 : ¬ (XI r (.sub (.arg 49) (.int 6)) < (0 : Int)) := h0; omega) : (1 : Int) < XI r (.arg 49))
  refine (Classical.em (XI r (.arg 1) < (0 : Int))).elim (fun (c2 : xhid (XI r (.arg 1) < (0 : Int))) => ?_) (fun (c2 : xhid (¬ (XI r (.arg 1) < (0 : Int)))) => ?_)
  ·
    have c3 : xhid ((1 : Int) < XI r (.arg 49)) := ((by have z0 : (1 : Int) < XI r (.arg 49) := c1; omega) : (1 : Int) < XI r (.arg 49))
    have c4 : xhid (XI r (.arg 1) < (0 : Int)) := ((by have z0 : XI r (.arg 1) < (0 : Int) := c2; have z1 : -2147483648 ≤ XI r (.arg 1) := b1; have z2 : XI r (.arg 1) < 2147483648 := d1; omega) : XI r (.arg 1) < (0 : Int))
    have c5 : xhid (XI r (.sub (.arg 49) (.int 6)) < (6 : Int)) := ((by omega) : XI r (.sub (.arg 49) (.int 6)) < (6 : Int))
    refine ⟨116, _, ?_, lf_24_0⟩
    refine xc_cons (xh_gt_F (XI_lit (by decide +kernel)) rfl h0) ?_
    refine xc_cons (xh_lt_T (XI_lit (by decide +kernel)) rfl h1) ?_
    refine xc_cons (xh_eq_T rfl (XI_lit (by decide +kernel)) hk) ?_
    refine xc_cons (xh_lt_T (XI_lit (by decide +kernel)) rfl c1) ?_
    refine xc_cons (xh_lt_T rfl (XI_lit (by decide +kernel)) c2) ?_
    refine xc_cons (xh_lt_T (XI_lit (by decide +kernel)) rfl c3) ?_
    refine xc_cons (xh_lt_T rfl (XI_lit (by decide +kernel)) c4) ?_
    refine xc_cons (xh_gt_T (XI_lit (by decide +kernel)) rfl c5) ?_
    exact xc_nil
  ·
    have c6 : xhid ((0 : Int) ≤ XI r (.arg 1)) := ((by have z0 : ¬ (XI r (.arg 1) < (0 : Int)) := c2; have z1 : -2147483648 ≤ XI r (.arg 1) := b1; have z2 : XI r (.arg 1) < 2147483648 := d1; omega) : (0 : Int) ≤ XI r (.arg 1))
    have c7 : xhid ((1 : Int) < XI r (.arg 49)) := ((by have z0 : (1 : Int) < XI r (.arg 49) := c1; omega) : (1 : Int) < XI r (.arg 49))
    have c8 : xhid (¬ (XI r (.arg 1) < (0 : Int))) := ((by have z0 : (0 : Int) ≤ XI r (.arg 1) := c6; have z1 : -2147483648 ≤ XI r (.arg 1) := b1; have z2 : XI r (.arg 1) < 2147483648 := d1; omega) : ¬ (XI r (.arg 1) < (0 : Int)))
    have c9 : xhid ((-1 : Int) < XI r (.arg 1)) := ((by have z0 : ¬ (XI r (.arg 1) < (0 : Int)) := c8; have z1 : -2147483648 ≤ XI r (.arg 1) := b1; have z2 : XI r (.arg 1) < 2147483648 := d1; omega) : (-1 : Int) < XI r (.arg 1))
    have c10 : xhid (XI r (.sub (.arg 49) (.int 6)) < (6 : Int)) := ((by omega) : XI r (.sub (.arg 49) (.int 6)) < (6 : Int))
    refine ⟨124, _, ?_, lf_24_1⟩
    refine xc_cons (xh_gt_F (XI_lit (by decide +kernel)) rfl h0) ?_
    refine xc_cons (xh_lt_T (XI_lit (by decide +kernel)) rfl h1) ?_
    refine xc_cons (xh_eq_T rfl (XI_lit (by decide +kernel)) hk) ?_
    refine xc_cons (xh_lt_T (XI_lit (by decide +kernel)) rfl c1) ?_
    refine xc_cons (xh_lt_F rfl (XI_lit (by decide +kernel)) c2) ?_
    refine xc_cons (xh_ge_T rfl (XI_lit (by decide +kernel)) c6) ?_
    refine xc_cons (xh_lt_T (XI_lit (by decide +kernel)) rfl c7) ?_
    refine xc_cons (xh_lt_F rfl (XI_lit (by decide +kernel)) c8) ?_
    refine xc_cons (xh_gt_T rfl (XI_lit (by decide +kernel)) c9) ?_
    refine xc_cons (xh_gt_T (XI_lit (by decide +kernel)) rfl c10) ?_
    exact xc_nil
theorem lf_25_0 : xfin (xev 101 20 xlaw 18 xlo0 [] xh0 [(.gt, .int 0, .sub (.arg 49) (.int 6), false), (.lt, .int 0, .arg 49, true), (.eq, .op2 .iand (.arg 0) (.int 63), .int 25, true), (.lt, .int 1, .arg 49, true), (.lt, .arg 1, .int 0, true), (.lt, .int 1, .arg 49, true), (.lt, .arg 1, .int 0, true), (.gt, .int 6, .sub (.arg 49) (.int 6), true)]) = true := by decide +kernel
theorem lf_25_1 : xfin (xev 98 20 xlaw 18 xlo0 [] xh0 [(.gt, .int 0, .sub (.arg 49) (.int 6), false), (.lt, .int 0, .arg 49, true), (.eq, .op2 .iand (.arg 0) (.int 63), .int 25, true), (.lt, .int 1, .arg 49, true), (.lt, .arg 1, .int 0, false), (.le, .arg 1, .int 1048575, true), (.lt, .int 1, .arg 49, true), (.lt, .arg 1, .int 0, false), (.gt, .arg 1, .int 1048575, false), (.gt, .int 6, .sub (.arg 49) (.int 6), true)]) = true := by decide +kernel
theorem lf_25_2 : xfin (xev 107 20 xlaw 18 xlo0 [] xh0 [(.gt, .int 0, .sub (.arg 49) (.int 6), false), (.lt, .int 0, .arg 49, true), (.eq, .op2 .iand (.arg 0) (.int 63), .int 25, true), (.lt, .int 1, .arg 49, true), (.lt, .arg 1, .int 0, false), (.le, .arg 1, .int 1048575, false), (.lt, .int 1, .arg 49, true), (.lt, .arg 1, .int 0, false), (.gt, .arg 1, .int 1048575, true), (.gt, .int 6, .sub (.arg 49) (.int 6), true)]) = true := by decide +kernel
set_option maxHeartbeats 4000000 in
theorem cv_25 {r : Nat → Value} (h49 : XI r (.arg 49) = 6) (hs : XI r (.sub (.arg 49) (.int 6)) = 0) (hk : XI r (.op2 .iand (.arg 0) (.int 63)) = 25) : ∃ (f : Nat) (E : List xB), (∀ q ∈ E, xhold r q) ∧ xfin (xev f 20 xlaw 18 xlo0 [] xh0 E) = true := by
  have h0 : ¬ (XI r (.sub (.arg 49) (.int 6)) < (0 : Int)) := by omega
  have h1 : (0 : Int) < XI r (.arg 49) := by omega
  have b0 : xhid (-2147483648 ≤ XI r (.arg 0)) := XI_lo r (.arg 0)
  have d0 : xhid (XI r (.arg 0) < 2147483648) := XI_hi r (.arg 0)
  have b1 : xhid (-2147483648 ≤ XI r (.arg 1)) := XI_lo r (.arg 1)
  have d1 : xhid (XI r (.arg 1) < 2147483648) := XI_hi r (.arg 1)
  have b2 : xhid (-2147483648 ≤ XI r (.arg 2)) := XI_lo r (.arg 2)
  have d2 : xhid (XI r (.arg 2) < 2147483648) := XI_hi r (.arg 2)
  have b3 : xhid (-2147483648 ≤ XI r (.arg 3)) := XI_lo r (.arg 3)
  have d3 : xhid (XI r (.arg 3) < 2147483648) := XI_hi r (.arg 3)
  have b4 : xhid (-2147483648 ≤ XI r (.arg 4)) := XI_lo r (.arg 4)
  have d4 : xhid (XI r (.arg 4) < 2147483648) := XI_hi r (.arg 4)
  have b5 : xhid (-2147483648 ≤ XI r (.arg 5)) := XI_lo r (.arg 5)
  have d5 : xhid (XI r (.arg 5) < 2147483648) := XI_hi r (.arg 5)
  have c1 : xhid ((1 : Int) < XI r (.arg 49)) := ((by have z0 : ¬ (XI r (.sub (.arg 49) (.int 6)) < (0 : Int)) := h0; omega) : (1 : Int) < XI r (.arg 49))
  refine (Classical.em (XI r (.arg 1) < (0 : Int))).elim (fun (c2 : xhid (XI r (.arg 1) < (0 : Int))) => ?_) (fun (c2 : xhid (¬ (XI r (.arg 1) < (0 : Int)))) => ?_)
  ·
    have c3 : xhid ((1 : Int) < XI r (.arg 49)) := ((by have z0 : (1 : Int) < XI r (.arg 49) := c1; omega) : (1 : Int) < XI r (.arg 49))
    have c4 : xhid (XI r (.arg 1) < (0 : Int)) := ((by have z0 : XI r (.arg 1) < (0 : Int) := c2; have z1 : -2147483648 ≤ XI r (.arg 1) := b1; have z2 : XI r (.arg 1) < 2147483648 := d1; omega) : XI r (.arg 1) < (0 : Int))
    have c5 : xhid (XI r (.sub (.arg 49) (.int 6)) < (6 : Int)) := ((by omega) : XI r (.sub (.arg 49) (.int 6)) < (6 : Int))
    refine ⟨101, _, ?_, lf_25_0⟩
    refine xc_cons (xh_gt_F (XI_lit (by decide +kernel)) rfl h0) ?_
    refine xc_cons (xh_lt_T (XI_lit (by decide +kernel)) rfl h1) ?_
    refine xc_cons (xh_eq_T rfl (XI_lit (by decide +kernel)) hk) ?_
    refine xc_cons (xh_lt_T (XI_lit (by decide +kernel)) rfl c1) ?_
    refine xc_cons (xh_lt_T rfl (XI_lit (by decide +kernel)) c2) ?_
    refine xc_cons (xh_lt_T (XI_lit (by decide +kernel)) rfl c3) ?_
    refine xc_cons (xh_lt_T rfl (XI_lit (by decide +kernel)) c4) ?_
    refine xc_cons (xh_gt_T (XI_lit (by decide +kernel)) rfl c5) ?_
    exact xc_nil
  ·
    refine (Classical.em (XI r (.arg 1) ≤ (1048575 : Int))).elim (fun (c6 : xhid (XI r (.arg 1) ≤ (1048575 : Int))) => ?_) (fun (c6 : xhid (¬ (XI r (.arg 1) ≤ (1048575 : Int)))) => ?_)
    ·
      have c7 : xhid ((1 : Int) < XI r (.arg 49)) := ((by have z0 : (1 : Int) < XI r (.arg 49) := c1; omega) : (1 : Int) < XI r (.arg 49))
      have c8 : xhid (¬ (XI r (.arg 1) < (0 : Int))) := ((by have z0 : ¬ (XI r (.arg 1) < (0 : Int)) := c2; have z1 : -2147483648 ≤ XI r (.arg 1) := b1; have z2 : XI r (.arg 1) < 2147483648 := d1; omega) : ¬ (XI r (.arg 1) < (0 : Int)))
      have c9 : xhid (¬ ((1048575 : Int) < XI r (.arg 1))) := ((by have z0 : XI r (.arg 1) ≤ (1048575 : Int) := c6; have z1 : -2147483648 ≤ XI r (.arg 1) := b1; have z2 : XI r (.arg 1) < 2147483648 := d1; omega) : ¬ ((1048575 : Int) < XI r (.arg 1)))
      have c10 : xhid (XI r (.sub (.arg 49) (.int 6)) < (6 : Int)) := ((by omega) : XI r (.sub (.arg 49) (.int 6)) < (6 : Int))
      refine ⟨98, _, ?_, lf_25_1⟩
      refine xc_cons (xh_gt_F (XI_lit (by decide +kernel)) rfl h0) ?_
      refine xc_cons (xh_lt_T (XI_lit (by decide +kernel)) rfl h1) ?_
      refine xc_cons (xh_eq_T rfl (XI_lit (by decide +kernel)) hk) ?_
      refine xc_cons (xh_lt_T (XI_lit (by decide +kernel)) rfl c1) ?_
      refine xc_cons (xh_lt_F rfl (XI_lit (by decide +kernel)) c2) ?_
      refine xc_cons (xh_le_T rfl (XI_lit (by decide +kernel)) c6) ?_
      refine xc_cons (xh_lt_T (XI_lit (by decide +kernel)) rfl c7) ?_
      refine xc_cons (xh_lt_F rfl (XI_lit (by decide +kernel)) c8) ?_
      refine xc_cons (xh_gt_F rfl (XI_lit (by decide +kernel)) c9) ?_
      refine xc_cons (xh_gt_T (XI_lit (by decide +kernel)) rfl c10) ?_
      exact xc_nil
    ·
      have c11 : xhid ((1 : Int) < XI r (.arg 49)) := ((by have z0 : (1 : Int) < XI r (.arg 49) := c1; omega) : (1 : Int) < XI r (.arg 49))
      have c12 : xhid (¬ (XI r (.arg 1) < (0 : Int))) := ((by have z0 : ¬ (XI r (.arg 1) ≤ (1048575 : Int)) := c6; have z1 : -2147483648 ≤ XI r (.arg 1) := b1; have z2 : XI r (.arg 1) < 2147483648 := d1; omega) : ¬ (XI r (.arg 1) < (0 : Int)))
      have c13 : xhid ((1048575 : Int) < XI r (.arg 1)) := ((by have z0 : ¬ (XI r (.arg 1) ≤ (1048575 : Int)) := c6; have z1 : -2147483648 ≤ XI r (.arg 1) := b1; have z2 : XI r (.arg 1) < 2147483648 := d1; omega) : (1048575 : Int) < XI r (.arg 1))
      have c14 : xhid (XI r (.sub (.arg 49) (.int 6)) < (6 : Int)) := ((by omega) : XI r (.sub (.arg 49) (.int 6)) < (6 : Int))
      refine ⟨107, _, ?_, lf_25_2⟩
      refine xc_cons (xh_gt_F (XI_lit (by decide +kernel)) rfl h0) ?_
      refine xc_cons (xh_lt_T (XI_lit (by decide +kernel)) rfl h1) ?_
      refine xc_cons (xh_eq_T rfl (XI_lit (by decide +kernel)) hk) ?_
      refine xc_cons (xh_lt_T (XI_lit (by decide +kernel)) rfl c1) ?_
      refine xc_cons (xh_lt_F rfl (XI_lit (by decide +kernel)) c2) ?_
      refine xc_cons (xh_le_F rfl (XI_lit (by decide +kernel)) c6) ?_
      refine xc_cons (xh_lt_T (XI_lit (by decide +kernel)) rfl c11) ?_
      refine xc_cons (xh_lt_F rfl (XI_lit (by decide +kernel)) c12) ?_
      refine xc_cons (xh_gt_T rfl (XI_lit (by decide +kernel)) c13) ?_
      refine xc_cons (xh_gt_T (XI_lit (by decide +kernel)) rfl c14) ?_
      exact xc_nil
theorem lf_26_0 : xfin (xev 126 20 xlaw 18 xlo0 [] xh0 [(.gt, .int 0, .sub (.arg 49) (.int 6), false), (.lt, .int 0, .arg 49, true), (.eq, .op2 .iand (.arg 0) (.int 63), .int 26, true), (.lt, .int 1, .arg 49, true), (.lt, .int 2, .arg 49, true), (.lt, .arg 1, .int 0, true), (.lt, .int 1, .arg 49, true), (.lt, .int 2, .arg 49, true), (.lt, .arg 1, .int 0, true), (.gt, .int 6, .sub (.arg 49) (.int 6), true)]) = true := by decide +kernel
theorem lf_26_1 : xfin (xev 134 20 xlaw 18 xlo0 [] xh0 [(.gt, .int 0, .sub (.arg 49) (.int 6), false), (.lt, .int 0, .arg 49, true), (.eq, .op2 .iand (.arg 0) (.int 63), .int 26, true), (.lt, .int 1, .arg 49, true), (.lt, .int 2, .arg 49, true), (.lt, .arg 1, .int 0, false), (.ge, .arg 1, .int 0, true), (.lt, .int 1, .arg 49, true), (.lt, .int 2, .arg 49, true), (.lt, .arg 1, .int 0, false), (.gt, .arg 1, .int (-1), true), (.gt, .int 6, .sub (.arg 49) (.int 6), true)]) = true := by decide +kernel
set_option maxHeartbeats 4000000 in
theorem cv_26 {r : Nat → Value} (h49 : XI r (.arg 49) = 6) (hs : XI r (.sub (.arg 49) (.int 6)) = 0) (hk : XI r (.op2 .iand (.arg 0) (.int 63)) = 26) : ∃ (f : Nat) (E : List xB), (∀ q ∈ E, xhold r q) ∧ xfin (xev f 20 xlaw 18 xlo0 [] xh0 E) = true := by
  have h0 : ¬ (XI r (.sub (.arg 49) (.int 6)) < (0 : Int)) := by omega
  have h1 : (0 : Int) < XI r (.arg 49) := by omega
  have b0 : xhid (-2147483648 ≤ XI r (.arg 0)) := XI_lo r (.arg 0)
  have d0 : xhid (XI r (.arg 0) < 2147483648) := XI_hi r (.arg 0)
  have b1 : xhid (-2147483648 ≤ XI r (.arg 1)) := XI_lo r (.arg 1)
  have d1 : xhid (XI r (.arg 1) < 2147483648) := XI_hi r (.arg 1)
  have b2 : xhid (-2147483648 ≤ XI r (.arg 2)) := XI_lo r (.arg 2)
  have d2 : xhid (XI r (.arg 2) < 2147483648) := XI_hi r (.arg 2)
  have b3 : xhid (-2147483648 ≤ XI r (.arg 3)) := XI_lo r (.arg 3)
  have d3 : xhid (XI r (.arg 3) < 2147483648) := XI_hi r (.arg 3)
  have b4 : xhid (-2147483648 ≤ XI r (.arg 4)) := XI_lo r (.arg 4)
  have d4 : xhid (XI r (.arg 4) < 2147483648) := XI_hi r (.arg 4)
  have b5 : xhid (-2147483648 ≤ XI r (.arg 5)) := XI_lo r (.arg 5)
  have d5 : xhid (XI r (.arg 5) < 2147483648) := XI_hi r (.arg 5)
  have c1 : xhid ((1 : Int) < XI r (.arg 49)) := ((by have z0 : ¬ (XI r (.sub (.arg 49) (.int 6)) < (0 : Int)) := h0; omega) : (1 : Int) < XI r (.arg 49))
  have c2 : xhid ((2 : Int) < XI r (.arg 49)) := ((by have z0 : ¬ (XI r (.sub (.arg 49) (.int 6)) < (0 : Int)) := h0; omega) : (2 : Int) < XI r (.arg 49))
  refine (Classical.em (XI r (.arg 1) < (0 : Int))).elim (fun (c3 : xhid (XI r (.arg 1) < (0 : Int))) => ?_) (fun (c3 : xhid (¬ (XI r (.arg 1) < (0 : Int)))) => ?_)
  ·
    have c4 : xhid ((1 : Int) < XI r (.arg 49)) := ((by have z0 : (2 : Int) < XI r (.arg 49) := c2; omega) : (1 : Int) < XI r (.arg 49))
    have c5 : xhid ((2 : Int) < XI r (.arg 49)) := ((by have z0 : (2 : Int) < XI r (.arg 49) := c2; omega) : (2 : Int) < XI r (.arg 49))
    have c6 : xhid (XI r (.arg 1) < (0 : Int)) := ((by have z0 : XI r (.arg 1) < (0 : Int) := c3; have z1 : -2147483648 ≤ XI r (.arg 1) := b1; have z2 : XI r (.arg 1) < 2147483648 := d1; omega) : XI r (.arg 1) < (0 : Int))
    have c7 : xhid (XI r (.sub (.arg 49) (.int 6)) < (6 : Int)) := ((by omega) : XI r (.sub (.arg 49) (.int 6)) < (6 : Int))
    refine ⟨126, _, ?_, lf_26_0⟩
    refine xc_cons (xh_gt_F (XI_lit (by decide +kernel)) rfl h0) ?_
    refine xc_cons (xh_lt_T (XI_lit (by decide +kernel)) rfl h1) ?_
    refine xc_cons (xh_eq_T rfl (XI_lit (by decide +kernel)) hk) ?_
    refine xc_cons (xh_lt_T (XI_lit (by decide +kernel)) rfl c1) ?_
    refine xc_cons (xh_lt_T (XI_lit (by decide +kernel)) rfl c2) ?_
    refine xc_cons (xh_lt_T rfl (XI_lit (by decide +kernel)) c3) ?_
    refine xc_cons (xh_lt_T (XI_lit (by decide +kernel)) rfl c4) ?_
    refine xc_cons (xh_lt_T (XI_lit (by decide +kernel)) rfl c5) ?_
    refine xc_cons (xh_lt_T rfl (XI_lit (by decide +kernel)) c6) ?_
    refine xc_cons (xh_gt_T (XI_lit (by decide +kernel)) rfl c7) ?_
    exact xc_nil
  ·
    have c8 : xhid ((0 : Int) ≤ XI r (.arg 1)) := ((by have z0 : ¬ (XI r (.arg 1) < (0 : Int)) := c3; have z1 : -2147483648 ≤ XI r (.arg 1) := b1; have z2 : XI r (.arg 1) < 2147483648 := d1; omega) : (0 : Int) ≤ XI r (.arg 1))
    have c9 : xhid ((1 : Int) < XI r (.arg 49)) := ((by have z0 : (2 : Int) < XI r (.arg 49) := c2; omega) : (1 : Int) < XI r (.arg 49))
    have c10 : xhid ((2 : Int) < XI r (.arg 49)) := ((by have z0 : (2 : Int) < XI r (.arg 49) := c2; omega) : (2 : Int) < XI r (.arg 49))
    have c11 : xhid (¬ (XI r (.arg 1) < (0 : Int))) := ((by have z0 : (0 : Int) ≤ XI r (.arg 1) := c8; have z1 : -2147483648 ≤ XI r (.arg 1) := b1; have z2 : XI r (.arg 1) < 2147483648 := d1; omega) : ¬ (XI r (.arg 1) < (0 : Int)))
    have c12 : xhid ((-1 : Int) < XI r (.arg 1)) := ((by have z0 : ¬ (XI r (.arg 1) < (0 : Int)) := c11; have z1 : -2147483648 ≤ XI r (.arg 1) := b1; have z2 : XI r (.arg 1) < 2147483648 := d1; omega) : (-1 : Int) < XI r (.arg 1))
    have c13 : xhid (XI r (.sub (.arg 49) (.int 6)) < (6 : Int)) := ((by omega) : XI r (.sub (.arg 49) (.int 6)) < (6 : Int))
    refine ⟨134, _, ?_, lf_26_1⟩
    refine xc_cons (xh_gt_F (XI_lit (by decide +kernel)) rfl h0) ?_
    refine xc_cons (xh_lt_T (XI_lit (by decide +kernel)) rfl h1) ?_
    refine xc_cons (xh_eq_T rfl (XI_lit (by decide +kernel)) hk) ?_
    refine xc_cons (xh_lt_T (XI_lit (by decide +kernel)) rfl c1) ?_
    refine xc_cons (xh_lt_T (XI_lit (by decide +kernel)) rfl c2) ?_
    refine xc_cons (xh_lt_F rfl (XI_lit (by decide +kernel)) c3) ?_
    refine xc_cons (xh_ge_T rfl (XI_lit (by decide +kernel)) c8) ?_
    refine xc_cons (xh_lt_T (XI_lit (by decide +kernel)) rfl c9) ?_
    refine xc_cons (xh_lt_T (XI_lit (by decide +kernel)) rfl c10) ?_
    refine xc_cons (xh_lt_F rfl (XI_lit (by decide +kernel)) c11) ?_
    refine xc_cons (xh_gt_T rfl (XI_lit (by decide +kernel)) c12) ?_
    refine xc_cons (xh_gt_T (XI_lit (by decide +kernel)) rfl c13) ?_
    exact xc_nil
theorem lf_27_0 : xfin (xev 126 20 xlaw 18 xlo0 [] xh0 [(.gt, .int 0, .sub (.arg 49) (.int 6), false), (.lt, .int 0, .arg 49, true), (.eq, .op2 .iand (.arg 0) (.int 63), .int 27, true), (.lt, .int 1, .arg 49, true), (.lt, .int 2, .arg 49, true), (.lt, .arg 1, .int 0, true), (.lt, .int 1, .arg 49, true), (.lt, .int 2, .arg 49, true), (.lt, .arg 1, .int 0, true), (.gt, .int 6, .sub (.arg 49) (.int 6), true)]) = true := by decide +kernel
theorem lf_27_1 : xfin (xev 134 20 xlaw 18 xlo0 [] xh0 [(.gt, .int 0, .sub (.arg 49) (.int 6), false), (.lt, .int 0, .arg 49, true), (.eq, .op2 .iand (.arg 0) (.int 63), .int 27, true), (.lt, .int 1, .arg 49, true), (.lt, .int 2, .arg 49, true), (.lt, .arg 1, .int 0, false), (.ge, .arg 1, .int 0, true), (.lt, .int 1, .arg 49, true), (.lt, .int 2, .arg 49, true), (.lt, .arg 1, .int 0, false), (.gt, .arg 1, .int (-1), true), (.gt, .int 6, .sub (.arg 49) (.int 6), true)]) = true := by decide +kernel
set_option maxHeartbeats 4000000 in
theorem cv_27 {r : Nat → Value} (h49 : XI r (.arg 49) = 6) (hs : XI r (.sub (.arg 49) (.int 6)) = 0) (hk : XI r (.op2 .iand (.arg 0) (.int 63)) = 27) : ∃ (f : Nat) (E : List xB), (∀ q ∈ E, xhold r q) ∧ xfin (xev f 20 xlaw 18 xlo0 [] xh0 E) = true := by
  have h0 : ¬ (XI r (.sub (.arg 49) (.int 6)) < (0 : Int)) := by omega
  have h1 : (0 : Int) < XI r (.arg 49) := by omega
  have b0 : xhid (-2147483648 ≤ XI r (.arg 0)) := XI_lo r (.arg 0)
  have d0 : xhid (XI r (.arg 0) < 2147483648) := XI_hi r (.arg 0)
  have b1 : xhid (-2147483648 ≤ XI r (.arg 1)) := XI_lo r (.arg 1)
  have d1 : xhid (XI r (.arg 1) < 2147483648) := XI_hi r (.arg 1)
  have b2 : xhid (-2147483648 ≤ XI r (.arg 2)) := XI_lo r (.arg 2)
  have d2 : xhid (XI r (.arg 2) < 2147483648) := XI_hi r (.arg 2)
  have b3 : xhid (-2147483648 ≤ XI r (.arg 3)) := XI_lo r (.arg 3)
  have d3 : xhid (XI r (.arg 3) < 2147483648) := XI_hi r (.arg 3)
  have b4 : xhid (-2147483648 ≤ XI r (.arg 4)) := XI_lo r (.arg 4)
  have d4 : xhid (XI r (.arg 4) < 2147483648) := XI_hi r (.arg 4)
  have b5 : xhid (-2147483648 ≤ XI r (.arg 5)) := XI_lo r (.arg 5)
  have d5 : xhid (XI r (.arg 5) < 2147483648) := XI_hi r (.arg 5)
  have c1 : xhid ((1 : Int) < XI r (.arg 49)) := ((by have z0 : ¬ (XI r (.sub (.arg 49) (.int 6)) < (0 : Int)) := h0; omega) : (1 : Int) < XI r (.arg 49))
  have c2 : xhid ((2 : Int) < XI r (.arg 49)) := ((by have z0 : ¬ (XI r (.sub (.arg 49) (.int 6)) < (0 : Int)) := h0; omega) : (2 : Int) < XI r (.arg 49))
  refine (Classical.em (XI r (.arg 1) < (0 : Int))).elim (fun (c3 : xhid (XI r (.arg 1) < (0 : Int))) => ?_) (fun (c3 : xhid (¬ (XI r (.arg 1) < (0 : Int)))) => ?_)
  ·
    have c4 : xhid ((1 : Int) < XI r (.arg 49)) := ((by have z0 : (2 : Int) < XI r (.arg 49) := c2; omega) : (1 : Int) < XI r (.arg 49))
    have c5 : xhid ((2 : Int) < XI r (.arg 49)) := ((by have z0 : (2 : Int) < XI r (.arg 49) := c2; omega) : (2 : Int) < XI r (.arg 49))
    have c6 : xhid (XI r (.arg 1) < (0 : Int)) := ((by have z0 : XI r (.arg 1) < (0 : Int) := c3; have z1 : -2147483648 ≤ XI r (.arg 1) := b1; have z2 : XI r (.arg 1) < 2147483648 := d1; omega) : XI r (.arg 1) < (0 : Int))
    have c7 : xhid (XI r (.sub (.arg 49) (.int 6)) < (6 : Int)) := ((by omega) : XI r (.sub (.arg 49) (.int 6)) < (6 : Int))
    refine ⟨126, _, ?_, lf_27_0⟩
    refine xc_cons (xh_gt_F (XI_lit (by decide +kernel)) rfl h0) ?_
    refine xc_cons (xh_lt_T (XI_lit (by decide +kernel)) rfl h1) ?_
    refine xc_cons (xh_eq_T rfl (XI_lit (by decide +kernel)) hk) ?_
    refine xc_cons (xh_lt_T (XI_lit (by decide +kernel)) rfl c1) ?_
    refine xc_cons (xh_lt_T (XI_lit (by decide +kernel)) rfl c2) ?_
    refine xc_cons (xh_lt_T rfl (XI_lit (by decide +kernel)) c3) ?_
    refine xc_cons (xh_lt_T (XI_lit (by decide +kernel)) rfl c4) ?_
    refine xc_cons (xh_lt_T (XI_lit (by decide +kernel)) rfl c5) ?_
    refine xc_cons (xh_lt_T rfl (XI_lit (by decide +kernel)) c6) ?_
    refine xc_cons (xh_gt_T (XI_lit (by decide +kernel)) rfl c7) ?_
    exact xc_nil
  ·
    have c8 : xhid ((0 : Int) ≤ XI r (.arg 1)) := ((by have z0 : ¬ (XI r (.arg 1) < (0 : Int)) := c3; have z1 : -2147483648 ≤ XI r (.arg 1) := b1; have z2 : XI r (.arg 1) < 2147483648 := d1; omega) : (0 : Int) ≤ XI r (.arg 1))
    have c9 : xhid ((1 : Int) < XI r (.arg 49)) := ((by have z0 : (2 : Int) < XI r (.arg 49) := c2; omega) : (1 : Int) < XI r (.arg 49))
    have c10 : xhid ((2 : Int) < XI r (.arg 49)) := ((by have z0 : (2 : Int) < XI r (.arg 49) := c2; omega) : (2 : Int) < XI r (.arg 49))
    have c11 : xhid (¬ (XI r (.arg 1) < (0 : Int))) := ((by have z0 : (0 : Int) ≤ XI r (.arg 1) := c8; have z1 : -2147483648 ≤ XI r (.arg 1) := b1; have z2 : XI r (.arg 1) < 2147483648 := d1; omega) : ¬ (XI r (.arg 1) < (0 : Int)))
    have c12 : xhid ((-1 : Int) < XI r (.arg 1)) := ((by have z0 : ¬ (XI r (.arg 1) < (0 : Int)) := c11; have z1 : -2147483648 ≤ XI r (.arg 1) := b1; have z2 : XI r (.arg 1) < 2147483648 := d1; omega) : (-1 : Int) < XI r (.arg 1))
    have c13 : xhid (XI r (.sub (.arg 49) (.int 6)) < (6 : Int)) := ((by omega) : XI r (.sub (.arg 49) (.int 6)) < (6 : Int))
    refine ⟨134, _, ?_, lf_27_1⟩
    refine xc_cons (xh_gt_F (XI_lit (by decide +kernel)) rfl h0) ?_
    refine xc_cons (xh_lt_T (XI_lit (by decide +kernel)) rfl h1) ?_
    refine xc_cons (xh_eq_T rfl (XI_lit (by decide +kernel)) hk) ?_
    refine xc_cons (xh_lt_T (XI_lit (by decide +kernel)) rfl c1) ?_
    refine xc_cons (xh_lt_T (XI_lit (by decide +kernel)) rfl c2) ?_
    refine xc_cons (xh_lt_F rfl (XI_lit (by decide +kernel)) c3) ?_
    refine xc_cons (xh_ge_T rfl (XI_lit (by decide +kernel)) c8) ?_
    refine xc_cons (xh_lt_T (XI_lit (by decide +kernel)) rfl c9) ?_
    refine xc_cons (xh_lt_T (XI_lit (by decide +kernel)) rfl c10) ?_
    refine xc_cons (xh_lt_F rfl (XI_lit (by decide +kernel)) c11) ?_
    refine xc_cons (xh_gt_T rfl (XI_lit (by decide +kernel)) c12) ?_
    refine xc_cons (xh_gt_T (XI_lit (by decide +kernel)) rfl c13) ?_
    exact xc_nil
theorem lf_29_0 : xfin (xev 126 20 xlaw 18 xlo0 [] xh0 [(.gt, .int 0, .sub (.arg 49) (.int 6), false), (.lt, .int 0, .arg 49, true), (.eq, .op2 .iand (.arg 0) (.int 63), .int 29, true), (.lt, .int 1, .arg 49, true), (.lt, .int 2, .arg 49, true), (.lt, .arg 1, .int 0, true), (.lt, .int 1, .arg 49, true), (.lt, .int 2, .arg 49, true), (.lt, .arg 1, .int 0, true), (.gt, .int 6, .sub (.arg 49) (.int 6), true)]) = true := by decide +kernel
theorem lf_29_1 : xfin (xev 133 20 xlaw 18 xlo0 [] xh0 [(.gt, .int 0, .sub (.arg 49) (.int 6), false), (.lt, .int 0, .arg 49, true), (.eq, .op2 .iand (.arg 0) (.int 63), .int 29, true), (.lt, .int 1, .arg 49, true), (.lt, .int 2, .arg 49, true), (.lt, .arg 1, .int 0, false), (.lt, .arg 1, .int 0, false), (.lt, .int 1, .arg 49, true), (.lt, .int 2, .arg 49, true), (.lt, .arg 1, .int 0, false), (.gt, .arg 1, .int (-1), true), (.gt, .int 6, .sub (.arg 49) (.int 6), true)]) = true := by decide +kernel
set_option maxHeartbeats 4000000 in
theorem cv_29 {r : Nat → Value} (h49 : XI r (.arg 49) = 6) (hs : XI r (.sub (.arg 49) (.int 6)) = 0) (hk : XI r (.op2 .iand (.arg 0) (.int 63)) = 29) : ∃ (f : Nat) (E : List xB), (∀ q ∈ E, xhold r q) ∧ xfin (xev f 20 xlaw 18 xlo0 [] xh0 E) = true := by
  have h0 : ¬ (XI r (.sub (.arg 49) (.int 6)) < (0 : Int)) := by omega
  have h1 : (0 : Int) < XI r (.arg 49) := by omega
  have b0 : xhid (-2147483648 ≤ XI r (.arg 0)) := XI_lo r (.arg 0)
  have d0 : xhid (XI r (.arg 0) < 2147483648) := XI_hi r (.arg 0)
  have b1 : xhid (-2147483648 ≤ XI r (.arg 1)) := XI_lo r (.arg 1)
  have d1 : xhid (XI r (.arg 1) < 2147483648) := XI_hi r (.arg 1)
  have b2 : xhid (-2147483648 ≤ XI r (.arg 2)) := XI_lo r (.arg 2)
  have d2 : xhid (XI r (.arg 2) < 2147483648) := XI_hi r (.arg 2)
  have b3 : xhid (-2147483648 ≤ XI r (.arg 3)) := XI_lo r (.arg 3)
  have d3 : xhid (XI r (.arg 3) < 2147483648) := XI_hi r (.arg 3)
  have b4 : xhid (-2147483648 ≤ XI r (.arg 4)) := XI_lo r (.arg 4)
  have d4 : xhid (XI r (.arg 4) < 2147483648) := XI_hi r (.arg 4)
  have b5 : xhid (-2147483648 ≤ XI r (.arg 5)) := XI_lo r (.arg 5)
  have d5 : xhid (XI r (.arg 5) < 2147483648) := XI_hi r (.arg 5)
  have c1 : xhid ((1 : Int) < XI r (.arg 49)) := ((by have z0 : ¬ (XI r (.sub (.arg 49) (.int 6)) < (0 : Int)) := h0; omega) : (1 : Int) < XI r (.arg 49))
  have c2 : xhid ((2 : Int) < XI r (.arg 49)) := ((by have z0 : ¬ (XI r (.sub (.arg 49) (.int 6)) < (0 : Int)) := h0; omega) : (2 : Int) < XI r (.arg 49))
  refine (Classical.em (XI r (.arg 1) < (0 : Int))).elim (fun (c3 : xhid (XI r (.arg 1) < (0 : Int))) => ?_) (fun (c3 : xhid (¬ (XI r (.arg 1) < (0 : Int)))) => ?_)
  ·
    have c4 : xhid ((1 : Int) < XI r (.arg 49)) := ((by have z0 : (2 : Int) < XI r (.arg 49) := c2; omega) : (1 : Int) < XI r (.arg 49))
    have c5 : xhid ((2 : Int) < XI r (.arg 49)) := ((by have z0 : (2 : Int) < XI r (.arg 49) := c2; omega) : (2 : Int) < XI r (.arg 49))
    have c6 : xhid (XI r (.arg 1) < (0 : Int)) := ((by have z0 : XI r (.arg 1) < (0 : Int) := c3; have z1 : -2147483648 ≤ XI r (.arg 1) := b1; have z2 : XI r (.arg 1) < 2147483648 := d1; omega) : XI r (.arg 1) < (0 : Int))
    have c7 : xhid (XI r (.sub (.arg 49) (.int 6)) < (6 : Int)) := ((by omega) : XI r (.sub (.arg 49) (.int 6)) < (6 : Int))
    refine ⟨126, _, ?_, lf_29_0⟩
    refine xc_cons (xh_gt_F (XI_lit (by decide +kernel)) rfl h0) ?_
    refine xc_cons (xh_lt_T (XI_lit (by decide +kernel)) rfl h1) ?_
    refine xc_cons (xh_eq_T rfl (XI_lit (by decide +kernel)) hk) ?_
    refine xc_cons (xh_lt_T (XI_lit (by decide +kernel)) rfl c1) ?_
    refine xc_cons (xh_lt_T (XI_lit (by decide +kernel)) rfl c2) ?_
    refine xc_cons (xh_lt_T rfl (XI_lit (by decide +kernel)) c3) ?_
    refine xc_cons (xh_lt_T (XI_lit (by decide +kernel)) rfl c4) ?_
    refine xc_cons (xh_lt_T (XI_lit (by decide +kernel)) rfl c5) ?_
    refine xc_cons (xh_lt_T rfl (XI_lit (by decide +kernel)) c6) ?_
    refine xc_cons (xh_gt_T (XI_lit (by decide +kernel)) rfl c7) ?_
    exact xc_nil
  ·
    have c8 : xhid (¬ (XI r (.arg 1) < (0 : Int))) := ((by have z0 : ¬ (XI r (.arg 1) < (0 : Int)) := c3; have z1 : -2147483648 ≤ XI r (.arg 1) := b1; have z2 : XI r (.arg 1) < 2147483648 := d1; omega) : ¬ (XI r (.arg 1) < (0 : Int)))
    have c9 : xhid ((1 : Int) < XI r (.arg 49)) := ((by have z0 : (2 : Int) < XI r (.arg 49) := c2; omega) : (1 : Int) < XI r (.arg 49))
    have c10 : xhid ((2 : Int) < XI r (.arg 49)) := ((by have z0 : (2 : Int) < XI r (.arg 49) := c2; omega) : (2 : Int) < XI r (.arg 49))
    have c11 : xhid (¬ (XI r (.arg 1) < (0 : Int))) := ((by have z0 : ¬ (XI r (.arg 1) < (0 : Int)) := c8; have z1 : -2147483648 ≤ XI r (.arg 1) := b1; have z2 : XI r (.arg 1) < 2147483648 := d1; omega) : ¬ (XI r (.arg 1) < (0 : Int)))
    have c12 : xhid ((-1 : Int) < XI r (.arg 1)) := ((by have z0 : ¬ (XI r (.arg 1) < (0 : Int)) := c11; have z1 : -2147483648 ≤ XI r (.arg 1) := b1; have z2 : XI r (.arg 1) < 2147483648 := d1; omega) : (-1 : Int) < XI r (.arg 1))
    have c13 : xhid (XI r (.sub (.arg 49) (.int 6)) < (6 : Int)) := ((by omega) : XI r (.sub (.arg 49) (.int 6)) < (6 : Int))
    refine ⟨133, _, ?_, lf_29_1⟩
    refine xc_cons (xh_gt_F (XI_lit (by decide +kernel)) rfl h0) ?_
    refine xc_cons (xh_lt_T (XI_lit (by decide +kernel)) rfl h1) ?_
    refine xc_cons (xh_eq_T rfl (XI_lit (by decide +kernel)) hk) ?_
    refine xc_cons (xh_lt_T (XI_lit (by decide +kernel)) rfl c1) ?_
    refine xc_cons (xh_lt_T (XI_lit (by decide +kernel)) rfl c2) ?_
    refine xc_cons (xh_lt_F rfl (XI_lit (by decide +kernel)) c3) ?_
    refine xc_cons (xh_lt_F rfl (XI_lit (by decide +kernel)) c8) ?_
    refine xc_cons (xh_lt_T (XI_lit (by decide +kernel)) rfl c9) ?_
    refine xc_cons (xh_lt_T (XI_lit (by decide +kernel)) rfl c10) ?_
    refine xc_cons (xh_lt_F rfl (XI_lit (by decide +kernel)) c11) ?_
    refine xc_cons (xh_gt_T rfl (XI_lit (by decide +kernel)) c12) ?_
    refine xc_cons (xh_gt_T (XI_lit (by decide +kernel)) rfl c13) ?_
    exact xc_nil
theorem lf_31_0 : xfin (xev 79 20 xlaw 18 xlo0 [] xh0 [(.gt, .int 0, .sub (.arg 49) (.int 6), false), (.lt, .int 0, .arg 49, true), (.eq, .op2 .iand (.arg 0) (.int 63), .int 31, true), (.lt, .int 1, .arg 49, true), (.lt, .int 1, .arg 49, true), (.gt, .int 6, .sub (.arg 49) (.int 6), true)]) = true := by decide +kernel
set_option maxHeartbeats 4000000 in
theorem cv_31 {r : Nat → Value} (h49 : XI r (.arg 49) = 6) (hs : XI r (.sub (.arg 49) (.int 6)) = 0) (hk : XI r (.op2 .iand (.arg 0) (.int 63)) = 31) : ∃ (f : Nat) (E : List xB), (∀ q ∈ E, xhold r q) ∧ xfin (xev f 20 xlaw 18 xlo0 [] xh0 E) = true := by
  have h0 : ¬ (XI r (.sub (.arg 49) (.int 6)) < (0 : Int)) := by omega
  have h1 : (0 : Int) < XI r (.arg 49) := by omega
  have b0 : xhid (-2147483648 ≤ XI r (.arg 0)) := XI_lo r (.arg 0)
  have d0 : xhid (XI r (.arg 0) < 2147483648) := XI_hi r (.arg 0)
  have b1 : xhid (-2147483648 ≤ XI r (.arg 1)) := XI_lo r (.arg 1)
  have d1 : xhid (XI r (.arg 1) < 2147483648) := XI_hi r (.arg 1)
  have b2 : xhid (-2147483648 ≤ XI r (.arg 2)) := XI_lo r (.arg 2)
  have d2 : xhid (XI r (.arg 2) < 2147483648) := XI_hi r (.arg 2)
  have b3 : xhid (-2147483648 ≤ XI r (.arg 3)) := XI_lo r (.arg 3)
  have d3 : xhid (XI r (.arg 3) < 2147483648) := XI_hi r (.arg 3)
  have b4 : xhid (-2147483648 ≤ XI r (.arg 4)) := XI_lo r (.arg 4)
  have d4 : xhid (XI r (.arg 4) < 2147483648) := XI_hi r (.arg 4)
  have b5 : xhid (-2147483648 ≤ XI r (.arg 5)) := XI_lo r (.arg 5)
  have d5 : xhid (XI r (.arg 5) < 2147483648) := XI_hi r (.arg 5)
  have c1 : xhid ((1 : Int) < XI r (.arg 49)) := ((by have z0 : ¬ (XI r (.sub (.arg 49) (.int 6)) < (0 : Int)) := h0; omega) : (1 : Int) < XI r (.arg 49))
  have c2 : xhid ((1 : Int) < XI r (.arg 49)) := ((by have z0 : (1 : Int) < XI r (.arg 49) := c1; omega) : (1 : Int) < XI r (.arg 49))
  have c3 : xhid (XI r (.sub (.arg 49) (.int 6)) < (6 : Int)) := ((by omega) : XI r (.sub (.arg 49) (.int 6)) < (6 : Int))
  refine ⟨79, _, ?_, lf_31_0⟩
  refine xc_cons (xh_gt_F (XI_lit (by decide +kernel)) rfl h0) ?_
  refine xc_cons (xh_lt_T (XI_lit (by decide +kernel)) rfl h1) ?_
  refine xc_cons (xh_eq_T rfl (XI_lit (by decide +kernel)) hk) ?_
  refine xc_cons (xh_lt_T (XI_lit (by decide +kernel)) rfl c1) ?_
  refine xc_cons (xh_lt_T (XI_lit (by decide +kernel)) rfl c2) ?_
  refine xc_cons (xh_gt_T (XI_lit (by decide +kernel)) rfl c3) ?_
  exact xc_nil
theorem lf_32_0 : xfin (xev 136 20 xlaw 18 xlo0 [] xh0 [(.gt, .int 0, .sub (.arg 49) (.int 6), false), (.lt, .int 0, .arg 49, true), (.eq, .op2 .iand (.arg 0) (.int 63), .int 32, true), (.lt, .int 1, .arg 49, true), (.lt, .int 2, .arg 49, true), (.lt, .int 3, .arg 49, true), (.lt, .arg 1, .int 0, true), (.lt, .int 1, .arg 49, true), (.lt, .int 2, .arg 49, true), (.lt, .int 3, .arg 49, true), (.lt, .arg 1, .int 0, true), (.gt, .int 6, .sub (.arg 49) (.int 6), true)]) = true := by decide +kernel
theorem lf_32_1 : xfin (xev 144 20 xlaw 18 xlo0 [] xh0 [(.gt, .int 0, .sub (.arg 49) (.int 6), false), (.lt, .int 0, .arg 49, true), (.eq, .op2 .iand (.arg 0) (.int 63), .int 32, true), (.lt, .int 1, .arg 49, true), (.lt, .int 2, .arg 49, true), (.lt, .int 3, .arg 49, true), (.lt, .arg 1, .int 0, false), (.ge, .arg 1, .int 0, true), (.lt, .int 1, .arg 49, true), (.lt, .int 2, .arg 49, true), (.lt, .int 3, .arg 49, true), (.lt, .arg 1, .int 0, false), (.gt, .arg 1, .int (-1), true), (.gt, .int 6, .sub (.arg 49) (.int 6), true)]) = true := by decide +kernel
set_option maxHeartbeats 4000000 in
theorem cv_32 {r : Nat → Value} (h49 : XI r (.arg 49) = 6) (hs : XI r (.sub (.arg 49) (.int 6)) = 0) (hk : XI r (.op2 .iand (.arg 0) (.int 63)) = 32) : ∃ (f : Nat) (E : List xB), (∀ q ∈ E, xhold r q) ∧ xfin (xev f 20 xlaw 18 xlo0 [] xh0 E) = true := by
  have h0 : ¬ (XI r (.sub (.arg 49) (.int 6)) < (0 : Int)) := by omega
  have h1 : (0 : Int) < XI r (.arg 49) := by omega
  have b0 : xhid (-2147483648 ≤ XI r (.arg 0)) := XI_lo r (.arg 0)
  have d0 : xhid (XI r (.arg 0) < 2147483648) := XI_hi r (.arg 0)
  have b1 : xhid (-2147483648 ≤ XI r (.arg 1)) := XI_lo r (.arg 1)
  have d1 : xhid (XI r (.arg 1) < 2147483648) := XI_hi r (.arg 1)
  have b2 : xhid (-2147483648 ≤ XI r (.arg 2)) := XI_lo r (.arg 2)
  have d2 : xhid (XI r (.arg 2) < 2147483648) := XI_hi r (.arg 2)
  have b3 : xhid (-2147483648 ≤ XI r (.arg 3)) := XI_lo r (.arg 3)
  have d3 : xhid (XI r (.arg 3) < 2147483648) := XI_hi r (.arg 3)
  have b4 : xhid (-2147483648 ≤ XI r (.arg 4)) := XI_lo r (.arg 4)
  have d4 : xhid (XI r (.arg 4) < 2147483648) := XI_hi r (.arg 4)
  have b5 : xhid (-2147483648 ≤ XI r (.arg 5)) := XI_lo r (.arg 5)
  have d5 : xhid (XI r (.arg 5) < 2147483648) := XI_hi r (.arg 5)
  have c1 : xhid ((1 : Int) < XI r (.arg 49)) := ((by have z0 : ¬ (XI r (.sub (.arg 49) (.int 6)) < (0 : Int)) := h0; omega) : (1 : Int) < XI r (.arg 49))
  have c2 : xhid ((2 : Int) < XI r (.arg 49)) := ((by have z0 : ¬ (XI r (.sub (.arg 49) (.int 6)) < (0 : Int)) := h0; omega) : (2 : Int) < XI r (.arg 49))
  have c3 : xhid ((3 : Int) < XI r (.arg 49)) := ((by have z0 : ¬ (XI r (.sub (.arg 49) (.int 6)) < (0 : Int)) := h0; omega) : (3 : Int) < XI r (.arg 49))
  refine (Classical.em (XI r (.arg 1) < (0 : Int))).elim (fun (c4 : xhid (XI r (.arg 1) < (0 : Int))) => ?_) (fun (c4 : xhid (¬ (XI r (.arg 1) < (0 : Int)))) => ?_)
  ·
    have c5 : xhid ((1 : Int) < XI r (.arg 49)) := ((by have z0 : (3 : Int) < XI r (.arg 49) := c3; omega) : (1 : Int) < XI r (.arg 49))
    have c6 : xhid ((2 : Int) < XI r (.arg 49)) := ((by have z0 : (3 : Int) < XI r (.arg 49) := c3; omega) : (2 : Int) < XI r (.arg 49))
    have c7 : xhid ((3 : Int) < XI r (.arg 49)) := ((by have z0 : (3 : Int) < XI r (.arg 49) := c3; omega) : (3 : Int) < XI r (.arg 49))
    have c8 : xhid (XI r (.arg 1) < (0 : Int)) := ((by have z0 : XI r (.arg 1) < (0 : Int) := c4; have z1 : -2147483648 ≤ XI r (.arg 1) := b1; have z2 : XI r (.arg 1) < 2147483648 := d1; omega) : XI r (.arg 1) < (0 : Int))
    have c9 : xhid (XI r (.sub (.arg 49) (.int 6)) < (6 : Int)) := ((by omega) : XI r (.sub (.arg 49) (.int 6)) < (6 : Int))
    refine ⟨136, _, ?_, lf_32_0⟩
    refine xc_cons (xh_gt_F (XI_lit (by decide +kernel)) rfl h0) ?_
    refine xc_cons (xh_lt_T (XI_lit (by decide +kernel)) rfl h1) ?_
    refine xc_cons (xh_eq_T rfl (XI_lit (by decide +kernel)) hk) ?_
    refine xc_cons (xh_lt_T (XI_lit (by decide +kernel)) rfl c1) ?_
    refine xc_cons (xh_lt_T (XI_lit (by decide +kernel)) rfl c2) ?_
    refine xc_cons (xh_lt_T (XI_lit (by decide +kernel)) rfl c3) ?_
    refine xc_cons (xh_lt_T rfl (XI_lit (by decide +kernel)) c4) ?_
    refine xc_cons (xh_lt_T (XI_lit (by decide +kernel)) rfl c5) ?_
    refine xc_cons (xh_lt_T (XI_lit (by decide +kernel)) rfl c6) ?_
    refine xc_cons (xh_lt_T (XI_lit (by decide +kernel)) rfl c7) ?_
    refine xc_cons (xh_lt_T rfl (XI_lit (by decide +kernel)) c8) ?_
    refine xc_cons (xh_gt_T (XI_lit (by decide +kernel)) rfl c9) ?_
    exact xc_nil
  ·
    have c10 : xhid ((0 : Int) ≤ XI r (.arg 1)) := ((by have z0 : ¬ (XI r (.arg 1) < (0 : Int)) := c4; have z1 : -2147483648 ≤ XI r (.arg 1) := b1; have z2 : XI r (.arg 1) < 2147483648 := d1; omega) : (0 : Int) ≤ XI r (.arg 1))
    have c11 : xhid ((1 : Int) < XI r (.arg 49)) := ((by have z0 : (3 : Int) < XI r (.arg 49) := c3; omega) : (1 : Int) < XI r (.arg 49))
    have c12 : xhid ((2 : Int) < XI r (.arg 49)) := ((by have z0 : (3 : Int) < XI r (.arg 49) := c3; omega) : (2 : Int) < XI r (.arg 49))
    have c13 : xhid ((3 : Int) < XI r (.arg 49)) := ((by have z0 : (3 : Int) < XI r (.arg 49) := c3; omega) : (3 : Int) < XI r (.arg 49))
    have c14 : xhid (¬ (XI r (.arg 1) < (0 : Int))) := ((by have z0 : (0 : Int) ≤ XI r (.arg 1) := c10; have z1 : -2147483648 ≤ XI r (.arg 1) := b1; have z2 : XI r (.arg 1) < 2147483648 := d1; omega) : ¬ (XI r (.arg 1) < (0 : Int)))
    have c15 : xhid ((-1 : Int) < XI r (.arg 1)) := ((by have z0 : ¬ (XI r (.arg 1) < (0 : Int)) := c14; have z1 : -2147483648 ≤ XI r (.arg 1) := b1; have z2 : XI r (.arg 1) < 2147483648 := d1; omega) : (-1 : Int) < XI r (.arg 1))
    have c16 : xhid (XI r (.sub (.arg 49) (.int 6)) < (6 : Int)) := ((by omega) : XI r (.sub (.arg 49) (.int 6)) < (6 : Int))
    refine ⟨144, _, ?_, lf_32_1⟩
    refine xc_cons (xh_gt_F (XI_lit (by decide +kernel)) rfl h0) ?_
    refine xc_cons (xh_lt_T (XI_lit (by decide +kernel)) rfl h1) ?_
    refine xc_cons (xh_eq_T rfl (XI_lit (by decide +kernel)) hk) ?_
    refine xc_cons (xh_lt_T (XI_lit (by decide +kernel)) rfl c1) ?_
    refine xc_cons (xh_lt_T (XI_lit (by decide +kernel)) rfl c2) ?_
    refine xc_cons (xh_lt_T (XI_lit (by decide +kernel)) rfl c3) ?_
    refine xc_cons (xh_lt_F rfl (XI_lit (by decide +kernel)) c4) ?_
    refine xc_cons (xh_ge_T rfl (XI_lit (by decide +kernel)) c10) ?_
    refine xc_cons (xh_lt_T (XI_lit (by decide +kernel)) rfl c11) ?_
    refine xc_cons (xh_lt_T (XI_lit (by decide +kernel)) rfl c12) ?_
    refine xc_cons (xh_lt_T (XI_lit (by decide +kernel)) rfl c13) ?_
    refine xc_cons (xh_lt_F rfl (XI_lit (by decide +kernel)) c14) ?_
    refine xc_cons (xh_gt_T rfl (XI_lit (by decide +kernel)) c15) ?_
    refine xc_cons (xh_gt_T (XI_lit (by decide +kernel)) rfl c16) ?_
    exact xc_nil
theorem lf_33_0 : xfin (xev 104 20 xlaw 18 xlo0 [] xh0 [(.gt, .int 0, .sub (.arg 49) (.int 6), false), (.lt, .int 0, .arg 49, true), (.eq, .op2 .iand (.arg 0) (.int 63), .int 33, true), (.lt, .int 1, .arg 49, true), (.lt, .arg 1, .int 0, true), (.lt, .int 1, .arg 49, true), (.lt, .arg 1, .int 0, true), (.gt, .int 6, .sub (.arg 49) (.int 6), true)]) = true := by decide +kernel
theorem lf_33_1 : xfin (xev 113 20 xlaw 18 xlo0 [] xh0 [(.gt, .int 0, .sub (.arg 49) (.int 6), false), (.lt, .int 0, .arg 49, true), (.eq, .op2 .iand (.arg 0) (.int 63), .int 33, true), (.lt, .int 1, .arg 49, true), (.lt, .arg 1, .int 0, false), (.lt, .arg 1, .int 0, false), (.lt, .int 1, .arg 49, true), (.lt, .arg 1, .int 0, false), (.gt, .arg 1, .int (-1), true), (.gt, .int 6, .sub (.arg 49) (.int 6), true)]) = true := by decide +kernel
set_option maxHeartbeats 4000000 in
theorem cv_33 {r : Nat → Value} (h49 : XI r (.arg 49) = 6) (hs : XI r (.sub (.arg 49) (.int 6)) = 0) (hk : XI r (.op2 .iand (.arg 0) (.int 63)) = 33) : ∃ (f : Nat) (E : List xB), (∀ q ∈ E, xhold r q) ∧ xfin (xev f 20 xlaw 18 xlo0 [] xh0 E) = true := by
  have h0 : ¬ (XI r (.sub (.arg 49) (.int 6)) < (0 : Int)) := by omega
  have h1 : (0 : Int) < XI r (.arg 49) := by omega
  have b0 : xhid (-2147483648 ≤ XI r (.arg 0)) := XI_lo r (.arg 0)
  have d0 : xhid (XI r (.arg 0) < 2147483648) := XI_hi r (.arg 0)
  have b1 : xhid (-2147483648 ≤ XI r (.arg 1)) := XI_lo r (.arg 1)
  have d1 : xhid (XI r (.arg 1) < 2147483648) := XI_hi r (.arg 1)
  have b2 : xhid (-2147483648 ≤ XI r (.arg 2)) := XI_lo r (.arg 2)
  have d2 : xhid (XI r (.arg 2) < 2147483648) := XI_hi r (.arg 2)
  have b3 : xhid (-2147483648 ≤ XI r (.arg 3)) := XI_lo r (.arg 3)
  have d3 : xhid (XI r (.arg 3) < 2147483648) := XI_hi r (.arg 3)
  have b4 : xhid (-2147483648 ≤ XI r (.arg 4)) := XI_lo r (.arg 4)
  have d4 : xhid (XI r (.arg 4) < 2147483648) := XI_hi r (.arg 4)
  have b5 : xhid (-2147483648 ≤ XI r (.arg 5)) := XI_lo r (.arg 5)
  have d5 : xhid (XI r (.arg 5) < 2147483648) := XI_hi r (.arg 5)
  have c1 : xhid ((1 : Int) < XI r (.arg 49)) := ((by have z0 : ¬ (XI r (.sub (.arg 49) (.int 6)) < (0 : Int)) := h0; omega) : (1 : Int) < XI r (.arg 49))
  refine (Classical.em (XI r (.arg 1) < (0 : Int))).elim (fun (c2 : xhid (XI r (.arg 1) < (0 : Int))) => ?_) (fun (c2 : xhid (¬ (XI r (.arg 1) < (0 : Int)))) => ?_)
  ·
    have c3 : xhid ((1 : Int) < XI r (.arg 49)) := ((by have z0 : (1 : Int) < XI r (.arg 49) := c1; omega) : (1 : Int) < XI r (.arg 49))
    have c4 : xhid (XI r (.arg 1) < (0 : Int)) := ((by have z0 : XI r (.arg 1) < (0 : Int) := c2; have z1 : -2147483648 ≤ XI r (.arg 1) := b1; have z2 : XI r (.arg 1) < 2147483648 := d1; omega) : XI r (.arg 1) < (0 : Int))
    have c5 : xhid (XI r (.sub (.arg 49) (.int 6)) < (6 : Int)) := ((by omega) : XI r (.sub (.arg 49) (.int 6)) < (6 : Int))
    refine ⟨104, _, ?_, lf_33_0⟩
    refine xc_cons (xh_gt_F (XI_lit (by decide +kernel)) rfl h0) ?_
    refine xc_cons (xh_lt_T (XI_lit (by decide +kernel)) rfl h1) ?_
    refine xc_cons (xh_eq_T rfl (XI_lit (by decide +kernel)) hk) ?_
    refine xc_cons (xh_lt_T (XI_lit (by decide +kernel)) rfl c1) ?_
    refine xc_cons (xh_lt_T rfl (XI_lit (by decide +kernel)) c2) ?_
    refine xc_cons (xh_lt_T (XI_lit (by decide +kernel)) rfl c3) ?_
    refine xc_cons (xh_lt_T rfl (XI_lit (by decide +kernel)) c4) ?_
    refine xc_cons (xh_gt_T (XI_lit (by decide +kernel)) rfl c5) ?_
    exact xc_nil
  ·
    have c6 : xhid (¬ (XI r (.arg 1) < (0 : Int))) := ((by have z0 : ¬ (XI r (.arg 1) < (0 : Int)) := c2; have z1 : -2147483648 ≤ XI r (.arg 1) := b1; have z2 : XI r (.arg 1) < 2147483648 := d1; omega) : ¬ (XI r (.arg 1) < (0 : Int)))
    have c7 : xhid ((1 : Int) < XI r (.arg 49)) := ((by have z0 : (1 : Int) < XI r (.arg 49) := c1; omega) : (1 : Int) < XI r (.arg 49))
    have c8 : xhid (¬ (XI r (.arg 1) < (0 : Int))) := ((by have z0 : ¬ (XI r (.arg 1) < (0 : Int)) := c6; have z1 : -2147483648 ≤ XI r (.arg 1) := b1; have z2 : XI r (.arg 1) < 2147483648 := d1; omega) : ¬ (XI r (.arg 1) < (0 : Int)))
    have c9 : xhid ((-1 : Int) < XI r (.arg 1)) := ((by have z0 : ¬ (XI r (.arg 1) < (0 : Int)) := c8; have z1 : -2147483648 ≤ XI r (.arg 1) := b1; have z2 : XI r (.arg 1) < 2147483648 := d1; omega) : (-1 : Int) < XI r (.arg 1))
    have c10 : xhid (XI r (.sub (.arg 49) (.int 6)) < (6 : Int)) := ((by omega) : XI r (.sub (.arg 49) (.int 6)) < (6 : Int))
    refine ⟨113, _, ?_, lf_33_1⟩
    refine xc_cons (xh_gt_F (XI_lit (by decide +kernel)) rfl h0) ?_
    refine xc_cons (xh_lt_T (XI_lit (by decide +kernel)) rfl h1) ?_
    refine xc_cons (xh_eq_T rfl (XI_lit (by decide +kernel)) hk) ?_
    refine xc_cons (xh_lt_T (XI_lit (by decide +kernel)) rfl c1) ?_
    refine xc_cons (xh_lt_F rfl (XI_lit (by decide +kernel)) c2) ?_
    refine xc_cons (xh_lt_F rfl (XI_lit (by decide +kernel)) c6) ?_
    refine xc_cons (xh_lt_T (XI_lit (by decide +kernel)) rfl c7) ?_
    refine xc_cons (xh_lt_F rfl (XI_lit (by decide +kernel)) c8) ?_
    refine xc_cons (xh_gt_T rfl (XI_lit (by decide +kernel)) c9) ?_
    refine xc_cons (xh_gt_T (XI_lit (by decide +kernel)) rfl c10) ?_
    exact xc_nil
theorem lf_34_0 : xfin (xev 787 20 xlaw 18 xlo0 [] xh0 [(.gt, .int 0, .sub (.arg 49) (.int 6), false), (.lt, .int 0, .arg 49, true), (.eq, .op2 .iand (.arg 0) (.int 63), .int 34, true), (.lt, .int 1, .arg 49, true), (.eq, .arg 1, .int 0, true), (.lt, .int 2, .arg 49, true), (.lt, .int 3, .arg 49, true), (.eq, .arg 2, .int 0, true), (.eq, .arg 2, .int 0, true), (.eq, .arg 2, .int 0, true), (.ne, .arg 2, .int 0, false), (.lt, .int 1, .arg 49, true), (.eq, .arg 1, .int 0, true), (.lt, .int 2, .arg 49, true), (.lt, .int 3, .arg 49, true), (.eq, .arg 2, .int 0, true), (.eq, .arg 2, .int 0, true), (.eq, .arg 2, .int 0, true), (.ne, .arg 2, .int 0, false), (.gt, .int 6, .sub (.arg 49) (.int 6), true)]) = true := by decide +kernel
theorem lf_34_1 : xfin (xev 801 20 xlaw 18 xlo0 [] xh0 [(.gt, .int 0, .sub (.arg 49) (.int 6), false), (.lt, .int 0, .arg 49, true), (.eq, .op2 .iand (.arg 0) (.int 63), .int 34, true), (.lt, .int 1, .arg 49, true), (.eq, .arg 1, .int 0, true), (.lt, .int 2, .arg 49, true), (.lt, .int 3, .arg 49, true), (.eq, .arg 2, .int 0, false), (.eq, .arg 2, .int 8, true), (.eq, .arg 2, .int 0, false), (.ge, .arg 3, .int 0, true), (.eq, .arg 2, .int 0, false), (.le, .arg 3, .int 24, true), (.ne, .arg 2, .int 0, true), (.lt, .int 1, .arg 49, true), (.eq, .arg 1, .int 0, true), (.lt, .int 2, .arg 49, true), (.lt, .int 3, .arg 49, true), (.eq, .arg 2, .int 0, false), (.eq, .arg 2, .int 8, true), (.eq, .arg 2, .int 0, false), (.ge, .arg 3, .int 0, true), (.eq, .arg 2, .int 0, false), (.le, .arg 3, .int 24, true), (.ne, .arg 2, .int 0, true), (.gt, .int 6, .sub (.arg 49) (.int 6), true)]) = true := by decide +kernel
theorem lf_34_2 : xfin (xev 165 20 xlaw 18 xlo0 [] xh0 [(.gt, .int 0, .sub (.arg 49) (.int 6), false), (.lt, .int 0, .arg 49, true), (.eq, .op2 .iand (.arg 0) (.int 63), .int 34, true), (.lt, .int 1, .arg 49, true), (.eq, .arg 1, .int 0, true), (.lt, .int 2, .arg 49, true), (.lt, .int 3, .arg 49, true), (.eq, .arg 2, .int 0, false), (.eq, .arg 2, .int 8, true), (.eq, .arg 2, .int 0, false), (.ge, .arg 3, .int 0, true), (.eq, .arg 2, .int 0, false), (.le, .arg 3, .int 24, false), (.lt, .int 1, .arg 49, true), (.eq, .arg 1, .int 0, true), (.lt, .int 2, .arg 49, true), (.lt, .int 3, .arg 49, true), (.eq, .arg 2, .int 0, false), (.eq, .arg 2, .int 8, true), (.eq, .arg 2, .int 0, false), (.ge, .arg 3, .int 0, true), (.eq, .arg 2, .int 0, false), (.le, .arg 3, .int 24, false), (.gt, .int 6, .sub (.arg 49) (.int 6), true)]) = true := by decide +kernel
theorem lf_34_3 : xfin (xev 155 20 xlaw 18 xlo0 [] xh0 [(.gt, .int 0, .sub (.arg 49) (.int 6), false), (.lt, .int 0, .arg 49, true), (.eq, .op2 .iand (.arg 0) (.int 63), .int 34, true), (.lt, .int 1, .arg 49, true), (.eq, .arg 1, .int 0, true), (.lt, .int 2, .arg 49, true), (.lt, .int 3, .arg 49, true), (.eq, .arg 2, .int 0, false), (.eq, .arg 2, .int 8, true), (.eq, .arg 2, .int 0, false), (.ge, .arg 3, .int 0, false), (.lt, .int 1, .arg 49, true), (.eq, .arg 1, .int 0, true), (.lt, .int 2, .arg 49, true), (.lt, .int 3, .arg 49, true), (.eq, .arg 2, .int 0, false), (.eq, .arg 2, .int 8, true), (.eq, .arg 2, .int 0, false), (.ge, .arg 3, .int 0, false), (.gt, .int 6, .sub (.arg 49) (.int 6), true)]) = true := by decide +kernel
theorem lf_34_4 : xfin (xev 807 20 xlaw 18 xlo0 [] xh0 [(.gt, .int 0, .sub (.arg 49) (.int 6), false), (.lt, .int 0, .arg 49, true), (.eq, .op2 .iand (.arg 0) (.int 63), .int 34, true), (.lt, .int 1, .arg 49, true), (.eq, .arg 1, .int 0, true), (.lt, .int 2, .arg 49, true), (.lt, .int 3, .arg 49, true), (.eq, .arg 2, .int 0, false), (.eq, .arg 2, .int 8, false), (.eq, .arg 2, .int 16, true), (.eq, .arg 2, .int 0, false), (.ge, .arg 3, .int 0, true), (.eq, .arg 2, .int 0, false), (.le, .arg 3, .int 24, true), (.ne, .arg 2, .int 0, true), (.lt, .int 1, .arg 49, true), (.eq, .arg 1, .int 0, true), (.lt, .int 2, .arg 49, true), (.lt, .int 3, .arg 49, true), (.eq, .arg 2, .int 0, false), (.eq, .arg 2, .int 8, false), (.eq, .arg 2, .int 16, true), (.eq, .arg 2, .int 0, false), (.ge, .arg 3, .int 0, true), (.eq, .arg 2, .int 0, false), (.le, .arg 3, .int 24, true), (.ne, .arg 2, .int 0, true), (.gt, .int 6, .sub (.arg 49) (.int 6), true)]) = true := by decide +kernel
theorem lf_34_5 : xfin (xev 171 20 xlaw 18 xlo0 [] xh0 [(.gt, .int 0, .sub (.arg 49) (.int 6), false), (.lt, .int 0, .arg 49, true), (.eq, .op2 .iand (.arg 0) (.int 63), .int 34, true), (.lt, .int 1, .arg 49, true), (.eq, .arg 1, .int 0, true), (.lt, .int 2, .arg 49, true), (.lt, .int 3, .arg 49, true), (.eq, .arg 2, .int 0, false), (.eq, .arg 2, .int 8, false), (.eq, .arg 2, .int 16, true), (.eq, .arg 2, .int 0, false), (.ge, .arg 3, .int 0, true), (.eq, .arg 2, .int 0, false), (.le, .arg 3, .int 24, false), (.lt, .int 1, .arg 49, true), (.eq, .arg 1, .int 0, true), (.lt, .int 2, .arg 49, true), (.lt, .int 3, .arg 49, true), (.eq, .arg 2, .int 0, false), (.eq, .arg 2, .int 8, false), (.eq, .arg 2, .int 16, true), (.eq, .arg 2, .int 0, false), (.ge, .arg 3, .int 0, true), (.eq, .arg 2, .int 0, false), (.le, .arg 3, .int 24, false), (.gt, .int 6, .sub (.arg 49) (.int 6), true)]) = true := by decide +kernel
theorem lf_34_6 : xfin (xev 161 20 xlaw 18 xlo0 [] xh0 [(.gt, .int 0, .sub (.arg 49) (.int 6), false), (.lt, .int 0, .arg 49, true), (.eq, .op2 .iand (.arg 0) (.int 63), .int 34, true), (.lt, .int 1, .arg 49, true), (.eq, .arg 1, .int 0, true), (.lt, .int 2, .arg 49, true), (.lt, .int 3, .arg 49, true), (.eq, .arg 2, .int 0, false), (.eq, .arg 2, .int 8, false), (.eq, .arg 2, .int 16, true), (.eq, .arg 2, .int 0, false), (.ge, .arg 3, .int 0, false), (.lt, .int 1, .arg 49, true), (.eq, .arg 1, .int 0, true), (.lt, .int 2, .arg 49, true), (.lt, .int 3, .arg 49, true), (.eq, .arg 2, .int 0, false), (.eq, .arg 2, .int 8, false), (.eq, .arg 2, .int 16, true), (.eq, .arg 2, .int 0, false), (.ge, .arg 3, .int 0, false), (.gt, .int 6, .sub (.arg 49) (.int 6), true)]) = true := by decide +kernel
theorem lf_34_7 : xfin (xev 813 20 xlaw 18 xlo0 [] xh0 [(.gt, .int 0, .sub (.arg 49) (.int 6), false), (.lt, .int 0, .arg 49, true), (.eq, .op2 .iand (.arg 0) (.int 63), .int 34, true), (.lt, .int 1, .arg 49, true), (.eq, .arg 1, .int 0, true), (.lt, .int 2, .arg 49, true), (.lt, .int 3, .arg 49, true), (.eq, .arg 2, .int 0, false), (.eq, .arg 2, .int 8, false), (.eq, .arg 2, .int 16, false), (.eq, .arg 2, .int 32, true), (.eq, .arg 2, .int 0, false), (.ge, .arg 3, .int 0, true), (.eq, .arg 2, .int 0, false), (.le, .arg 3, .int 24, true), (.ne, .arg 2, .int 0, true), (.lt, .int 1, .arg 49, true), (.eq, .arg 1, .int 0, true), (.lt, .int 2, .arg 49, true), (.lt, .int 3, .arg 49, true), (.eq, .arg 2, .int 0, false), (.eq, .arg 2, .int 8, false), (.eq, .arg 2, .int 16, false), (.eq, .arg 2, .int 32, true), (.eq, .arg 2, .int 0, false), (.ge, .arg 3, .int 0, true), (.eq, .arg 2, .int 0, false), (.le, .arg 3, .int 24, true), (.ne, .arg 2, .int 0, true), (.gt, .int 6, .sub (.arg 49) (.int 6), true)]) = true := by decide +kernel
theorem lf_34_8 : xfin (xev 177 20 xlaw 18 xlo0 [] xh0 [(.gt, .int 0, .sub (.arg 49) (.int 6), false), (.lt, .int 0, .arg 49, true), (.eq, .op2 .iand (.arg 0) (.int 63), .int 34, true), (.lt, .int 1, .arg 49, true), (.eq, .arg 1, .int 0, true), (.lt, .int 2, .arg 49, true), (.lt, .int 3, .arg 49, true), (.eq, .arg 2, .int 0, false), (.eq, .arg 2, .int 8, false), (.eq, .arg 2, .int 16, false), (.eq, .arg 2, .int 32, true), (.eq, .arg 2, .int 0, false), (.ge, .arg 3, .int 0, true), (.eq, .arg 2, .int 0, false), (.le, .arg 3, .int 24, false), (.lt, .int 1, .arg 49, true), (.eq, .arg 1, .int 0, true), (.lt, .int 2, .arg 49, true), (.lt, .int 3, .arg 49, true), (.eq, .arg 2, .int 0, false), (.eq, .arg 2, .int 8, false), (.eq, .arg 2, .int 16, false), (.eq, .arg 2, .int 32, true), (.eq, .arg 2, .int 0, false), (.ge, .arg 3, .int 0, true), (.eq, .arg 2, .int 0, false), (.le, .arg 3, .int 24, false), (.gt, .int 6, .sub (.arg 49) (.int 6), true)]) = true := by decide +kernel
theorem lf_34_9 : xfin (xev 167 20 xlaw 18 xlo0 [] xh0 [(.gt, .int 0, .sub (.arg 49) (.int 6), false), (.lt, .int 0, .arg 49, true), (.eq, .op2 .iand (.arg 0) (.int 63), .int 34, true), (.lt, .int 1, .arg 49, true), (.eq, .arg 1, .int 0, true), (.lt, .int 2, .arg 49, true), (.lt, .int 3, .arg 49, true), (.eq, .arg 2, .int 0, false), (.eq, .arg 2, .int 8, false), (.eq, .arg 2, .int 16, false), (.eq, .arg 2, .int 32, true), (.eq, .arg 2, .int 0, false), (.ge, .arg 3, .int 0, false), (.lt, .int 1, .arg 49, true), (.eq, .arg 1, .int 0, true), (.lt, .int 2, .arg 49, true), (.lt, .int 3, .arg 49, true), (.eq, .arg 2, .int 0, false), (.eq, .arg 2, .int 8, false), (.eq, .arg 2, .int 16, false), (.eq, .arg 2, .int 32, true), (.eq, .arg 2, .int 0, false), (.ge, .arg 3, .int 0, false), (.gt, .int 6, .sub (.arg 49) (.int 6), true)]) = true := by decide +kernel
theorem lf_34_10 : xfin (xev 159 20 xlaw 18 xlo0 [] xh0 [(.gt, .int 0, .sub (.arg 49) (.int 6), false), (.lt, .int 0, .arg 49, true), (.eq, .op2 .iand (.arg 0) (.int 63), .int 34, true), (.lt, .int 1, .arg 49, true), (.eq, .arg 1, .int 0, true), (.lt, .int 2, .arg 49, true), (.lt, .int 3, .arg 49, true), (.eq, .arg 2, .int 0, false), (.eq, .arg 2, .int 8, false), (.eq, .arg 2, .int 16, false), (.eq, .arg 2, .int 32, false), (.lt, .int 1, .arg 49, true), (.eq, .arg 1, .int 0, true), (.lt, .int 2, .arg 49, true), (.lt, .int 3, .arg 49, true), (.eq, .arg 2, .int 0, false), (.eq, .arg 2, .int 8, false), (.eq, .arg 2, .int 16, false), (.eq, .arg 2, .int 32, false), (.gt, .int 6, .sub (.arg 49) (.int 6), true)]) = true := by decide +kernel
theorem lf_34_11 : xfin (xev 787 20 xlaw 18 xlo0 [] xh0 [(.gt, .int 0, .sub (.arg 49) (.int 6), false), (.lt, .int 0, .arg 49, true), (.eq, .op2 .iand (.arg 0) (.int 63), .int 34, true), (.lt, .int 1, .arg 49, true), (.eq, .arg 1, .int 1, true), (.lt, .int 2, .arg 49, true), (.lt, .int 3, .arg 49, true), (.eq, .arg 2, .int 0, true), (.eq, .arg 2, .int 0, true), (.eq, .arg 2, .int 0, true), (.ne, .arg 2, .int 0, false), (.lt, .int 1, .arg 49, true), (.eq, .arg 1, .int 1, true), (.lt, .int 2, .arg 49, true), (.lt, .int 3, .arg 49, true), (.eq, .arg 2, .int 0, true), (.eq, .arg 2, .int 0, true), (.eq, .arg 2, .int 0, true), (.ne, .arg 2, .int 0, false), (.gt, .int 6, .sub (.arg 49) (.int 6), true)]) = true := by decide +kernel
theorem lf_34_12 : xfin (xev 801 20 xlaw 18 xlo0 [] xh0 [(.gt, .int 0, .sub (.arg 49) (.int 6), false), (.lt, .int 0, .arg 49, true), (.eq, .op2 .iand (.arg 0) (.int 63), .int 34, true), (.lt, .int 1, .arg 49, true), (.eq, .arg 1, .int 1, true), (.lt, .int 2, .arg 49, true), (.lt, .int 3, .arg 49, true), (.eq, .arg 2, .int 0, false), (.eq, .arg 2, .int 8, true), (.eq, .arg 2, .int 0, false), (.ge, .arg 3, .int 0, true), (.eq, .arg 2, .int 0, false), (.le, .arg 3, .int 24, true), (.ne, .arg 2, .int 0, true), (.lt, .int 1, .arg 49, true), (.eq, .arg 1, .int 1, true), (.lt, .int 2, .arg 49, true), (.lt, .int 3, .arg 49, true), (.eq, .arg 2, .int 0, false), (.eq, .arg 2, .int 8, true), (.eq, .arg 2, .int 0, false), (.ge, .arg 3, .int 0, true), (.eq, .arg 2, .int 0, false), (.le, .arg 3, .int 24, true), (.ne, .arg 2, .int 0, true), (.gt, .int 6, .sub (.arg 49) (.int 6), true)]) = true := by decide +kernel
theorem lf_34_13 : xfin (xev 165 20 xlaw 18 xlo0 [] xh0 [(.gt, .int 0, .sub (.arg 49) (.int 6), false), (.lt, .int 0, .arg 49, true), (.eq, .op2 .iand (.arg 0) (.int 63), .int 34, true), (.lt, .int 1, .arg 49, true), (.eq, .arg 1, .int 1, true), (.lt, .int 2, .arg 49, true), (.lt, .int 3, .arg 49, true), (.eq, .arg 2, .int 0, false), (.eq, .arg 2, .int 8, true), (.eq, .arg 2, .int 0, false), (.ge, .arg 3, .int 0, true), (.eq, .arg 2, .int 0, false), (.le, .arg 3, .int 24, false), (.lt, .int 1, .arg 49, true), (.eq, .arg 1, .int 1, true), (.lt, .int 2, .arg 49, true), (.lt, .int 3, .arg 49, true), (.eq, .arg 2, .int 0, false), (.eq, .arg 2, .int 8, true), (.eq, .arg 2, .int 0, false), (.ge, .arg 3, .int 0, true), (.eq, .arg 2, .int 0, false), (.le, .arg 3, .int 24, false), (.gt, .int 6, .sub (.arg 49) (.int 6), true)]) = true := by decide +kernel
theorem lf_34_14 : xfin (xev 155 20 xlaw 18 xlo0 [] xh0 [(.gt, .int 0, .sub (.arg 49) (.int 6), false), (.lt, .int 0, .arg 49, true), (.eq, .op2 .iand (.arg 0) (.int 63), .int 34, true), (.lt, .int 1, .arg 49, true), (.eq, .arg 1, .int 1, true), (.lt, .int 2, .arg 49, true), (.lt, .int 3, .arg 49, true), (.eq, .arg 2, .int 0, false), (.eq, .arg 2, .int 8, true), (.eq, .arg 2, .int 0, false), (.ge, .arg 3, .int 0, false), (.lt, .int 1, .arg 49, true), (.eq, .arg 1, .int 1, true), (.lt, .int 2, .arg 49, true), (.lt, .int 3, .arg 49, true), (.eq, .arg 2, .int 0, false), (.eq, .arg 2, .int 8, true), (.eq, .arg 2, .int 0, false), (.ge, .arg 3, .int 0, false), (.gt, .int 6, .sub (.arg 49) (.int 6), true)]) = true := by decide +kernel
theorem lf_34_15 : xfin (xev 807 20 xlaw 18 xlo0 [] xh0 [(.gt, .int 0, .sub (.arg 49) (.int 6), false), (.lt, .int 0, .arg 49, true), (.eq, .op2 .iand (.arg 0) (.int 63), .int 34, true), (.lt, .int 1, .arg 49, true), (.eq, .arg 1, .int 1, true), (.lt, .int 2, .arg 49, true), (.lt, .int 3, .arg 49, true), (.eq, .arg 2, .int 0, false), (.eq, .arg 2, .int 8, false), (.eq, .arg 2, .int 16, true), (.eq, .arg 2, .int 0, false), (.ge, .arg 3, .int 0, true), (.eq, .arg 2, .int 0, false), (.le, .arg 3, .int 24, true), (.ne, .arg 2, .int 0, true), (.lt, .int 1, .arg 49, true), (.eq, .arg 1, .int 1, true), (.lt, .int 2, .arg 49, true), (.lt, .int 3, .arg 49, true), (.eq, .arg 2, .int 0, false), (.eq, .arg 2, .int 8, false), (.eq, .arg 2, .int 16, true), (.eq, .arg 2, .int 0, false), (.ge, .arg 3, .int 0, true), (.eq, .arg 2, .int 0, false), (.le, .arg 3, .int 24, true), (.ne, .arg 2, .int 0, true), (.gt, .int 6, .sub (.arg 49) (.int 6), true)]) = true := by decide +kernel
theorem lf_34_16 : xfin (xev 171 20 xlaw 18 xlo0 [] xh0 [(.gt, .int 0, .sub (.arg 49) (.int 6), false), (.lt, .int 0, .arg 49, true), (.eq, .op2 .iand (.arg 0) (.int 63), .int 34, true), (.lt, .int 1, .arg 49, true), (.eq, .arg 1, .int 1, true), (.lt, .int 2, .arg 49, true), (.lt, .int 3, .arg 49, true), (.eq, .arg 2, .int 0, false), (.eq, .arg 2, .int 8, false), (.eq, .arg 2, .int 16, true), (.eq, .arg 2, .int 0, false), (.ge, .arg 3, .int 0, true), (.eq, .arg 2, .int 0, false), (.le, .arg 3, .int 24, false), (.lt, .int 1, .arg 49, true), (.eq, .arg 1, .int 1, true), (.lt, .int 2, .arg 49, true), (.lt, .int 3, .arg 49, true), (.eq, .arg 2, .int 0, false), (.eq, .arg 2, .int 8, false), (.eq, .arg 2, .int 16, true), (.eq, .arg 2, .int 0, false), (.ge, .arg 3, .int 0, true), (.eq, .arg 2, .int 0, false), (.le, .arg 3, .int 24, false), (.gt, .int 6, .sub (.arg 49) (.int 6), true)]) = true := by decide +kernel
theorem lf_34_17 : xfin (xev 161 20 xlaw 18 xlo0 [] xh0 [(.gt, .int 0, .sub (.arg 49) (.int 6), false), (.lt, .int 0, .arg 49, true), (.eq, .op2 .iand (.arg 0) (.int 63), .int 34, true), (.lt, .int 1, .arg 49, true), (.eq, .arg 1, .int 1, true), (.lt, .int 2, .arg 49, true), (.lt, .int 3, .arg 49, true), (.eq, .arg 2, .int 0, false), (.eq, .arg 2, .int 8, false), (.eq, .arg 2, .int 16, true), (.eq, .arg 2, .int 0, false), (.ge, .arg 3, .int 0, false), (.lt, .int 1, .arg 49, true), (.eq, .arg 1, .int 1, true), (.lt, .int 2, .arg 49, true), (.lt, .int 3, .arg 49, true), (.eq, .arg 2, .int 0, false), (.eq, .arg 2, .int 8, false), (.eq, .arg 2, .int 16, true), (.eq, .arg 2, .int 0, false), (.ge, .arg 3, .int 0, false), (.gt, .int 6, .sub (.arg 49) (.int 6), true)]) = true := by decide +kernel
theorem lf_34_18 : xfin (xev 813 20 xlaw 18 xlo0 [] xh0 [(.gt, .int 0, .sub (.arg 49) (.int 6), false), (.lt, .int 0, .arg 49, true), (.eq, .op2 .iand (.arg 0) (.int 63), .int 34, true), (.lt, .int 1, .arg 49, true), (.eq, .arg 1, .int 1, true), (.lt, .int 2, .arg 49, true), (.lt, .int 3, .arg 49, true), (.eq, .arg 2, .int 0, false), (.eq, .arg 2, .int 8, false), (.eq, .arg 2, .int 16, false), (.eq, .arg 2, .int 32, true), (.eq, .arg 2, .int 0, false), (.ge, .arg 3, .int 0, true), (.eq, .arg 2, .int 0, false), (.le, .arg 3, .int 24, true), (.ne, .arg 2, .int 0, true), (.lt, .int 1, .arg 49, true), (.eq, .arg 1, .int 1, true), (.lt, .int 2, .arg 49, true), (.lt, .int 3, .arg 49, true), (.eq, .arg 2, .int 0, false), (.eq, .arg 2, .int 8, false), (.eq, .arg 2, .int 16, false), (.eq, .arg 2, .int 32, true), (.eq, .arg 2, .int 0, false), (.ge, .arg 3, .int 0, true), (.eq, .arg 2, .int 0, false), (.le, .arg 3, .int 24, true), (.ne, .arg 2, .int 0, true), (.gt, .int 6, .sub (.arg 49) (.int 6), true)]) = true := by decide +kernel
theorem lf_34_19 : xfin (xev 177 20 xlaw 18 xlo0 [] xh0 [(.gt, .int 0, .sub (.arg 49) (.int 6), false), (.lt, .int 0, .arg 49, true), (.eq, .op2 .iand (.arg 0) (.int 63), .int 34, true), (.lt, .int 1, .arg 49, true), (.eq, .arg 1, .int 1, true), (.lt, .int 2, .arg 49, true), (.lt, .int 3, .arg 49, true), (.eq, .arg 2, .int 0, false), (.eq, .arg 2, .int 8, false), (.eq, .arg 2, .int 16, false), (.eq, .arg 2, .int 32, true), (.eq, .arg 2, .int 0, false), (.ge, .arg 3, .int 0, true), (.eq, .arg 2, .int 0, false), (.le, .arg 3, .int 24, false), (.lt, .int 1, .arg 49, true), (.eq, .arg 1, .int 1, true), (.lt, .int 2, .arg 49, true), (.lt, .int 3, .arg 49, true), (.eq, .arg 2, .int 0, false), (.eq, .arg 2, .int 8, false), (.eq, .arg 2, .int 16, false), (.eq, .arg 2, .int 32, true), (.eq, .arg 2, .int 0, false), (.ge, .arg 3, .int 0, true), (.eq, .arg 2, .int 0, false), (.le, .arg 3, .int 24, false), (.gt, .int 6, .sub (.arg 49) (.int 6), true)]) = true := by decide +kernel
theorem lf_34_20 : xfin (xev 167 20 xlaw 18 xlo0 [] xh0 [(.gt, .int 0, .sub (.arg 49) (.int 6), false), (.lt, .int 0, .arg 49, true), (.eq, .op2 .iand (.arg 0) (.int 63), .int 34, true), (.lt, .int 1, .arg 49, true), (.eq, .arg 1, .int 1, true), (.lt, .int 2, .arg 49, true), (.lt, .int 3, .arg 49, true), (.eq, .arg 2, .int 0, false), (.eq, .arg 2, .int 8, false), (.eq, .arg 2, .int 16, false), (.eq, .arg 2, .int 32, true), (.eq, .arg 2, .int 0, false), (.ge, .arg 3, .int 0, false), (.lt, .int 1, .arg 49, true), (.eq, .arg 1, .int 1, true), (.lt, .int 2, .arg 49, true), (.lt, .int 3, .arg 49, true), (.eq, .arg 2, .int 0, false), (.eq, .arg 2, .int 8, false), (.eq, .arg 2, .int 16, false), (.eq, .arg 2, .int 32, true), (.eq, .arg 2, .int 0, false), (.ge, .arg 3, .int 0, false), (.gt, .int 6, .sub (.arg 49) (.int 6), true)]) = true := by decide +kernel
theorem lf_34_21 : xfin (xev 159 20 xlaw 18 xlo0 [] xh0 [(.gt, .int 0, .sub (.arg 49) (.int 6), false), (.lt, .int 0, .arg 49, true), (.eq, .op2 .iand (.arg 0) (.int 63), .int 34, true), (.lt, .int 1, .arg 49, true), (.eq, .arg 1, .int 1, true), (.lt, .int 2, .arg 49, true), (.lt, .int 3, .arg 49, true), (.eq, .arg 2, .int 0, false), (.eq, .arg 2, .int 8, false), (.eq, .arg 2, .int 16, false), (.eq, .arg 2, .int 32, false), (.lt, .int 1, .arg 49, true), (.eq, .arg 1, .int 1, true), (.lt, .int 2, .arg 49, true), (.lt, .int 3, .arg 49, true), (.eq, .arg 2, .int 0, false), (.eq, .arg 2, .int 8, false), (.eq, .arg 2, .int 16, false), (.eq, .arg 2, .int 32, false), (.gt, .int 6, .sub (.arg 49) (.int 6), true)]) = true := by decide +kernel
theorem lf_34_22 : xfin (xev 787 20 xlaw 18 xlo0 [] xh0 [(.gt, .int 0, .sub (.arg 49) (.int 6), false), (.lt, .int 0, .arg 49, true), (.eq, .op2 .iand (.arg 0) (.int 63), .int 34, true), (.lt, .int 1, .arg 49, true), (.eq, .arg 1, .int 2, true), (.lt, .int 2, .arg 49, true), (.lt, .int 3, .arg 49, true), (.eq, .arg 2, .int 0, true), (.eq, .arg 2, .int 0, true), (.eq, .arg 2, .int 0, true), (.ne, .arg 2, .int 0, false), (.lt, .int 1, .arg 49, true), (.eq, .arg 1, .int 2, true), (.lt, .int 2, .arg 49, true), (.lt, .int 3, .arg 49, true), (.eq, .arg 2, .int 0, true), (.eq, .arg 2, .int 0, true), (.eq, .arg 2, .int 0, true), (.ne, .arg 2, .int 0, false), (.gt, .int 6, .sub (.arg 49) (.int 6), true)]) = true := by decide +kernel
theorem lf_34_23 : xfin (xev 801 20 xlaw 18 xlo0 [] xh0 [(.gt, .int 0, .sub (.arg 49) (.int 6), false), (.lt, .int 0, .arg 49, true), (.eq, .op2 .iand (.arg 0) (.int 63), .int 34, true), (.lt, .int 1, .arg 49, true), (.eq, .arg 1, .int 2, true), (.lt, .int 2, .arg 49, true), (.lt, .int 3, .arg 49, true), (.eq, .arg 2, .int 0, false), (.eq, .arg 2, .int 8, true), (.eq, .arg 2, .int 0, false), (.ge, .arg 3, .int 0, true), (.eq, .arg 2, .int 0, false), (.le, .arg 3, .int 24, true), (.ne, .arg 2, .int 0, true), (.lt, .int 1, .arg 49, true), (.eq, .arg 1, .int 2, true), (.lt, .int 2, .arg 49, true), (.lt, .int 3, .arg 49, true), (.eq, .arg 2, .int 0, false), (.eq, .arg 2, .int 8, true), (.eq, .arg 2, .int 0, false), (.ge, .arg 3, .int 0, true), (.eq, .arg 2, .int 0, false), (.le, .arg 3, .int 24, true), (.ne, .arg 2, .int 0, true), (.gt, .int 6, .sub (.arg 49) (.int 6), true)]) = true := by decide +kernel
theorem lf_34_24 : xfin (xev 165 20 xlaw 18 xlo0 [] xh0 [(.gt, .int 0, .sub (.arg 49) (.int 6), false), (.lt, .int 0, .arg 49, true), (.eq, .op2 .iand (.arg 0) (.int 63), .int 34, true), (.lt, .int 1, .arg 49, true), (.eq, .arg 1, .int 2, true), (.lt, .int 2, .arg 49, true), (.lt, .int 3, .arg 49, true), (.eq, .arg 2, .int 0, false), (.eq, .arg 2, .int 8, true), (.eq, .arg 2, .int 0, false), (.ge, .arg 3, .int 0, true), (.eq, .arg 2, .int 0, false), (.le, .arg 3, .int 24, false), (.lt, .int 1, .arg 49, true), (.eq, .arg 1, .int 2, true), (.lt, .int 2, .arg 49, true), (.lt, .int 3, .arg 49, true), (.eq, .arg 2, .int 0, false), (.eq, .arg 2, .int 8, true), (.eq, .arg 2, .int 0, false), (.ge, .arg 3, .int 0, true), (.eq, .arg 2, .int 0, false), (.le, .arg 3, .int 24, false), (.gt, .int 6, .sub (.arg 49) (.int 6), true)]) = true := by decide +kernel
theorem lf_34_25 : xfin (xev 155 20 xlaw 18 xlo0 [] xh0 [(.gt, .int 0, .sub (.arg 49) (.int 6), false), (.lt, .int 0, .arg 49, true), (.eq, .op2 .iand (.arg 0) (.int 63), .int 34, true), (.lt, .int 1, .arg 49, true), (.eq, .arg 1, .int 2, true), (.lt, .int 2, .arg 49, true), (.lt, .int 3, .arg 49, true), (.eq, .arg 2, .int 0, false), (.eq, .arg 2, .int 8, true), (.eq, .arg 2, .int 0, false), (.ge, .arg 3, .int 0, false), (.lt, .int 1, .arg 49, true), (.eq, .arg 1, .int 2, true), (.lt, .int 2, .arg 49, true), (.lt, .int 3, .arg 49, true), (.eq, .arg 2, .int 0, false), (.eq, .arg 2, .int 8, true), (.eq, .arg 2, .int 0, false), (.ge, .arg 3, .int 0, false), (.gt, .int 6, .sub (.arg 49) (.int 6), true)]) = true := by decide +kernel
theorem lf_34_26 : xfin (xev 807 20 xlaw 18 xlo0 [] xh0 [(.gt, .int 0, .sub (.arg 49) (.int 6), false), (.lt, .int 0, .arg 49, true), (.eq, .op2 .iand (.arg 0) (.int 63), .int 34, true), (.lt, .int 1, .arg 49, true), (.eq, .arg 1, .int 2, true), (.lt, .int 2, .arg 49, true), (.lt, .int 3, .arg 49, true), (.eq, .arg 2, .int 0, false), (.eq, .arg 2, .int 8, false), (.eq, .arg 2, .int 16, true), (.eq, .arg 2, .int 0, false), (.ge, .arg 3, .int 0, true), (.eq, .arg 2, .int 0, false), (.le, .arg 3, .int 24, true), (.ne, .arg 2, .int 0, true), (.lt, .int 1, .arg 49, true), (.eq, .arg 1, .int 2, true), (.lt, .int 2, .arg 49, true), (.lt, .int 3, .arg 49, true), (.eq, .arg 2, .int 0, false), (.eq, .arg 2, .int 8, false), (.eq, .arg 2, .int 16, true), (.eq, .arg 2, .int 0, false), (.ge, .arg 3, .int 0, true), (.eq, .arg 2, .int 0, false), (.le, .arg 3, .int 24, true), (.ne, .arg 2, .int 0, true), (.gt, .int 6, .sub (.arg 49) (.int 6), true)]) = true := by decide +kernel
theorem lf_34_27 : xfin (xev 171 20 xlaw 18 xlo0 [] xh0 [(.gt, .int 0, .sub (.arg 49) (.int 6), false), (.lt, .int 0, .arg 49, true), (.eq, .op2 .iand (.arg 0) (.int 63), .int 34, true), (.lt, .int 1, .arg 49, true), (.eq, .arg 1, .int 2, true), (.lt, .int 2, .arg 49, true), (.lt, .int 3, .arg 49, true), (.eq, .arg 2, .int 0, false), (.eq, .arg 2, .int 8, false), (.eq, .arg 2, .int 16, true), (.eq, .arg 2, .int 0, false), (.ge, .arg 3, .int 0, true), (.eq, .arg 2, .int 0, false), (.le, .arg 3, .int 24, false), (.lt, .int 1, .arg 49, true), (.eq, .arg 1, .int 2, true), (.lt, .int 2, .arg 49, true), (.lt, .int 3, .arg 49, true), (.eq, .arg 2, .int 0, false), (.eq, .arg 2, .int 8, false), (.eq, .arg 2, .int 16, true), (.eq, .arg 2, .int 0, false), (.ge, .arg 3, .int 0, true), (.eq, .arg 2, .int 0, false), (.le, .arg 3, .int 24, false), (.gt, .int 6, .sub (.arg 49) (.int 6), true)]) = true := by decide +kernel
theorem lf_34_28 : xfin (xev 161 20 xlaw 18 xlo0 [] xh0 [(.gt, .int 0, .sub (.arg 49) (.int 6), false), (.lt, .int 0, .arg 49, true), (.eq, .op2 .iand (.arg 0) (.int 63), .int 34, true), (.lt, .int 1, .arg 49, true), (.eq, .arg 1, .int 2, true), (.lt, .int 2, .arg 49, true), (.lt, .int 3, .arg 49, true), (.eq, .arg 2, .int 0, false), (.eq, .arg 2, .int 8, false), (.eq, .arg 2, .int 16, true), (.eq, .arg 2, .int 0, false), (.ge, .arg 3, .int 0, false), (.lt, .int 1, .arg 49, true), (.eq, .arg 1, .int 2, true), (.lt, .int 2, .arg 49, true), (.lt, .int 3, .arg 49, true), (.eq, .arg 2, .int 0, false), (.eq, .arg 2, .int 8, false), (.eq, .arg 2, .int 16, true), (.eq, .arg 2, .int 0, false), (.ge, .arg 3, .int 0, false), (.gt, .int 6, .sub (.arg 49) (.int 6), true)]) = true := by decide +kernel
theorem lf_34_29 : xfin (xev 813 20 xlaw 18 xlo0 [] xh0 [(.gt, .int 0, .sub (.arg 49) (.int 6), false), (.lt, .int 0, .arg 49, true), (.eq, .op2 .iand (.arg 0) (.int 63), .int 34, true), (.lt, .int 1, .arg 49, true), (.eq, .arg 1, .int 2, true), (.lt, .int 2, .arg 49, true), (.lt, .int 3, .arg 49, true), (.eq, .arg 2, .int 0, false), (.eq, .arg 2, .int 8, false), (.eq, .arg 2, .int 16, false), (.eq, .arg 2, .int 32, true), (.eq, .arg 2, .int 0, false), (.ge, .arg 3, .int 0, true), (.eq, .arg 2, .int 0, false), (.le, .arg 3, .int 24, true), (.ne, .arg 2, .int 0, true), (.lt, .int 1, .arg 49, true), (.eq, .arg 1, .int 2, true), (.lt, .int 2, .arg 49, true), (.lt, .int 3, .arg 49, true), (.eq, .arg 2, .int 0, false), (.eq, .arg 2, .int 8, false), (.eq, .arg 2, .int 16, false), (.eq, .arg 2, .int 32, true), (.eq, .arg 2, .int 0, false), (.ge, .arg 3, .int 0, true), (.eq, .arg 2, .int 0, false), (.le, .arg 3, .int 24, true), (.ne, .arg 2, .int 0, true), (.gt, .int 6, .sub (.arg 49) (.int 6), true)]) = true := by decide +kernel
theorem lf_34_30 : xfin (xev 177 20 xlaw 18 xlo0 [] xh0 [(.gt, .int 0, .sub (.arg 49) (.int 6), false), (.lt, .int 0, .arg 49, true), (.eq, .op2 .iand (.arg 0) (.int 63), .int 34, true), (.lt, .int 1, .arg 49, true), (.eq, .arg 1, .int 2, true), (.lt, .int 2, .arg 49, true), (.lt, .int 3, .arg 49, true), (.eq, .arg 2, .int 0, false), (.eq, .arg 2, .int 8, false), (.eq, .arg 2, .int 16, false), (.eq, .arg 2, .int 32, true), (.eq, .arg 2, .int 0, false), (.ge, .arg 3, .int 0, true), (.eq, .arg 2, .int 0, false), (.le, .arg 3, .int 24, false), (.lt, .int 1, .arg 49, true), (.eq, .arg 1, .int 2, true), (.lt, .int 2, .arg 49, true), (.lt, .int 3, .arg 49, true), (.eq, .arg 2, .int 0, false), (.eq, .arg 2, .int 8, false), (.eq, .arg 2, .int 16, false), (.eq, .arg 2, .int 32, true), (.eq, .arg 2, .int 0, false), (.ge, .arg 3, .int 0, true), (.eq, .arg 2, .int 0, false), (.le, .arg 3, .int 24, false), (.gt, .int 6, .sub (.arg 49) (.int 6), true)]) = true := by decide +kernel
theorem lf_34_31 : xfin (xev 167 20 xlaw 18 xlo0 [] xh0 [(.gt, .int 0, .sub (.arg 49) (.int 6), false), (.lt, .int 0, .arg 49, true), (.eq, .op2 .iand (.arg 0) (.int 63), .int 34, true), (.lt, .int 1, .arg 49, true), (.eq, .arg 1, .int 2, true), (.lt, .int 2, .arg 49, true), (.lt, .int 3, .arg 49, true), (.eq, .arg 2, .int 0, false), (.eq, .arg 2, .int 8, false), (.eq, .arg 2, .int 16, false), (.eq, .arg 2, .int 32, true), (.eq, .arg 2, .int 0, false), (.ge, .arg 3, .int 0, false), (.lt, .int 1, .arg 49, true), (.eq, .arg 1, .int 2, true), (.lt, .int 2, .arg 49, true), (.lt, .int 3, .arg 49, true), (.eq, .arg 2, .int 0, false), (.eq, .arg 2, .int 8, false), (.eq, .arg 2, .int 16, false), (.eq, .arg 2, .int 32, true), (.eq, .arg 2, .int 0, false), (.ge, .arg 3, .int 0, false), (.gt, .int 6, .sub (.arg 49) (.int 6), true)]) = true := by decide +kernel
theorem lf_34_32 : xfin (xev 159 20 xlaw 18 xlo0 [] xh0 [(.gt, .int 0, .sub (.arg 49) (.int 6), false), (.lt, .int 0, .arg 49, true), (.eq, .op2 .iand (.arg 0) (.int 63), .int 34, true), (.lt, .int 1, .arg 49, true), (.eq, .arg 1, .int 2, true), (.lt, .int 2, .arg 49, true), (.lt, .int 3, .arg 49, true), (.eq, .arg 2, .int 0, false), (.eq, .arg 2, .int 8, false), (.eq, .arg 2, .int 16, false), (.eq, .arg 2, .int 32, false), (.lt, .int 1, .arg 49, true), (.eq, .arg 1, .int 2, true), (.lt, .int 2, .arg 49, true), (.lt, .int 3, .arg 49, true), (.eq, .arg 2, .int 0, false), (.eq, .arg 2, .int 8, false), (.eq, .arg 2, .int 16, false), (.eq, .arg 2, .int 32, false), (.gt, .int 6, .sub (.arg 49) (.int 6), true)]) = true := by decide +kernel
theorem lf_34_33 : xfin (xev 787 20 xlaw 18 xlo0 [] xh0 [(.gt, .int 0, .sub (.arg 49) (.int 6), false), (.lt, .int 0, .arg 49, true), (.eq, .op2 .iand (.arg 0) (.int 63), .int 34, true), (.lt, .int 1, .arg 49, true), (.eq, .arg 1, .int 3, true), (.lt, .int 2, .arg 49, true), (.lt, .int 3, .arg 49, true), (.eq, .arg 2, .int 0, true), (.eq, .arg 2, .int 0, true), (.eq, .arg 2, .int 0, true), (.ne, .arg 2, .int 0, false), (.lt, .int 1, .arg 49, true), (.eq, .arg 1, .int 3, true), (.lt, .int 2, .arg 49, true), (.lt, .int 3, .arg 49, true), (.eq, .arg 2, .int 0, true), (.eq, .arg 2, .int 0, true), (.eq, .arg 2, .int 0, true), (.ne, .arg 2, .int 0, false), (.gt, .int 6, .sub (.arg 49) (.int 6), true)]) = true := by decide +kernel
theorem lf_34_34 : xfin (xev 801 20 xlaw 18 xlo0 [] xh0 [(.gt, .int 0, .sub (.arg 49) (.int 6), false), (.lt, .int 0, .arg 49, true), (.eq, .op2 .iand (.arg 0) (.int 63), .int 34, true), (.lt, .int 1, .arg 49, true), (.eq, .arg 1, .int 3, true), (.lt, .int 2, .arg 49, true), (.lt, .int 3, .arg 49, true), (.eq, .arg 2, .int 0, false), (.eq, .arg 2, .int 8, true), (.eq, .arg 2, .int 0, false), (.ge, .arg 3, .int 0, true), (.eq, .arg 2, .int 0, false), (.le, .arg 3, .int 24, true), (.ne, .arg 2, .int 0, true), (.lt, .int 1, .arg 49, true), (.eq, .arg 1, .int 3, true), (.lt, .int 2, .arg 49, true), (.lt, .int 3, .arg 49, true), (.eq, .arg 2, .int 0, false), (.eq, .arg 2, .int 8, true), (.eq, .arg 2, .int 0, false), (.ge, .arg 3, .int 0, true), (.eq, .arg 2, .int 0, false), (.le, .arg 3, .int 24, true), (.ne, .arg 2, .int 0, true), (.gt, .int 6, .sub (.arg 49) (.int 6), true)]) = true := by decide +kernel
theorem lf_34_35 : xfin (xev 165 20 xlaw 18 xlo0 [] xh0 [(.gt, .int 0, .sub (.arg 49) (.int 6), false), (.lt, .int 0, .arg 49, true), (.eq, .op2 .iand (.arg 0) (.int 63), .int 34, true), (.lt, .int 1, .arg 49, true), (.eq, .arg 1, .int 3, true), (.lt, .int 2, .arg 49, true), (.lt, .int 3, .arg 49, true), (.eq, .arg 2, .int 0, false), (.eq, .arg 2, .int 8, true), (.eq, .arg 2, .int 0, false), (.ge, .arg 3, .int 0, true), (.eq, .arg 2, .int 0, false), (.le, .arg 3, .int 24, false), (.lt, .int 1, .arg 49, true), (.eq, .arg 1, .int 3, true), (.lt, .int 2, .arg 49, true), (.lt, .int 3, .arg 49, true), (.eq, .arg 2, .int 0, false), (.eq, .arg 2, .int 8, true), (.eq, .arg 2, .int 0, false), (.ge, .arg 3, .int 0, true), (.eq, .arg 2, .int 0, false), (.le, .arg 3, .int 24, false), (.gt, .int 6, .sub (.arg 49) (.int 6), true)]) = true := by decide +kernel
theorem lf_34_36 : xfin (xev 155 20 xlaw 18 xlo0 [] xh0 [(.gt, .int 0, .sub (.arg 49) (.int 6), false), (.lt, .int 0, .arg 49, true), (.eq, .op2 .iand (.arg 0) (.int 63), .int 34, true), (.lt, .int 1, .arg 49, true), (.eq, .arg 1, .int 3, true), (.lt, .int 2, .arg 49, true), (.lt, .int 3, .arg 49, true), (.eq, .arg 2, .int 0, false), (.eq, .arg 2, .int 8, true), (.eq, .arg 2, .int 0, false), (.ge, .arg 3, .int 0, false), (.lt, .int 1, .arg 49, true), (.eq, .arg 1, .int 3, true), (.lt, .int 2, .arg 49, true), (.lt, .int 3, .arg 49, true), (.eq, .arg 2, .int 0, false), (.eq, .arg 2, .int 8, true), (.eq, .arg 2, .int 0, false), (.ge, .arg 3, .int 0, false), (.gt, .int 6, .sub (.arg 49) (.int 6), true)]) = true := by decide +kernel
theorem lf_34_37 : xfin (xev 807 20 xlaw 18 xlo0 [] xh0 [(.gt, .int 0, .sub (.arg 49) (.int 6), false), (.lt, .int 0, .arg 49, true), (.eq, .op2 .iand (.arg 0) (.int 63), .int 34, true), (.lt, .int 1, .arg 49, true), (.eq, .arg 1, .int 3, true), (.lt, .int 2, .arg 49, true), (.lt, .int 3, .arg 49, true), (.eq, .arg 2, .int 0, false), (.eq, .arg 2, .int 8, false), (.eq, .arg 2, .int 16, true), (.eq, .arg 2, .int 0, false), (.ge, .arg 3, .int 0, true), (.eq, .arg 2, .int 0, false), (.le, .arg 3, .int 24, true), (.ne, .arg 2, .int 0, true), (.lt, .int 1, .arg 49, true), (.eq, .arg 1, .int 3, true), (.lt, .int 2, .arg 49, true), (.lt, .int 3, .arg 49, true), (.eq, .arg 2, .int 0, false), (.eq, .arg 2, .int 8, false), (.eq, .arg 2, .int 16, true), (.eq, .arg 2, .int 0, false), (.ge, .arg 3, .int 0, true), (.eq, .arg 2, .int 0, false), (.le, .arg 3, .int 24, true), (.ne, .arg 2, .int 0, true), (.gt, .int 6, .sub (.arg 49) (.int 6), true)]) = true := by decide +kernel
theorem lf_34_38 : xfin (xev 171 20 xlaw 18 xlo0 [] xh0 [(.gt, .int 0, .sub (.arg 49) (.int 6), false), (.lt, .int 0, .arg 49, true), (.eq, .op2 .iand (.arg 0) (.int 63), .int 34, true), (.lt, .int 1, .arg 49, true), (.eq, .arg 1, .int 3, true), (.lt, .int 2, .arg 49, true), (.lt, .int 3, .arg 49, true), (.eq, .arg 2, .int 0, false), (.eq, .arg 2, .int 8, false), (.eq, .arg 2, .int 16, true), (.eq, .arg 2, .int 0, false), (.ge, .arg 3, .int 0, true), (.eq, .arg 2, .int 0, false), (.le, .arg 3, .int 24, false), (.lt, .int 1, .arg 49, true), (.eq, .arg 1, .int 3, true), (.lt, .int 2, .arg 49, true), (.lt, .int 3, .arg 49, true), (.eq, .arg 2, .int 0, false), (.eq, .arg 2, .int 8, false), (.eq, .arg 2, .int 16, true), (.eq, .arg 2, .int 0, false), (.ge, .arg 3, .int 0, true), (.eq, .arg 2, .int 0, false), (.le, .arg 3, .int 24, false), (.gt, .int 6, .sub (.arg 49) (.int 6), true)]) = true := by decide +kernel
theorem lf_34_39 : xfin (xev 161 20 xlaw 18 xlo0 [] xh0 [(.gt, .int 0, .sub (.arg 49) (.int 6), false), (.lt, .int 0, .arg 49, true), (.eq, .op2 .iand (.arg 0) (.int 63), .int 34, true), (.lt, .int 1, .arg 49, true), (.eq, .arg 1, .int 3, true), (.lt, .int 2, .arg 49, true), (.lt, .int 3, .arg 49, true), (.eq, .arg 2, .int 0, false), (.eq, .arg 2, .int 8, false), (.eq, .arg 2, .int 16, true), (.eq, .arg 2, .int 0, false), (.ge, .arg 3, .int 0, false), (.lt, .int 1, .arg 49, true), (.eq, .arg 1, .int 3, true), (.lt, .int 2, .arg 49, true), (.lt, .int 3, .arg 49, true), (.eq, .arg 2, .int 0, false), (.eq, .arg 2, .int 8, false), (.eq, .arg 2, .int 16, true), (.eq, .arg 2, .int 0, false), (.ge, .arg 3, .int 0, false), (.gt, .int 6, .sub (.arg 49) (.int 6), true)]) = true := by decide +kernel
theorem lf_34_40 : xfin (xev 813 20 xlaw 18 xlo0 [] xh0 [(.gt, .int 0, .sub (.arg 49) (.int 6), false), (.lt, .int 0, .arg 49, true), (.eq, .op2 .iand (.arg 0) (.int 63), .int 34, true), (.lt, .int 1, .arg 49, true), (.eq, .arg 1, .int 3, true), (.lt, .int 2, .arg 49, true), (.lt, .int 3, .arg 49, true), (.eq, .arg 2, .int 0, false), (.eq, .arg 2, .int 8, false), (.eq, .arg 2, .int 16, false), (.eq, .arg 2, .int 32, true), (.eq, .arg 2, .int 0, false), (.ge, .arg 3, .int 0, true), (.eq, .arg 2, .int 0, false), (.le, .arg 3, .int 24, true), (.ne, .arg 2, .int 0, true), (.lt, .int 1, .arg 49, true), (.eq, .arg 1, .int 3, true), (.lt, .int 2, .arg 49, true), (.lt, .int 3, .arg 49, true), (.eq, .arg 2, .int 0, false), (.eq, .arg 2, .int 8, false), (.eq, .arg 2, .int 16, false), (.eq, .arg 2, .int 32, true), (.eq, .arg 2, .int 0, false), (.ge, .arg 3, .int 0, true), (.eq, .arg 2, .int 0, false), (.le, .arg 3, .int 24, true), (.ne, .arg 2, .int 0, true), (.gt, .int 6, .sub (.arg 49) (.int 6), true)]) = true := by decide +kernel
theorem lf_34_41 : xfin (xev 177 20 xlaw 18 xlo0 [] xh0 [(.gt, .int 0, .sub (.arg 49) (.int 6), false), (.lt, .int 0, .arg 49, true), (.eq, .op2 .iand (.arg 0) (.int 63), .int 34, true), (.lt, .int 1, .arg 49, true), (.eq, .arg 1, .int 3, true), (.lt, .int 2, .arg 49, true), (.lt, .int 3, .arg 49, true), (.eq, .arg 2, .int 0, false), (.eq, .arg 2, .int 8, false), (.eq, .arg 2, .int 16, false), (.eq, .arg 2, .int 32, true), (.eq, .arg 2, .int 0, false), (.ge, .arg 3, .int 0, true), (.eq, .arg 2, .int 0, false), (.le, .arg 3, .int 24, false), (.lt, .int 1, .arg 49, true), (.eq, .arg 1, .int 3, true), (.lt, .int 2, .arg 49, true), (.lt, .int 3, .arg 49, true), (.eq, .arg 2, .int 0, false), (.eq, .arg 2, .int 8, false), (.eq, .arg 2, .int 16, false), (.eq, .arg 2, .int 32, true), (.eq, .arg 2, .int 0, false), (.ge, .arg 3, .int 0, true), (.eq, .arg 2, .int 0, false), (.le, .arg 3, .int 24, false), (.gt, .int 6, .sub (.arg 49) (.int 6), true)]) = true := by decide +kernel
theorem lf_34_42 : xfin (xev 167 20 xlaw 18 xlo0 [] xh0 [(.gt, .int 0, .sub (.arg 49) (.int 6), false), (.lt, .int 0, .arg 49, true), (.eq, .op2 .iand (.arg 0) (.int 63), .int 34, true), (.lt, .int 1, .arg 49, true), (.eq, .arg 1, .int 3, true), (.lt, .int 2, .arg 49, true), (.lt, .int 3, .arg 49, true), (.eq, .arg 2, .int 0, false), (.eq, .arg 2, .int 8, false), (.eq, .arg 2, .int 16, false), (.eq, .arg 2, .int 32, true), (.eq, .arg 2, .int 0, false), (.ge, .arg 3, .int 0, false), (.lt, .int 1, .arg 49, true), (.eq, .arg 1, .int 3, true), (.lt, .int 2, .arg 49, true), (.lt, .int 3, .arg 49, true), (.eq, .arg 2, .int 0, false), (.eq, .arg 2, .int 8, false), (.eq, .arg 2, .int 16, false), (.eq, .arg 2, .int 32, true), (.eq, .arg 2, .int 0, false), (.ge, .arg 3, .int 0, false), (.gt, .int 6, .sub (.arg 49) (.int 6), true)]) = true := by decide +kernel
theorem lf_34_43 : xfin (xev 159 20 xlaw 18 xlo0 [] xh0 [(.gt, .int 0, .sub (.arg 49) (.int 6), false), (.lt, .int 0, .arg 49, true), (.eq, .op2 .iand (.arg 0) (.int 63), .int 34, true), (.lt, .int 1, .arg 49, true), (.eq, .arg 1, .int 3, true), (.lt, .int 2, .arg 49, true), (.lt, .int 3, .arg 49, true), (.eq, .arg 2, .int 0, false), (.eq, .arg 2, .int 8, false), (.eq, .arg 2, .int 16, false), (.eq, .arg 2, .int 32, false), (.lt, .int 1, .arg 49, true), (.eq, .arg 1, .int 3, true), (.lt, .int 2, .arg 49, true), (.lt, .int 3, .arg 49, true), (.eq, .arg 2, .int 0, false), (.eq, .arg 2, .int 8, false), (.eq, .arg 2, .int 16, false), (.eq, .arg 2, .int 32, false), (.gt, .int 6, .sub (.arg 49) (.int 6), true)]) = true := by decide +kernel
theorem lf_34_44 : xfin (xev 129 20 xlaw 18 xlo0 [] xh0 [(.gt, .int 0, .sub (.arg 49) (.int 6), false), (.lt, .int 0, .arg 49, true), (.eq, .op2 .iand (.arg 0) (.int 63), .int 34, true), (.lt, .int 1, .arg 49, true), (.lt, .int 2, .arg 49, true), (.lt, .int 3, .arg 49, true), (.lt, .arg 1, .int 0, true), (.lt, .int 1, .arg 49, true), (.lt, .int 2, .arg 49, true), (.lt, .int 3, .arg 49, true), (.lt, .arg 1, .int 0, true), (.gt, .int 6, .sub (.arg 49) (.int 6), true)]) = true := by decide +kernel
theorem lf_34_45 : xfin (xev 135 20 xlaw 18 xlo0 [] xh0 [(.gt, .int 0, .sub (.arg 49) (.int 6), false), (.lt, .int 0, .arg 49, true), (.eq, .op2 .iand (.arg 0) (.int 63), .int 34, true), (.lt, .int 1, .arg 49, true), (.lt, .int 2, .arg 49, true), (.lt, .int 3, .arg 49, true), (.lt, .arg 1, .int 0, false), (.ge, .arg 1, .int 4, true), (.lt, .int 1, .arg 49, true), (.lt, .int 2, .arg 49, true), (.lt, .int 3, .arg 49, true), (.lt, .arg 1, .int 0, false), (.gt, .arg 1, .int 3, true), (.gt, .int 6, .sub (.arg 49) (.int 6), true)]) = true := by decide +kernel
set_option maxHeartbeats 4000000 in
theorem cv_34 {r : Nat → Value} (h49 : XI r (.arg 49) = 6) (hs : XI r (.sub (.arg 49) (.int 6)) = 0) (hk : XI r (.op2 .iand (.arg 0) (.int 63)) = 34) : ∃ (f : Nat) (E : List xB), (∀ q ∈ E, xhold r q) ∧ xfin (xev f 20 xlaw 18 xlo0 [] xh0 E) = true := by
  have h0 : ¬ (XI r (.sub (.arg 49) (.int 6)) < (0 : Int)) := by omega
  have h1 : (0 : Int) < XI r (.arg 49) := by omega
  have b0 : xhid (-2147483648 ≤ XI r (.arg 0)) := XI_lo r (.arg 0)
  have d0 : xhid (XI r (.arg 0) < 2147483648) := XI_hi r (.arg 0)
  have b1 : xhid (-2147483648 ≤ XI r (.arg 1)) := XI_lo r (.arg 1)
  have d1 : xhid (XI r (.arg 1) < 2147483648) := XI_hi r (.arg 1)
  have b2 : xhid (-2147483648 ≤ XI r (.arg 2)) := XI_lo r (.arg 2)
  have d2 : xhid (XI r (.arg 2) < 2147483648) := XI_hi r (.arg 2)
  have b3 : xhid (-2147483648 ≤ XI r (.arg 3)) := XI_lo r (.arg 3)
  have d3 : xhid (XI r (.arg 3) < 2147483648) := XI_hi r (.arg 3)
  have b4 : xhid (-2147483648 ≤ XI r (.arg 4)) := XI_lo r (.arg 4)
  have d4 : xhid (XI r (.arg 4) < 2147483648) := XI_hi r (.arg 4)
  have b5 : xhid (-2147483648 ≤ XI r (.arg 5)) := XI_lo r (.arg 5)
  have d5 : xhid (XI r (.arg 5) < 2147483648) := XI_hi r (.arg 5)
  have c1 : xhid ((1 : Int) < XI r (.arg 49)) := ((by have z0 : ¬ (XI r (.sub (.arg 49) (.int 6)) < (0 : Int)) := h0; omega) : (1 : Int) < XI r (.arg 49))
  refine (Classical.em (XI r (.arg 1) = (0 : Int))).elim (fun (c2 : xhid (XI r (.arg 1) = (0 : Int))) => ?_) (fun (c2 : xhid (¬ (XI r (.arg 1) = (0 : Int)))) => ?_)
  ·
    have c3 : xhid ((2 : Int) < XI r (.arg 49)) := ((by have z0 : ¬ (XI r (.sub (.arg 49) (.int 6)) < (0 : Int)) := h0; omega) : (2 : Int) < XI r (.arg 49))
    have c4 : xhid ((3 : Int) < XI r (.arg 49)) := ((by have z0 : ¬ (XI r (.sub (.arg 49) (.int 6)) < (0 : Int)) := h0; omega) : (3 : Int) < XI r (.arg 49))
    refine (Classical.em (XI r (.arg 2) = (0 : Int))).elim (fun (c5 : xhid (XI r (.arg 2) = (0 : Int))) => ?_) (fun (c5 : xhid (¬ (XI r (.arg 2) = (0 : Int)))) => ?_)
    ·
      have c6 : xhid (XI r (.arg 2) = (0 : Int)) := ((by have z0 : XI r (.arg 2) = (0 : Int) := c5; have z1 : -2147483648 ≤ XI r (.arg 2) := b2; have z2 : XI r (.arg 2) < 2147483648 := d2; omega) : XI r (.arg 2) = (0 : Int))
      have c7 : xhid (XI r (.arg 2) = (0 : Int)) := ((by have z0 : XI r (.arg 2) = (0 : Int) := c6; have z1 : -2147483648 ≤ XI r (.arg 2) := b2; have z2 : XI r (.arg 2) < 2147483648 := d2; omega) : XI r (.arg 2) = (0 : Int))
      have c8 : xhid (¬ (¬ XI r (.arg 2) = (0 : Int))) := ((by have z0 : XI r (.arg 2) = (0 : Int) := c7; have z1 : -2147483648 ≤ XI r (.arg 2) := b2; have z2 : XI r (.arg 2) < 2147483648 := d2; omega) : ¬ (¬ XI r (.arg 2) = (0 : Int)))
      have c9 : xhid ((1 : Int) < XI r (.arg 49)) := ((by have z0 : (3 : Int) < XI r (.arg 49) := c4; omega) : (1 : Int) < XI r (.arg 49))
      have c10 : xhid ((2 : Int) < XI r (.arg 49)) := ((by have z0 : (3 : Int) < XI r (.arg 49) := c4; omega) : (2 : Int) < XI r (.arg 49))
      have c11 : xhid ((3 : Int) < XI r (.arg 49)) := ((by have z0 : (3 : Int) < XI r (.arg 49) := c4; omega) : (3 : Int) < XI r (.arg 49))
      have c12 : xhid (XI r (.arg 2) = (0 : Int)) := ((by have z0 : ¬ (¬ XI r (.arg 2) = (0 : Int)) := c8; have z1 : -2147483648 ≤ XI r (.arg 2) := b2; have z2 : XI r (.arg 2) < 2147483648 := d2; omega) : XI r (.arg 2) = (0 : Int))
      have c13 : xhid (XI r (.arg 2) = (0 : Int)) := ((by have z0 : XI r (.arg 2) = (0 : Int) := c12; have z1 : -2147483648 ≤ XI r (.arg 2) := b2; have z2 : XI r (.arg 2) < 2147483648 := d2; omega) : XI r (.arg 2) = (0 : Int))
      have c14 : xhid (XI r (.arg 2) = (0 : Int)) := ((by have z0 : XI r (.arg 2) = (0 : Int) := c13; have z1 : -2147483648 ≤ XI r (.arg 2) := b2; have z2 : XI r (.arg 2) < 2147483648 := d2; omega) : XI r (.arg 2) = (0 : Int))
      have c15 : xhid (¬ (¬ XI r (.arg 2) = (0 : Int))) := ((by have z0 : XI r (.arg 2) = (0 : Int) := c14; have z1 : -2147483648 ≤ XI r (.arg 2) := b2; have z2 : XI r (.arg 2) < 2147483648 := d2; omega) : ¬ (¬ XI r (.arg 2) = (0 : Int)))
      have c16 : xhid (XI r (.sub (.arg 49) (.int 6)) < (6 : Int)) := ((by omega) : XI r (.sub (.arg 49) (.int 6)) < (6 : Int))
      refine ⟨787, _, ?_, lf_34_0⟩
      refine xc_cons (xh_gt_F (XI_lit (by decide +kernel)) rfl h0) ?_
      refine xc_cons (xh_lt_T (XI_lit (by decide +kernel)) rfl h1) ?_
      refine xc_cons (xh_eq_T rfl (XI_lit (by decide +kernel)) hk) ?_
      refine xc_cons (xh_lt_T (XI_lit (by decide +kernel)) rfl c1) ?_
      refine xc_cons (xh_eq_T rfl (XI_lit (by decide +kernel)) c2) ?_
      refine xc_cons (xh_lt_T (XI_lit (by decide +kernel)) rfl c3) ?_
      refine xc_cons (xh_lt_T (XI_lit (by decide +kernel)) rfl c4) ?_
      refine xc_cons (xh_eq_T rfl (XI_lit (by decide +kernel)) c5) ?_
      refine xc_cons (xh_eq_T rfl (XI_lit (by decide +kernel)) c6) ?_
      refine xc_cons (xh_eq_T rfl (XI_lit (by decide +kernel)) c7) ?_
      refine xc_cons (xh_ne_F rfl (XI_lit (by decide +kernel)) c8) ?_
      refine xc_cons (xh_lt_T (XI_lit (by decide +kernel)) rfl c9) ?_
      refine xc_cons (xh_eq_T rfl (XI_lit (by decide +kernel)) c2) ?_
      refine xc_cons (xh_lt_T (XI_lit (by decide +kernel)) rfl c10) ?_
      refine xc_cons (xh_lt_T (XI_lit (by decide +kernel)) rfl c11) ?_
      refine xc_cons (xh_eq_T rfl (XI_lit (by decide +kernel)) c12) ?_
      refine xc_cons (xh_eq_T rfl (XI_lit (by decide +kernel)) c13) ?_
      refine xc_cons (xh_eq_T rfl (XI_lit (by decide +kernel)) c14) ?_
      refine xc_cons (xh_ne_F rfl (XI_lit (by decide +kernel)) c15) ?_
      refine xc_cons (xh_gt_T (XI_lit (by decide +kernel)) rfl c16) ?_
      exact xc_nil
    ·
      refine (Classical.em (XI r (.arg 2) = (8 : Int))).elim (fun (c17 : xhid (XI r (.arg 2) = (8 : Int))) => ?_) (fun (c17 : xhid (¬ (XI r (.arg 2) = (8 : Int)))) => ?_)
      ·
        have c18 : xhid (¬ (XI r (.arg 2) = (0 : Int))) := ((by have z0 : XI r (.arg 2) = (8 : Int) := c17; have z1 : -2147483648 ≤ XI r (.arg 2) := b2; have z2 : XI r (.arg 2) < 2147483648 := d2; omega) : ¬ (XI r (.arg 2) = (0 : Int)))
        refine (Classical.em ((0 : Int) ≤ XI r (.arg 3))).elim (fun (c19 : xhid ((0 : Int) ≤ XI r (.arg 3))) => ?_) (fun (c19 : xhid (¬ ((0 : Int) ≤ XI r (.arg 3)))) => ?_)
        ·
          have c20 : xhid (¬ (XI r (.arg 2) = (0 : Int))) := ((by have z0 : ¬ (XI r (.arg 2) = (0 : Int)) := c18; have z1 : -2147483648 ≤ XI r (.arg 2) := b2; have z2 : XI r (.arg 2) < 2147483648 := d2; omega) : ¬ (XI r (.arg 2) = (0 : Int)))
          refine (Classical.em (XI r (.arg 3) ≤ (24 : Int))).elim (fun (c21 : xhid (XI r (.arg 3) ≤ (24 : Int))) => ?_) (fun (c21 : xhid (¬ (XI r (.arg 3) ≤ (24 : Int)))) => ?_)
          ·
            have c22 : xhid (¬ XI r (.arg 2) = (0 : Int)) := ((by have z0 : ¬ (XI r (.arg 2) = (0 : Int)) := c20; have z1 : -2147483648 ≤ XI r (.arg 2) := b2; have z2 : XI r (.arg 2) < 2147483648 := d2; omega) : ¬ XI r (.arg 2) = (0 : Int))
            have c23 : xhid ((1 : Int) < XI r (.arg 49)) := ((by have z0 : (3 : Int) < XI r (.arg 49) := c4; omega) : (1 : Int) < XI r (.arg 49))
            have c24 : xhid ((2 : Int) < XI r (.arg 49)) := ((by have z0 : (3 : Int) < XI r (.arg 49) := c4; omega) : (2 : Int) < XI r (.arg 49))
            have c25 : xhid ((3 : Int) < XI r (.arg 49)) := ((by have z0 : (3 : Int) < XI r (.arg 49) := c4; omega) : (3 : Int) < XI r (.arg 49))
            have c26 : xhid (¬ (XI r (.arg 2) = (0 : Int))) := ((by have z0 : ¬ XI r (.arg 2) = (0 : Int) := c22; have z1 : -2147483648 ≤ XI r (.arg 2) := b2; have z2 : XI r (.arg 2) < 2147483648 := d2; omega) : ¬ (XI r (.arg 2) = (0 : Int)))
            have c27 : xhid (XI r (.arg 2) = (8 : Int)) := ((by have z0 : XI r (.arg 2) = (8 : Int) := c17; have z1 : -2147483648 ≤ XI r (.arg 2) := b2; have z2 : XI r (.arg 2) < 2147483648 := d2; omega) : XI r (.arg 2) = (8 : Int))
            have c28 : xhid (¬ (XI r (.arg 2) = (0 : Int))) := ((by have z0 : XI r (.arg 2) = (8 : Int) := c27; have z1 : -2147483648 ≤ XI r (.arg 2) := b2; have z2 : XI r (.arg 2) < 2147483648 := d2; omega) : ¬ (XI r (.arg 2) = (0 : Int)))
            have c29 : xhid ((0 : Int) ≤ XI r (.arg 3)) := ((by have z0 : (0 : Int) ≤ XI r (.arg 3) := c19; have z1 : -2147483648 ≤ XI r (.arg 3) := b3; have z2 : XI r (.arg 3) < 2147483648 := d3; omega) : (0 : Int) ≤ XI r (.arg 3))
            have c30 : xhid (¬ (XI r (.arg 2) = (0 : Int))) := ((by have z0 : ¬ (XI r (.arg 2) = (0 : Int)) := c28; have z1 : -2147483648 ≤ XI r (.arg 2) := b2; have z2 : XI r (.arg 2) < 2147483648 := d2; omega) : ¬ (XI r (.arg 2) = (0 : Int)))
            have c31 : xhid (XI r (.arg 3) ≤ (24 : Int)) := ((by have z0 : XI r (.arg 3) ≤ (24 : Int) := c21; have z1 : -2147483648 ≤ XI r (.arg 3) := b3; have z2 : XI r (.arg 3) < 2147483648 := d3; omega) : XI r (.arg 3) ≤ (24 : Int))
            have c32 : xhid (¬ XI r (.arg 2) = (0 : Int)) := ((by have z0 : ¬ (XI r (.arg 2) = (0 : Int)) := c30; have z1 : -2147483648 ≤ XI r (.arg 2) := b2; have z2 : XI r (.arg 2) < 2147483648 := d2; omega) : ¬ XI r (.arg 2) = (0 : Int))
            have c33 : xhid (XI r (.sub (.arg 49) (.int 6)) < (6 : Int)) := ((by omega) : XI r (.sub (.arg 49) (.int 6)) < (6 : Int))
            refine ⟨801, _, ?_, lf_34_1⟩
            refine xc_cons (xh_gt_F (XI_lit (by decide +kernel)) rfl h0) ?_
            refine xc_cons (xh_lt_T (XI_lit (by decide +kernel)) rfl h1) ?_
            refine xc_cons (xh_eq_T rfl (XI_lit (by decide +kernel)) hk) ?_
            refine xc_cons (xh_lt_T (XI_lit (by decide +kernel)) rfl c1) ?_
            refine xc_cons (xh_eq_T rfl (XI_lit (by decide +kernel)) c2) ?_
            refine xc_cons (xh_lt_T (XI_lit (by decide +kernel)) rfl c3) ?_
            refine xc_cons (xh_lt_T (XI_lit (by decide +kernel)) rfl c4) ?_
            refine xc_cons (xh_eq_F rfl (XI_lit (by decide +kernel)) c5) ?_
            refine xc_cons (xh_eq_T rfl (XI_lit (by decide +kernel)) c17) ?_
            refine xc_cons (xh_eq_F rfl (XI_lit (by decide +kernel)) c18) ?_
            refine xc_cons (xh_ge_T rfl (XI_lit (by decide +kernel)) c19) ?_
            refine xc_cons (xh_eq_F rfl (XI_lit (by decide +kernel)) c20) ?_
            refine xc_cons (xh_le_T rfl (XI_lit (by decide +kernel)) c21) ?_
            refine xc_cons (xh_ne_T rfl (XI_lit (by decide +kernel)) c22) ?_
            refine xc_cons (xh_lt_T (XI_lit (by decide +kernel)) rfl c23) ?_
            refine xc_cons (xh_eq_T rfl (XI_lit (by decide +kernel)) c2) ?_
            refine xc_cons (xh_lt_T (XI_lit (by decide +kernel)) rfl c24) ?_
            refine xc_cons (xh_lt_T (XI_lit (by decide +kernel)) rfl c25) ?_
            refine xc_cons (xh_eq_F rfl (XI_lit (by decide +kernel)) c26) ?_
            refine xc_cons (xh_eq_T rfl (XI_lit (by decide +kernel)) c27) ?_
            refine xc_cons (xh_eq_F rfl (XI_lit (by decide +kernel)) c28) ?_
            refine xc_cons (xh_ge_T rfl (XI_lit (by decide +kernel)) c29) ?_
            refine xc_cons (xh_eq_F rfl (XI_lit (by decide +kernel)) c30) ?_
            refine xc_cons (xh_le_T rfl (XI_lit (by decide +kernel)) c31) ?_
            refine xc_cons (xh_ne_T rfl (XI_lit (by decide +kernel)) c32) ?_
            refine xc_cons (xh_gt_T (XI_lit (by decide +kernel)) rfl c33) ?_
            exact xc_nil
          ·
            have c34 : xhid ((1 : Int) < XI r (.arg 49)) := ((by have z0 : (3 : Int) < XI r (.arg 49) := c4; omega) : (1 : Int) < XI r (.arg 49))
            have c35 : xhid ((2 : Int) < XI r (.arg 49)) := ((by have z0 : (3 : Int) < XI r (.arg 49) := c4; omega) : (2 : Int) < XI r (.arg 49))
            have c36 : xhid ((3 : Int) < XI r (.arg 49)) := ((by have z0 : (3 : Int) < XI r (.arg 49) := c4; omega) : (3 : Int) < XI r (.arg 49))
            have c37 : xhid (¬ (XI r (.arg 2) = (0 : Int))) := ((by have z0 : ¬ (XI r (.arg 2) = (0 : Int)) := c20; have z1 : -2147483648 ≤ XI r (.arg 2) := b2; have z2 : XI r (.arg 2) < 2147483648 := d2; omega) : ¬ (XI r (.arg 2) = (0 : Int)))
            have c38 : xhid (XI r (.arg 2) = (8 : Int)) := ((by have z0 : XI r (.arg 2) = (8 : Int) := c17; have z1 : -2147483648 ≤ XI r (.arg 2) := b2; have z2 : XI r (.arg 2) < 2147483648 := d2; omega) : XI r (.arg 2) = (8 : Int))
            have c39 : xhid (¬ (XI r (.arg 2) = (0 : Int))) := ((by have z0 : XI r (.arg 2) = (8 : Int) := c38; have z1 : -2147483648 ≤ XI r (.arg 2) := b2; have z2 : XI r (.arg 2) < 2147483648 := d2; omega) : ¬ (XI r (.arg 2) = (0 : Int)))
            have c40 : xhid ((0 : Int) ≤ XI r (.arg 3)) := ((by have z0 : ¬ (XI r (.arg 3) ≤ (24 : Int)) := c21; have z1 : -2147483648 ≤ XI r (.arg 3) := b3; have z2 : XI r (.arg 3) < 2147483648 := d3; omega) : (0 : Int) ≤ XI r (.arg 3))
            have c41 : xhid (¬ (XI r (.arg 2) = (0 : Int))) := ((by have z0 : ¬ (XI r (.arg 2) = (0 : Int)) := c39; have z1 : -2147483648 ≤ XI r (.arg 2) := b2; have z2 : XI r (.arg 2) < 2147483648 := d2; omega) : ¬ (XI r (.arg 2) = (0 : Int)))
            have c42 : xhid (¬ (XI r (.arg 3) ≤ (24 : Int))) := ((by have z0 : ¬ (XI r (.arg 3) ≤ (24 : Int)) := c21; have z1 : -2147483648 ≤ XI r (.arg 3) := b3; have z2 : XI r (.arg 3) < 2147483648 := d3; omega) : ¬ (XI r (.arg 3) ≤ (24 : Int)))
            have c43 : xhid (XI r (.sub (.arg 49) (.int 6)) < (6 : Int)) := ((by omega) : XI r (.sub (.arg 49) (.int 6)) < (6 : Int))
            refine ⟨165, _, ?_, lf_34_2⟩
            refine xc_cons (xh_gt_F (XI_lit (by decide +kernel)) rfl h0) ?_
            refine xc_cons (xh_lt_T (XI_lit (by decide +kernel)) rfl h1) ?_
            refine xc_cons (xh_eq_T rfl (XI_lit (by decide +kernel)) hk) ?_
            refine xc_cons (xh_lt_T (XI_lit (by decide +kernel)) rfl c1) ?_
            refine xc_cons (xh_eq_T rfl (XI_lit (by decide +kernel)) c2) ?_
            refine xc_cons (xh_lt_T (XI_lit (by decide +kernel)) rfl c3) ?_
            refine xc_cons (xh_lt_T (XI_lit (by decide +kernel)) rfl c4) ?_
            refine xc_cons (xh_eq_F rfl (XI_lit (by decide +kernel)) c5) ?_
            refine xc_cons (xh_eq_T rfl (XI_lit (by decide +kernel)) c17) ?_
            refine xc_cons (xh_eq_F rfl (XI_lit (by decide +kernel)) c18) ?_
            refine xc_cons (xh_ge_T rfl (XI_lit (by decide +kernel)) c19) ?_
            refine xc_cons (xh_eq_F rfl (XI_lit (by decide +kernel)) c20) ?_
            refine xc_cons (xh_le_F rfl (XI_lit (by decide +kernel)) c21) ?_
            refine xc_cons (xh_lt_T (XI_lit (by decide +kernel)) rfl c34) ?_
            refine xc_cons (xh_eq_T rfl (XI_lit (by decide +kernel)) c2) ?_
            refine xc_cons (xh_lt_T (XI_lit (by decide +kernel)) rfl c35) ?_
            refine xc_cons (xh_lt_T (XI_lit (by decide +kernel)) rfl c36) ?_
            refine xc_cons (xh_eq_F rfl (XI_lit (by decide +kernel)) c37) ?_
            refine xc_cons (xh_eq_T rfl (XI_lit (by decide +kernel)) c38) ?_
            refine xc_cons (xh_eq_F rfl (XI_lit (by decide +kernel)) c39) ?_
            refine xc_cons (xh_ge_T rfl (XI_lit (by decide +kernel)) c40) ?_
            refine xc_cons (xh_eq_F rfl (XI_lit (by decide +kernel)) c41) ?_
            refine xc_cons (xh_le_F rfl (XI_lit (by decide +kernel)) c42) ?_
            refine xc_cons (xh_gt_T (XI_lit (by decide +kernel)) rfl c43) ?_
            exact xc_nil
        ·
          have c44 : xhid ((1 : Int) < XI r (.arg 49)) := ((by have z0 : (3 : Int) < XI r (.arg 49) := c4; omega) : (1 : Int) < XI r (.arg 49))
          have c45 : xhid ((2 : Int) < XI r (.arg 49)) := ((by have z0 : (3 : Int) < XI r (.arg 49) := c4; omega) : (2 : Int) < XI r (.arg 49))
          have c46 : xhid ((3 : Int) < XI r (.arg 49)) := ((by have z0 : (3 : Int) < XI r (.arg 49) := c4; omega) : (3 : Int) < XI r (.arg 49))
          have c47 : xhid (¬ (XI r (.arg 2) = (0 : Int))) := ((by have z0 : ¬ (XI r (.arg 2) = (0 : Int)) := c18; have z1 : -2147483648 ≤ XI r (.arg 2) := b2; have z2 : XI r (.arg 2) < 2147483648 := d2; omega) : ¬ (XI r (.arg 2) = (0 : Int)))
          have c48 : xhid (XI r (.arg 2) = (8 : Int)) := ((by have z0 : XI r (.arg 2) = (8 : Int) := c17; have z1 : -2147483648 ≤ XI r (.arg 2) := b2; have z2 : XI r (.arg 2) < 2147483648 := d2; omega) : XI r (.arg 2) = (8 : Int))
          have c49 : xhid (¬ (XI r (.arg 2) = (0 : Int))) := ((by have z0 : XI r (.arg 2) = (8 : Int) := c48; have z1 : -2147483648 ≤ XI r (.arg 2) := b2; have z2 : XI r (.arg 2) < 2147483648 := d2; omega) : ¬ (XI r (.arg 2) = (0 : Int)))
          have c50 : xhid (¬ ((0 : Int) ≤ XI r (.arg 3))) := ((by have z0 : ¬ ((0 : Int) ≤ XI r (.arg 3)) := c19; have z1 : -2147483648 ≤ XI r (.arg 3) := b3; have z2 : XI r (.arg 3) < 2147483648 := d3; omega) : ¬ ((0 : Int) ≤ XI r (.arg 3)))
          have c51 : xhid (XI r (.sub (.arg 49) (.int 6)) < (6 : Int)) := ((by omega) : XI r (.sub (.arg 49) (.int 6)) < (6 : Int))
          refine ⟨155, _, ?_, lf_34_3⟩
          refine xc_cons (xh_gt_F (XI_lit (by decide +kernel)) rfl h0) ?_
          refine xc_cons (xh_lt_T (XI_lit (by decide +kernel)) rfl h1) ?_
          refine xc_cons (xh_eq_T rfl (XI_lit (by decide +kernel)) hk) ?_
          refine xc_cons (xh_lt_T (XI_lit (by decide +kernel)) rfl c1) ?_
          refine xc_cons (xh_eq_T rfl (XI_lit (by decide +kernel)) c2) ?_
          refine xc_cons (xh_lt_T (XI_lit (by decide +kernel)) rfl c3) ?_
          refine xc_cons (xh_lt_T (XI_lit (by decide +kernel)) rfl c4) ?_
          refine xc_cons (xh_eq_F rfl (XI_lit (by decide +kernel)) c5) ?_
          refine xc_cons (xh_eq_T rfl (XI_lit (by decide +kernel)) c17) ?_
          refine xc_cons (xh_eq_F rfl (XI_lit (by decide +kernel)) c18) ?_
          refine xc_cons (xh_ge_F rfl (XI_lit (by decide +kernel)) c19) ?_
          refine xc_cons (xh_lt_T (XI_lit (by decide +kernel)) rfl c44) ?_
          refine xc_cons (xh_eq_T rfl (XI_lit (by decide +kernel)) c2) ?_
          refine xc_cons (xh_lt_T (XI_lit (by decide +kernel)) rfl c45) ?_
          refine xc_cons (xh_lt_T (XI_lit (by decide +kernel)) rfl c46) ?_
          refine xc_cons (xh_eq_F rfl (XI_lit (by decide +kernel)) c47) ?_
          refine xc_cons (xh_eq_T rfl (XI_lit (by decide +kernel)) c48) ?_
          refine xc_cons (xh_eq_F rfl (XI_lit (by decide +kernel)) c49) ?_
          refine xc_cons (xh_ge_F rfl (XI_lit (by decide +kernel)) c50) ?_
          refine xc_cons (xh_gt_T (XI_lit (by decide +kernel)) rfl c51) ?_
          exact xc_nil
      ·
        refine (Classical.em (XI r (.arg 2) = (16 : Int))).elim (fun (c52 : xhid (XI r (.arg 2) = (16 : Int))) => ?_) (fun (c52 : xhid (¬ (XI r (.arg 2) = (16 : Int)))) => ?_)
        ·
          have c53 : xhid (¬ (XI r (.arg 2) = (0 : Int))) := ((by have z0 : XI r (.arg 2) = (16 : Int) := c52; have z1 : -2147483648 ≤ XI r (.arg 2) := b2; have z2 : XI r (.arg 2) < 2147483648 := d2; omega) : ¬ (XI r (.arg 2) = (0 : Int)))
          refine (Classical.em ((0 : Int) ≤ XI r (.arg 3))).elim (fun (c54 : xhid ((0 : Int) ≤ XI r (.arg 3))) => ?_) (fun (c54 : xhid (¬ ((0 : Int) ≤ XI r (.arg 3)))) => ?_)
          ·
            have c55 : xhid (¬ (XI r (.arg 2) = (0 : Int))) := ((by have z0 : ¬ (XI r (.arg 2) = (0 : Int)) := c53; have z1 : -2147483648 ≤ XI r (.arg 2) := b2; have z2 : XI r (.arg 2) < 2147483648 := d2; omega) : ¬ (XI r (.arg 2) = (0 : Int)))
            refine (Classical.em (XI r (.arg 3) ≤ (24 : Int))).elim (fun (c56 : xhid (XI r (.arg 3) ≤ (24 : Int))) => ?_) (fun (c56 : xhid (¬ (XI r (.arg 3) ≤ (24 : Int)))) => ?_)
            ·
              have c57 : xhid (¬ XI r (.arg 2) = (0 : Int)) := ((by have z0 : ¬ (XI r (.arg 2) = (0 : Int)) := c55; have z1 : -2147483648 ≤ XI r (.arg 2) := b2; have z2 : XI r (.arg 2) < 2147483648 := d2; omega) : ¬ XI r (.arg 2) = (0 : Int))
              have c58 : xhid ((1 : Int) < XI r (.arg 49)) := ((by have z0 : (3 : Int) < XI r (.arg 49) := c4; omega) : (1 : Int) < XI r (.arg 49))
              have c59 : xhid ((2 : Int) < XI r (.arg 49)) := ((by have z0 : (3 : Int) < XI r (.arg 49) := c4; omega) : (2 : Int) < XI r (.arg 49))
              have c60 : xhid ((3 : Int) < XI r (.arg 49)) := ((by have z0 : (3 : Int) < XI r (.arg 49) := c4; omega) : (3 : Int) < XI r (.arg 49))
              have c61 : xhid (¬ (XI r (.arg 2) = (0 : Int))) := ((by have z0 : ¬ XI r (.arg 2) = (0 : Int) := c57; have z1 : -2147483648 ≤ XI r (.arg 2) := b2; have z2 : XI r (.arg 2) < 2147483648 := d2; omega) : ¬ (XI r (.arg 2) = (0 : Int)))
              have c62 : xhid (¬ (XI r (.arg 2) = (8 : Int))) := ((by have z0 : XI r (.arg 2) = (16 : Int) := c52; have z1 : -2147483648 ≤ XI r (.arg 2) := b2; have z2 : XI r (.arg 2) < 2147483648 := d2; omega) : ¬ (XI r (.arg 2) = (8 : Int)))
              have c63 : xhid (XI r (.arg 2) = (16 : Int)) := ((by have z0 : XI r (.arg 2) = (16 : Int) := c52; have z1 : -2147483648 ≤ XI r (.arg 2) := b2; have z2 : XI r (.arg 2) < 2147483648 := d2; omega) : XI r (.arg 2) = (16 : Int))
              have c64 : xhid (¬ (XI r (.arg 2) = (0 : Int))) := ((by have z0 : XI r (.arg 2) = (16 : Int) := c63; have z1 : -2147483648 ≤ XI r (.arg 2) := b2; have z2 : XI r (.arg 2) < 2147483648 := d2; omega) : ¬ (XI r (.arg 2) = (0 : Int)))
              have c65 : xhid ((0 : Int) ≤ XI r (.arg 3)) := ((by have z0 : (0 : Int) ≤ XI r (.arg 3) := c54; have z1 : -2147483648 ≤ XI r (.arg 3) := b3; have z2 : XI r (.arg 3) < 2147483648 := d3; omega) : (0 : Int) ≤ XI r (.arg 3))
              have c66 : xhid (¬ (XI r (.arg 2) = (0 : Int))) := ((by have z0 : ¬ (XI r (.arg 2) = (0 : Int)) := c64; have z1 : -2147483648 ≤ XI r (.arg 2) := b2; have z2 : XI r (.arg 2) < 2147483648 := d2; omega) : ¬ (XI r (.arg 2) = (0 : Int)))
              have c67 : xhid (XI r (.arg 3) ≤ (24 : Int)) := ((by have z0 : XI r (.arg 3) ≤ (24 : Int) := c56; have z1 : -2147483648 ≤ XI r (.arg 3) := b3; have z2 : XI r (.arg 3) < 2147483648 := d3; omega) : XI r (.arg 3) ≤ (24 : Int))
              have c68 : xhid (¬ XI r (.arg 2) = (0 : Int)) := ((by have z0 : ¬ (XI r (.arg 2) = (0 : Int)) := c66; have z1 : -2147483648 ≤ XI r (.arg 2) := b2; have z2 : XI r (.arg 2) < 2147483648 := d2; omega) : ¬ XI r (.arg 2) = (0 : Int))
              have c69 : xhid (XI r (.sub (.arg 49) (.int 6)) < (6 : Int)) := ((by omega) : XI r (.sub (.arg 49) (.int 6)) < (6 : Int))
              refine ⟨807, _, ?_, lf_34_4⟩
              refine xc_cons (xh_gt_F (XI_lit (by decide +kernel)) rfl h0) ?_
              refine xc_cons (xh_lt_T (XI_lit (by decide +kernel)) rfl h1) ?_
              refine xc_cons (xh_eq_T rfl (XI_lit (by decide +kernel)) hk) ?_
              refine xc_cons (xh_lt_T (XI_lit (by decide +kernel)) rfl c1) ?_
              refine xc_cons (xh_eq_T rfl (XI_lit (by decide +kernel)) c2) ?_
              refine xc_cons (xh_lt_T (XI_lit (by decide +kernel)) rfl c3) ?_
              refine xc_cons (xh_lt_T (XI_lit (by decide +kernel)) rfl c4) ?_
              refine xc_cons (xh_eq_F rfl (XI_lit (by decide +kernel)) c5) ?_
              refine xc_cons (xh_eq_F rfl (XI_lit (by decide +kernel)) c17) ?_
              refine xc_cons (xh_eq_T rfl (XI_lit (by decide +kernel)) c52) ?_
              refine xc_cons (xh_eq_F rfl (XI_lit (by decide +kernel)) c53) ?_
              refine xc_cons (xh_ge_T rfl (XI_lit (by decide +kernel)) c54) ?_
              refine xc_cons (xh_eq_F rfl (XI_lit (by decide +kernel)) c55) ?_
              refine xc_cons (xh_le_T rfl (XI_lit (by decide +kernel)) c56) ?_
              refine xc_cons (xh_ne_T rfl (XI_lit (by decide +kernel)) c57) ?_
              refine xc_cons (xh_lt_T (XI_lit (by decide +kernel)) rfl c58) ?_
              refine xc_cons (xh_eq_T rfl (XI_lit (by decide +kernel)) c2) ?_
              refine xc_cons (xh_lt_T (XI_lit (by decide +kernel)) rfl c59) ?_
              refine xc_cons (xh_lt_T (XI_lit (by decide +kernel)) rfl c60) ?_
              refine xc_cons (xh_eq_F rfl (XI_lit (by decide +kernel)) c61) ?_
              refine xc_cons (xh_eq_F rfl (XI_lit (by decide +kernel)) c62) ?_
              refine xc_cons (xh_eq_T rfl (XI_lit (by decide +kernel)) c63) ?_
              refine xc_cons (xh_eq_F rfl (XI_lit (by decide +kernel)) c64) ?_
              refine xc_cons (xh_ge_T rfl (XI_lit (by decide +kernel)) c65) ?_
              refine xc_cons (xh_eq_F rfl (XI_lit (by decide +kernel)) c66) ?_
              refine xc_cons (xh_le_T rfl (XI_lit (by decide +kernel)) c67) ?_
              refine xc_cons (xh_ne_T rfl (XI_lit (by decide +kernel)) c68) ?_
              refine xc_cons (xh_gt_T (XI_lit (by decide +kernel)) rfl c69) ?_
              exact xc_nil
            ·
              have c70 : xhid ((1 : Int) < XI r (.arg 49)) := ((by have z0 : (3 : Int) < XI r (.arg 49) := c4; omega) : (1 : Int) < XI r (.arg 49))
              have c71 : xhid ((2 : Int) < XI r (.arg 49)) := ((by have z0 : (3 : Int) < XI r (.arg 49) := c4; omega) : (2 : Int) < XI r (.arg 49))
              have c72 : xhid ((3 : Int) < XI r (.arg 49)) := ((by have z0 : (3 : Int) < XI r (.arg 49) := c4; omega) : (3 : Int) < XI r (.arg 49))
              have c73 : xhid (¬ (XI r (.arg 2) = (0 : Int))) := ((by have z0 : ¬ (XI r (.arg 2) = (0 : Int)) := c55; have z1 : -2147483648 ≤ XI r (.arg 2) := b2; have z2 : XI r (.arg 2) < 2147483648 := d2; omega) : ¬ (XI r (.arg 2) = (0 : Int)))
              have c74 : xhid (¬ (XI r (.arg 2) = (8 : Int))) := ((by have z0 : XI r (.arg 2) = (16 : Int) := c52; have z1 : -2147483648 ≤ XI r (.arg 2) := b2; have z2 : XI r (.arg 2) < 2147483648 := d2; omega) : ¬ (XI r (.arg 2) = (8 : Int)))
              have c75 : xhid (XI r (.arg 2) = (16 : Int)) := ((by have z0 : XI r (.arg 2) = (16 : Int) := c52; have z1 : -2147483648 ≤ XI r (.arg 2) := b2; have z2 : XI r (.arg 2) < 2147483648 := d2; omega) : XI r (.arg 2) = (16 : Int))
              have c76 : xhid (¬ (XI r (.arg 2) = (0 : Int))) := ((by have z0 : XI r (.arg 2) = (16 : Int) := c75; have z1 : -2147483648 ≤ XI r (.arg 2) := b2; have z2 : XI r (.arg 2) < 2147483648 := d2; omega) : ¬ (XI r (.arg 2) = (0 : Int)))
              have c77 : xhid ((0 : Int) ≤ XI r (.arg 3)) := ((by have z0 : ¬ (XI r (.arg 3) ≤ (24 : Int)) := c56; have z1 : -2147483648 ≤ XI r (.arg 3) := b3; have z2 : XI r (.arg 3) < 2147483648 := d3; omega) : (0 : Int) ≤ XI r (.arg 3))
              have c78 : xhid (¬ (XI r (.arg 2) = (0 : Int))) := ((by have z0 : ¬ (XI r (.arg 2) = (0 : Int)) := c76; have z1 : -2147483648 ≤ XI r (.arg 2) := b2; have z2 : XI r (.arg 2) < 2147483648 := d2; omega) : ¬ (XI r (.arg 2) = (0 : Int)))
              have c79 : xhid (¬ (XI r (.arg 3) ≤ (24 : Int))) := ((by have z0 : ¬ (XI r (.arg 3) ≤ (24 : Int)) := c56; have z1 : -2147483648 ≤ XI r (.arg 3) := b3; have z2 : XI r (.arg 3) < 2147483648 := d3; omega) : ¬ (XI r (.arg 3) ≤ (24 : Int)))
              have c80 : xhid (XI r (.sub (.arg 49) (.int 6)) < (6 : Int)) := ((by omega) : XI r (.sub (.arg 49) (.int 6)) < (6 : Int))
              refine ⟨171, _, ?_, lf_34_5⟩
              refine xc_cons (xh_gt_F (XI_lit (by decide +kernel)) rfl h0) ?_
              refine xc_cons (xh_lt_T (XI_lit (by decide +kernel)) rfl h1) ?_
              refine xc_cons (xh_eq_T rfl (XI_lit (by decide +kernel)) hk) ?_
              refine xc_cons (xh_lt_T (XI_lit (by decide +kernel)) rfl c1) ?_
              refine xc_cons (xh_eq_T rfl (XI_lit (by decide +kernel)) c2) ?_
              refine xc_cons (xh_lt_T (XI_lit (by decide +kernel)) rfl c3) ?_
              refine xc_cons (xh_lt_T (XI_lit (by decide +kernel)) rfl c4) ?_
              refine xc_cons (xh_eq_F rfl (XI_lit (by decide +kernel)) c5) ?_
              refine xc_cons (xh_eq_F rfl (XI_lit (by decide +kernel)) c17) ?_
              refine xc_cons (xh_eq_T rfl (XI_lit (by decide +kernel)) c52) ?_
              refine xc_cons (xh_eq_F rfl (XI_lit (by decide +kernel)) c53) ?_
              refine xc_cons (xh_ge_T rfl (XI_lit (by decide +kernel)) c54) ?_
              refine xc_cons (xh_eq_F rfl (XI_lit (by decide +kernel)) c55) ?_
              refine xc_cons (xh_le_F rfl (XI_lit (by decide +kernel)) c56) ?_
              refine xc_cons (xh_lt_T (XI_lit (by decide +kernel)) rfl c70) ?_
              refine xc_cons (xh_eq_T rfl (XI_lit (by decide +kernel)) c2) ?_
              refine xc_cons (xh_lt_T (XI_lit (by decide +kernel)) rfl c71) ?_
              refine xc_cons (xh_lt_T (XI_lit (by decide +kernel)) rfl c72) ?_
              refine xc_cons (xh_eq_F rfl (XI_lit (by decide +kernel)) c73) ?_
              refine xc_cons (xh_eq_F rfl (XI_lit (by decide +kernel)) c74) ?_
              refine xc_cons (xh_eq_T rfl (XI_lit (by decide +kernel)) c75) ?_
              refine xc_cons (xh_eq_F rfl (XI_lit (by decide +kernel)) c76) ?_
              refine xc_cons (xh_ge_T rfl (XI_lit (by decide +kernel)) c77) ?_
              refine xc_cons (xh_eq_F rfl (XI_lit (by decide +kernel)) c78) ?_
              refine xc_cons (xh_le_F rfl (XI_lit (by decide +kernel)) c79) ?_
              refine xc_cons (xh_gt_T (XI_lit (by decide +kernel)) rfl c80) ?_
              exact xc_nil
          ·
            have c81 : xhid ((1 : Int) < XI r (.arg 49)) := ((by have z0 : (3 : Int) < XI r (.arg 49) := c4; omega) : (1 : Int) < XI r (.arg 49))
            have c82 : xhid ((2 : Int) < XI r (.arg 49)) := ((by have z0 : (3 : Int) < XI r (.arg 49) := c4; omega) : (2 : Int) < XI r (.arg 49))
            have c83 : xhid ((3 : Int) < XI r (.arg 49)) := ((by have z0 : (3 : Int) < XI r (.arg 49) := c4; omega) : (3 : Int) < XI r (.arg 49))
            have c84 : xhid (¬ (XI r (.arg 2) = (0 : Int))) := ((by have z0 : ¬ (XI r (.arg 2) = (0 : Int)) := c53; have z1 : -2147483648 ≤ XI r (.arg 2) := b2; have z2 : XI r (.arg 2) < 2147483648 := d2; omega) : ¬ (XI r (.arg 2) = (0 : Int)))
            have c85 : xhid (¬ (XI r (.arg 2) = (8 : Int))) := ((by have z0 : XI r (.arg 2) = (16 : Int) := c52; have z1 : -2147483648 ≤ XI r (.arg 2) := b2; have z2 : XI r (.arg 2) < 2147483648 := d2; omega) : ¬ (XI r (.arg 2) = (8 : Int)))
            have c86 : xhid (XI r (.arg 2) = (16 : Int)) := ((by have z0 : XI r (.arg 2) = (16 : Int) := c52; have z1 : -2147483648 ≤ XI r (.arg 2) := b2; have z2 : XI r (.arg 2) < 2147483648 := d2; omega) : XI r (.arg 2) = (16 : Int))
            have c87 : xhid (¬ (XI r (.arg 2) = (0 : Int))) := ((by have z0 : XI r (.arg 2) = (16 : Int) := c86; have z1 : -2147483648 ≤ XI r (.arg 2) := b2; have z2 : XI r (.arg 2) < 2147483648 := d2; omega) : ¬ (XI r (.arg 2) = (0 : Int)))
            have c88 : xhid (¬ ((0 : Int) ≤ XI r (.arg 3))) := ((by have z0 : ¬ ((0 : Int) ≤ XI r (.arg 3)) := c54; have z1 : -2147483648 ≤ XI r (.arg 3) := b3; have z2 : XI r (.arg 3) < 2147483648 := d3; omega) : ¬ ((0 : Int) ≤ XI r (.arg 3)))
            have c89 : xhid (XI r (.sub (.arg 49) (.int 6)) < (6 : Int)) := ((by omega) : XI r (.sub (.arg 49) (.int 6)) < (6 : Int))
            refine ⟨161, _, ?_, lf_34_6⟩
            refine xc_cons (xh_gt_F (XI_lit (by decide +kernel)) rfl h0) ?_
            refine xc_cons (xh_lt_T (XI_lit (by decide +kernel)) rfl h1) ?_
            refine xc_cons (xh_eq_T rfl (XI_lit (by decide +kernel)) hk) ?_
            refine xc_cons (xh_lt_T (XI_lit (by decide +kernel)) rfl c1) ?_
            refine xc_cons (xh_eq_T rfl (XI_lit (by decide +kernel)) c2) ?_
            refine xc_cons (xh_lt_T (XI_lit (by decide +kernel)) rfl c3) ?_
            refine xc_cons (xh_lt_T (XI_lit (by decide +kernel)) rfl c4) ?_
            refine xc_cons (xh_eq_F rfl (XI_lit (by decide +kernel)) c5) ?_
            refine xc_cons (xh_eq_F rfl (XI_lit (by decide +kernel)) c17) ?_
            refine xc_cons (xh_eq_T rfl (XI_lit (by decide +kernel)) c52) ?_
            refine xc_cons (xh_eq_F rfl (XI_lit (by decide +kernel)) c53) ?_
            refine xc_cons (xh_ge_F rfl (XI_lit (by decide +kernel)) c54) ?_
            refine xc_cons (xh_lt_T (XI_lit (by decide +kernel)) rfl c81) ?_
            refine xc_cons (xh_eq_T rfl (XI_lit (by decide +kernel)) c2) ?_
            refine xc_cons (xh_lt_T (XI_lit (by decide +kernel)) rfl c82) ?_
            refine xc_cons (xh_lt_T (XI_lit (by decide +kernel)) rfl c83) ?_
            refine xc_cons (xh_eq_F rfl (XI_lit (by decide +kernel)) c84) ?_
            refine xc_cons (xh_eq_F rfl (XI_lit (by decide +kernel)) c85) ?_
            refine xc_cons (xh_eq_T rfl (XI_lit (by decide +kernel)) c86) ?_
            refine xc_cons (xh_eq_F rfl (XI_lit (by decide +kernel)) c87) ?_
            refine xc_cons (xh_ge_F rfl (XI_lit (by decide +kernel)) c88) ?_
            refine xc_cons (xh_gt_T (XI_lit (by decide +kernel)) rfl c89) ?_
            exact xc_nil
        ·
          refine (Classical.em (XI r (.arg 2) = (32 : Int))).elim (fun (c90 : xhid (XI r (.arg 2) = (32 : Int))) => ?_) (fun (c90 : xhid (¬ (XI r (.arg 2) = (32 : Int)))) => ?_)
          ·
            have c91 : xhid (¬ (XI r (.arg 2) = (0 : Int))) := ((by have z0 : XI r (.arg 2) = (32 : Int) := c90; have z1 : -2147483648 ≤ XI r (.arg 2) := b2; have z2 : XI r (.arg 2) < 2147483648 := d2; omega) : ¬ (XI r (.arg 2) = (0 : Int)))
            refine (Classical.em ((0 : Int) ≤ XI r (.arg 3))).elim (fun (c92 : xhid ((0 : Int) ≤ XI r (.arg 3))) => ?_) (fun (c92 : xhid (¬ ((0 : Int) ≤ XI r (.arg 3)))) => ?_)
            ·
              have c93 : xhid (¬ (XI r (.arg 2) = (0 : Int))) := ((by have z0 : ¬ (XI r (.arg 2) = (0 : Int)) := c91; have z1 : -2147483648 ≤ XI r (.arg 2) := b2; have z2 : XI r (.arg 2) < 2147483648 := d2; omega) : ¬ (XI r (.arg 2) = (0 : Int)))
              refine (Classical.em (XI r (.arg 3) ≤ (24 : Int))).elim (fun (c94 : xhid (XI r (.arg 3) ≤ (24 : Int))) => ?_) (fun (c94 : xhid (¬ (XI r (.arg 3) ≤ (24 : Int)))) => ?_)
              ·
                have c95 : xhid (¬ XI r (.arg 2) = (0 : Int)) := ((by have z0 : ¬ (XI r (.arg 2) = (0 : Int)) := c93; have z1 : -2147483648 ≤ XI r (.arg 2) := b2; have z2 : XI r (.arg 2) < 2147483648 := d2; omega) : ¬ XI r (.arg 2) = (0 : Int))
                have c96 : xhid ((1 : Int) < XI r (.arg 49)) := ((by have z0 : (3 : Int) < XI r (.arg 49) := c4; omega) : (1 : Int) < XI r (.arg 49))
                have c97 : xhid ((2 : Int) < XI r (.arg 49)) := ((by have z0 : (3 : Int) < XI r (.arg 49) := c4; omega) : (2 : Int) < XI r (.arg 49))
                have c98 : xhid ((3 : Int) < XI r (.arg 49)) := ((by have z0 : (3 : Int) < XI r (.arg 49) := c4; omega) : (3 : Int) < XI r (.arg 49))
                have c99 : xhid (¬ (XI r (.arg 2) = (0 : Int))) := ((by have z0 : ¬ XI r (.arg 2) = (0 : Int) := c95; have z1 : -2147483648 ≤ XI r (.arg 2) := b2; have z2 : XI r (.arg 2) < 2147483648 := d2; omega) : ¬ (XI r (.arg 2) = (0 : Int)))
                have c100 : xhid (¬ (XI r (.arg 2) = (8 : Int))) := ((by have z0 : XI r (.arg 2) = (32 : Int) := c90; have z1 : -2147483648 ≤ XI r (.arg 2) := b2; have z2 : XI r (.arg 2) < 2147483648 := d2; omega) : ¬ (XI r (.arg 2) = (8 : Int)))
                have c101 : xhid (¬ (XI r (.arg 2) = (16 : Int))) := ((by have z0 : XI r (.arg 2) = (32 : Int) := c90; have z1 : -2147483648 ≤ XI r (.arg 2) := b2; have z2 : XI r (.arg 2) < 2147483648 := d2; omega) : ¬ (XI r (.arg 2) = (16 : Int)))
                have c102 : xhid (XI r (.arg 2) = (32 : Int)) := ((by have z0 : XI r (.arg 2) = (32 : Int) := c90; have z1 : -2147483648 ≤ XI r (.arg 2) := b2; have z2 : XI r (.arg 2) < 2147483648 := d2; omega) : XI r (.arg 2) = (32 : Int))
                have c103 : xhid (¬ (XI r (.arg 2) = (0 : Int))) := ((by have z0 : XI r (.arg 2) = (32 : Int) := c102; have z1 : -2147483648 ≤ XI r (.arg 2) := b2; have z2 : XI r (.arg 2) < 2147483648 := d2; omega) : ¬ (XI r (.arg 2) = (0 : Int)))
                have c104 : xhid ((0 : Int) ≤ XI r (.arg 3)) := ((by have z0 : (0 : Int) ≤ XI r (.arg 3) := c92; have z1 : -2147483648 ≤ XI r (.arg 3) := b3; have z2 : XI r (.arg 3) < 2147483648 := d3; omega) : (0 : Int) ≤ XI r (.arg 3))
                have c105 : xhid (¬ (XI r (.arg 2) = (0 : Int))) := ((by have z0 : ¬ (XI r (.arg 2) = (0 : Int)) := c103; have z1 : -2147483648 ≤ XI r (.arg 2) := b2; have z2 : XI r (.arg 2) < 2147483648 := d2; omega) : ¬ (XI r (.arg 2) = (0 : Int)))
                have c106 : xhid (XI r (.arg 3) ≤ (24 : Int)) := ((by have z0 : XI r (.arg 3) ≤ (24 : Int) := c94; have z1 : -2147483648 ≤ XI r (.arg 3) := b3; have z2 : XI r (.arg 3) < 2147483648 := d3; omega) : XI r (.arg 3) ≤ (24 : Int))
                have c107 : xhid (¬ XI r (.arg 2) = (0 : Int)) := ((by have z0 : ¬ (XI r (.arg 2) = (0 : Int)) := c105; have z1 : -2147483648 ≤ XI r (.arg 2) := b2; have z2 : XI r (.arg 2) < 2147483648 := d2; omega) : ¬ XI r (.arg 2) = (0 : Int))
                have c108 : xhid (XI r (.sub (.arg 49) (.int 6)) < (6 : Int)) := ((by omega) : XI r (.sub (.arg 49) (.int 6)) < (6 : Int))
                refine ⟨813, _, ?_, lf_34_7⟩
                refine xc_cons (xh_gt_F (XI_lit (by decide +kernel)) rfl h0) ?_
                refine xc_cons (xh_lt_T (XI_lit (by decide +kernel)) rfl h1) ?_
                refine xc_cons (xh_eq_T rfl (XI_lit (by decide +kernel)) hk) ?_
                refine xc_cons (xh_lt_T (XI_lit (by decide +kernel)) rfl c1) ?_
                refine xc_cons (xh_eq_T rfl (XI_lit (by decide +kernel)) c2) ?_
                refine xc_cons (xh_lt_T (XI_lit (by decide +kernel)) rfl c3) ?_
                refine xc_cons (xh_lt_T (XI_lit (by decide +kernel)) rfl c4) ?_
                refine xc_cons (xh_eq_F rfl (XI_lit (by decide +kernel)) c5) ?_
                refine xc_cons (xh_eq_F rfl (XI_lit (by decide +kernel)) c17) ?_
                refine xc_cons (xh_eq_F rfl (XI_lit (by decide +kernel)) c52) ?_
                refine xc_cons (xh_eq_T rfl (XI_lit (by decide +kernel)) c90) ?_
                refine xc_cons (xh_eq_F rfl (XI_lit (by decide +kernel)) c91) ?_
                refine xc_cons (xh_ge_T rfl (XI_lit (by decide +kernel)) c92) ?_
                refine xc_cons (xh_eq_F rfl (XI_lit (by decide +kernel)) c93) ?_
                refine xc_cons (xh_le_T rfl (XI_lit (by decide +kernel)) c94) ?_
                refine xc_cons (xh_ne_T rfl (XI_lit (by decide +kernel)) c95) ?_
                refine xc_cons (xh_lt_T (XI_lit (by decide +kernel)) rfl c96) ?_
                refine xc_cons (xh_eq_T rfl (XI_lit (by decide +kernel)) c2) ?_
                refine xc_cons (xh_lt_T (XI_lit (by decide +kernel)) rfl c97) ?_
                refine xc_cons (xh_lt_T (XI_lit (by decide +kernel)) rfl c98) ?_
                refine xc_cons (xh_eq_F rfl (XI_lit (by decide +kernel)) c99) ?_
                refine xc_cons (xh_eq_F rfl (XI_lit (by decide +kernel)) c100) ?_
                refine xc_cons (xh_eq_F rfl (XI_lit (by decide +kernel)) c101) ?_
                refine xc_cons (xh_eq_T rfl (XI_lit (by decide +kernel)) c102) ?_
                refine xc_cons (xh_eq_F rfl (XI_lit (by decide +kernel)) c103) ?_
                refine xc_cons (xh_ge_T rfl (XI_lit (by decide +kernel)) c104) ?_
                refine xc_cons (xh_eq_F rfl (XI_lit (by decide +kernel)) c105) ?_
                refine xc_cons (xh_le_T rfl (XI_lit (by decide +kernel)) c106) ?_
                refine xc_cons (xh_ne_T rfl (XI_lit (by decide +kernel)) c107) ?_
                refine xc_cons (xh_gt_T (XI_lit (by decide +kernel)) rfl c108) ?_
                exact xc_nil
              ·
                have c109 : xhid ((1 : Int) < XI r (.arg 49)) := ((by have z0 : (3 : Int) < XI r (.arg 49) := c4; omega) : (1 : Int) < XI r (.arg 49))
                have c110 : xhid ((2 : Int) < XI r (.arg 49)) := ((by have z0 : (3 : Int) < XI r (.arg 49) := c4; omega) : (2 : Int) < XI r (.arg 49))
                have c111 : xhid ((3 : Int) < XI r (.arg 49)) := ((by have z0 : (3 : Int) < XI r (.arg 49) := c4; omega) : (3 : Int) < XI r (.arg 49))
                have c112 : xhid (¬ (XI r (.arg 2) = (0 : Int))) := ((by have z0 : ¬ (XI r (.arg 2) = (0 : Int)) := c93; have z1 : -2147483648 ≤ XI r (.arg 2) := b2; have z2 : XI r (.arg 2) < 2147483648 := d2; omega) : ¬ (XI r (.arg 2) = (0 : Int)))
                have c113 : xhid (¬ (XI r (.arg 2) = (8 : Int))) := ((by have z0 : XI r (.arg 2) = (32 : Int) := c90; have z1 : -2147483648 ≤ XI r (.arg 2) := b2; have z2 : XI r (.arg 2) < 2147483648 := d2; omega) : ¬ (XI r (.arg 2) = (8 : Int)))
                have c114 : xhid (¬ (XI r (.arg 2) = (16 : Int))) := ((by have z0 : XI r (.arg 2) = (32 : Int) := c90; have z1 : -2147483648 ≤ XI r (.arg 2) := b2; have z2 : XI r (.arg 2) < 2147483648 := d2; omega) : ¬ (XI r (.arg 2) = (16 : Int)))
                have c115 : xhid (XI r (.arg 2) = (32 : Int)) := ((by have z0 : XI r (.arg 2) = (32 : Int) := c90; have z1 : -2147483648 ≤ XI r (.arg 2) := b2; have z2 : XI r (.arg 2) < 2147483648 := d2; omega) : XI r (.arg 2) = (32 : Int))
                have c116 : xhid (¬ (XI r (.arg 2) = (0 : Int))) := ((by have z0 : XI r (.arg 2) = (32 : Int) := c115; have z1 : -2147483648 ≤ XI r (.arg 2) := b2; have z2 : XI r (.arg 2) < 2147483648 := d2; omega) : ¬ (XI r (.arg 2) = (0 : Int)))
                have c117 : xhid ((0 : Int) ≤ XI r (.arg 3)) := ((by have z0 : ¬ (XI r (.arg 3) ≤ (24 : Int)) := c94; have z1 : -2147483648 ≤ XI r (.arg 3) := b3; have z2 : XI r (.arg 3) < 2147483648 := d3; omega) : (0 : Int) ≤ XI r (.arg 3))
                have c118 : xhid (¬ (XI r (.arg 2) = (0 : Int))) := ((by have z0 : ¬ (XI r (.arg 2) = (0 : Int)) := c116; have z1 : -2147483648 ≤ XI r (.arg 2) := b2; have z2 : XI r (.arg 2) < 2147483648 := d2; omega) : ¬ (XI r (.arg 2) = (0 : Int)))
                have c119 : xhid (¬ (XI r (.arg 3) ≤ (24 : Int))) := ((by have z0 : ¬ (XI r (.arg 3) ≤ (24 : Int)) := c94; have z1 : -2147483648 ≤ XI r (.arg 3) := b3; have z2 : XI r (.arg 3) < 2147483648 := d3; omega) : ¬ (XI r (.arg 3) ≤ (24 : Int)))
                have c120 : xhid (XI r (.sub (.arg 49) (.int 6)) < (6 : Int)) := ((by omega) : XI r (.sub (.arg 49) (.int 6)) < (6 : Int))
                refine ⟨177, _, ?_, lf_34_8⟩
                refine xc_cons (xh_gt_F (XI_lit (by decide +kernel)) rfl h0) ?_
                refine xc_cons (xh_lt_T (XI_lit (by decide +kernel)) rfl h1) ?_
                refine xc_cons (xh_eq_T rfl (XI_lit (by decide +kernel)) hk) ?_
                refine xc_cons (xh_lt_T (XI_lit (by decide +kernel)) rfl c1) ?_
                refine xc_cons (xh_eq_T rfl (XI_lit (by decide +kernel)) c2) ?_
                refine xc_cons (xh_lt_T (XI_lit (by decide +kernel)) rfl c3) ?_
                refine xc_cons (xh_lt_T (XI_lit (by decide +kernel)) rfl c4) ?_
                refine xc_cons (xh_eq_F rfl (XI_lit (by decide +kernel)) c5) ?_
                refine xc_cons (xh_eq_F rfl (XI_lit (by decide +kernel)) c17) ?_
                refine xc_cons (xh_eq_F rfl (XI_lit (by decide +kernel)) c52) ?_
                refine xc_cons (xh_eq_T rfl (XI_lit (by decide +kernel)) c90) ?_
                refine xc_cons (xh_eq_F rfl (XI_lit (by decide +kernel)) c91) ?_
                refine xc_cons (xh_ge_T rfl (XI_lit (by decide +kernel)) c92) ?_
                refine xc_cons (xh_eq_F rfl (XI_lit (by decide +kernel)) c93) ?_
                refine xc_cons (xh_le_F rfl (XI_lit (by decide +kernel)) c94) ?_
                refine xc_cons (xh_lt_T (XI_lit (by decide +kernel)) rfl c109) ?_
                refine xc_cons (xh_eq_T rfl (XI_lit (by decide +kernel)) c2) ?_
                refine xc_cons (xh_lt_T (XI_lit (by decide +kernel)) rfl c110) ?_
                refine xc_cons (xh_lt_T (XI_lit (by decide +kernel)) rfl c111) ?_
                refine xc_cons (xh_eq_F rfl (XI_lit (by decide +kernel)) c112) ?_
                refine xc_cons (xh_eq_F rfl (XI_lit (by decide +kernel)) c113) ?_
                refine xc_cons (xh_eq_F rfl (XI_lit (by decide +kernel)) c114) ?_
                refine xc_cons (xh_eq_T rfl (XI_lit (by decide +kernel)) c115) ?_
                refine xc_cons (xh_eq_F rfl (XI_lit (by decide +kernel)) c116) ?_
                refine xc_cons (xh_ge_T rfl (XI_lit (by decide +kernel)) c117) ?_
                refine xc_cons (xh_eq_F rfl (XI_lit (by decide +kernel)) c118) ?_
                refine xc_cons (xh_le_F rfl (XI_lit (by decide +kernel)) c119) ?_
                refine xc_cons (xh_gt_T (XI_lit (by decide +kernel)) rfl c120) ?_
                exact xc_nil
            ·
              have c121 : xhid ((1 : Int) < XI r (.arg 49)) := ((by have z0 : (3 : Int) < XI r (.arg 49) := c4; omega) : (1 : Int) < XI r (.arg 49))
              have c122 : xhid ((2 : Int) < XI r (.arg 49)) := ((by have z0 : (3 : Int) < XI r (.arg 49) := c4; omega) : (2 : Int) < XI r (.arg 49))
              have c123 : xhid ((3 : Int) < XI r (.arg 49)) := ((by have z0 : (3 : Int) < XI r (.arg 49) := c4; omega) : (3 : Int) < XI r (.arg 49))
              have c124 : xhid (¬ (XI r (.arg 2) = (0 : Int))) := ((by have z0 : ¬ (XI r (.arg 2) = (0 : Int)) := c91; have z1 : -2147483648 ≤ XI r (.arg 2) := b2; have z2 : XI r (.arg 2) < 2147483648 := d2; omega) : ¬ (XI r (.arg 2) = (0 : Int)))
              have c125 : xhid (¬ (XI r (.arg 2) = (8 : Int))) := ((by have z0 : XI r (.arg 2) = (32 : Int) := c90; have z1 : -2147483648 ≤ XI r (.arg 2) := b2; have z2 : XI r (.arg 2) < 2147483648 := d2; omega) : ¬ (XI r (.arg 2) = (8 : Int)))
              have c126 : xhid (¬ (XI r (.arg 2) = (16 : Int))) := ((by have z0 : XI r (.arg 2) = (32 : Int) := c90; have z1 : -2147483648 ≤ XI r (.arg 2) := b2; have z2 : XI r (.arg 2) < 2147483648 := d2; omega) : ¬ (XI r (.arg 2) = (16 : Int)))
              have c127 : xhid (XI r (.arg 2) = (32 : Int)) := ((by have z0 : XI r (.arg 2) = (32 : Int) := c90; have z1 : -2147483648 ≤ XI r (.arg 2) := b2; have z2 : XI r (.arg 2) < 2147483648 := d2; omega) : XI r (.arg 2) = (32 : Int))
              have c128 : xhid (¬ (XI r (.arg 2) = (0 : Int))) := ((by have z0 : XI r (.arg 2) = (32 : Int) := c127; have z1 : -2147483648 ≤ XI r (.arg 2) := b2; have z2 : XI r (.arg 2) < 2147483648 := d2; omega) : ¬ (XI r (.arg 2) = (0 : Int)))
              have c129 : xhid (¬ ((0 : Int) ≤ XI r (.arg 3))) := ((by have z0 : ¬ ((0 : Int) ≤ XI r (.arg 3)) := c92; have z1 : -2147483648 ≤ XI r (.arg 3) := b3; have z2 : XI r (.arg 3) < 2147483648 := d3; omega) : ¬ ((0 : Int) ≤ XI r (.arg 3)))
              have c130 : xhid (XI r (.sub (.arg 49) (.int 6)) < (6 : Int)) := ((by omega) : XI r (.sub (.arg 49) (.int 6)) < (6 : Int))
              refine ⟨167, _, ?_, lf_34_9⟩
              refine xc_cons (xh_gt_F (XI_lit (by decide +kernel)) rfl h0) ?_
              refine xc_cons (xh_lt_T (XI_lit (by decide +kernel)) rfl h1) ?_
              refine xc_cons (xh_eq_T rfl (XI_lit (by decide +kernel)) hk) ?_
              refine xc_cons (xh_lt_T (XI_lit (by decide +kernel)) rfl c1) ?_
              refine xc_cons (xh_eq_T rfl (XI_lit (by decide +kernel)) c2) ?_
              refine xc_cons (xh_lt_T (XI_lit (by decide +kernel)) rfl c3) ?_
              refine xc_cons (xh_lt_T (XI_lit (by decide +kernel)) rfl c4) ?_
              refine xc_cons (xh_eq_F rfl (XI_lit (by decide +kernel)) c5) ?_
              refine xc_cons (xh_eq_F rfl (XI_lit (by decide +kernel)) c17) ?_
              refine xc_cons (xh_eq_F rfl (XI_lit (by decide +kernel)) c52) ?_
              refine xc_cons (xh_eq_T rfl (XI_lit (by decide +kernel)) c90) ?_
              refine xc_cons (xh_eq_F rfl (XI_lit (by decide +kernel)) c91) ?_
              refine xc_cons (xh_ge_F rfl (XI_lit (by decide +kernel)) c92) ?_
              refine xc_cons (xh_lt_T (XI_lit (by decide +kernel)) rfl c121) ?_
              refine xc_cons (xh_eq_T rfl (XI_lit (by decide +kernel)) c2) ?_
              refine xc_cons (xh_lt_T (XI_lit (by decide +kernel)) rfl c122) ?_
              refine xc_cons (xh_lt_T (XI_lit (by decide +kernel)) rfl c123) ?_
              refine xc_cons (xh_eq_F rfl (XI_lit (by decide +kernel)) c124) ?_
              refine xc_cons (xh_eq_F rfl (XI_lit (by decide +kernel)) c125) ?_
              refine xc_cons (xh_eq_F rfl (XI_lit (by decide +kernel)) c126) ?_
              refine xc_cons (xh_eq_T rfl (XI_lit (by decide +kernel)) c127) ?_
              refine xc_cons (xh_eq_F rfl (XI_lit (by decide +kernel)) c128) ?_
              refine xc_cons (xh_ge_F rfl (XI_lit (by decide +kernel)) c129) ?_
              refine xc_cons (xh_gt_T (XI_lit (by decide +kernel)) rfl c130) ?_
              exact xc_nil
          ·
            have c131 : xhid ((1 : Int) < XI r (.arg 49)) := ((by have z0 : (3 : Int) < XI r (.arg 49) := c4; omega) : (1 : Int) < XI r (.arg 49))
            have c132 : xhid ((2 : Int) < XI r (.arg 49)) := ((by have z0 : (3 : Int) < XI r (.arg 49) := c4; omega) : (2 : Int) < XI r (.arg 49))
            have c133 : xhid ((3 : Int) < XI r (.arg 49)) := ((by have z0 : (3 : Int) < XI r (.arg 49) := c4; omega) : (3 : Int) < XI r (.arg 49))
            have c134 : xhid (¬ (XI r (.arg 2) = (0 : Int))) := ((by have z0 : ¬ (XI r (.arg 2) = (0 : Int)) := c5; have z1 : -2147483648 ≤ XI r (.arg 2) := b2; have z2 : XI r (.arg 2) < 2147483648 := d2; omega) : ¬ (XI r (.arg 2) = (0 : Int)))
            have c135 : xhid (¬ (XI r (.arg 2) = (8 : Int))) := ((by have z0 : ¬ (XI r (.arg 2) = (8 : Int)) := c17; have z1 : -2147483648 ≤ XI r (.arg 2) := b2; have z2 : XI r (.arg 2) < 2147483648 := d2; omega) : ¬ (XI r (.arg 2) = (8 : Int)))
            have c136 : xhid (¬ (XI r (.arg 2) = (16 : Int))) := ((by have z0 : ¬ (XI r (.arg 2) = (16 : Int)) := c52; have z1 : -2147483648 ≤ XI r (.arg 2) := b2; have z2 : XI r (.arg 2) < 2147483648 := d2; omega) : ¬ (XI r (.arg 2) = (16 : Int)))
            have c137 : xhid (¬ (XI r (.arg 2) = (32 : Int))) := ((by have z0 : ¬ (XI r (.arg 2) = (32 : Int)) := c90; have z1 : -2147483648 ≤ XI r (.arg 2) := b2; have z2 : XI r (.arg 2) < 2147483648 := d2; omega) : ¬ (XI r (.arg 2) = (32 : Int)))
            have c138 : xhid (XI r (.sub (.arg 49) (.int 6)) < (6 : Int)) := ((by omega) : XI r (.sub (.arg 49) (.int 6)) < (6 : Int))
            refine ⟨159, _, ?_, lf_34_10⟩
            refine xc_cons (xh_gt_F (XI_lit (by decide +kernel)) rfl h0) ?_
            refine xc_cons (xh_lt_T (XI_lit (by decide +kernel)) rfl h1) ?_
            refine xc_cons (xh_eq_T rfl (XI_lit (by decide +kernel)) hk) ?_
            refine xc_cons (xh_lt_T (XI_lit (by decide +kernel)) rfl c1) ?_
            refine xc_cons (xh_eq_T rfl (XI_lit (by decide +kernel)) c2) ?_
            refine xc_cons (xh_lt_T (XI_lit (by decide +kernel)) rfl c3) ?_
            refine xc_cons (xh_lt_T (XI_lit (by decide +kernel)) rfl c4) ?_
            refine xc_cons (xh_eq_F rfl (XI_lit (by decide +kernel)) c5) ?_
            refine xc_cons (xh_eq_F rfl (XI_lit (by decide +kernel)) c17) ?_
            refine xc_cons (xh_eq_F rfl (XI_lit (by decide +kernel)) c52) ?_
            refine xc_cons (xh_eq_F rfl (XI_lit (by decide +kernel)) c90) ?_
            refine xc_cons (xh_lt_T (XI_lit (by decide +kernel)) rfl c131) ?_
            refine xc_cons (xh_eq_T rfl (XI_lit (by decide +kernel)) c2) ?_
            refine xc_cons (xh_lt_T (XI_lit (by decide +kernel)) rfl c132) ?_
            refine xc_cons (xh_lt_T (XI_lit (by decide +kernel)) rfl c133) ?_
            refine xc_cons (xh_eq_F rfl (XI_lit (by decide +kernel)) c134) ?_
            refine xc_cons (xh_eq_F rfl (XI_lit (by decide +kernel)) c135) ?_
            refine xc_cons (xh_eq_F rfl (XI_lit (by decide +kernel)) c136) ?_
            refine xc_cons (xh_eq_F rfl (XI_lit (by decide +kernel)) c137) ?_
            refine xc_cons (xh_gt_T (XI_lit (by decide +kernel)) rfl c138) ?_
            exact xc_nil
  refine (Classical.em (XI r (.arg 1) = (1 : Int))).elim (fun (c139 : xhid (XI r (.arg 1) = (1 : Int))) => ?_) (fun (c139 : xhid (¬ (XI r (.arg 1) = (1 : Int)))) => ?_)
  ·
    have c140 : xhid ((2 : Int) < XI r (.arg 49)) := ((by have z0 : ¬ (XI r (.sub (.arg 49) (.int 6)) < (0 : Int)) := h0; omega) : (2 : Int) < XI r (.arg 49))
    have c141 : xhid ((3 : Int) < XI r (.arg 49)) := ((by have z0 : ¬ (XI r (.sub (.arg 49) (.int 6)) < (0 : Int)) := h0; omega) : (3 : Int) < XI r (.arg 49))
    refine (Classical.em (XI r (.arg 2) = (0 : Int))).elim (fun (c142 : xhid (XI r (.arg 2) = (0 : Int))) => ?_) (fun (c142 : xhid (¬ (XI r (.arg 2) = (0 : Int)))) => ?_)
    ·
      have c143 : xhid (XI r (.arg 2) = (0 : Int)) := ((by have z0 : XI r (.arg 2) = (0 : Int) := c142; have z1 : -2147483648 ≤ XI r (.arg 2) := b2; have z2 : XI r (.arg 2) < 2147483648 := d2; omega) : XI r (.arg 2) = (0 : Int))
      have c144 : xhid (XI r (.arg 2) = (0 : Int)) := ((by have z0 : XI r (.arg 2) = (0 : Int) := c143; have z1 : -2147483648 ≤ XI r (.arg 2) := b2; have z2 : XI r (.arg 2) < 2147483648 := d2; omega) : XI r (.arg 2) = (0 : Int))
      have c145 : xhid (¬ (¬ XI r (.arg 2) = (0 : Int))) := ((by have z0 : XI r (.arg 2) = (0 : Int) := c144; have z1 : -2147483648 ≤ XI r (.arg 2) := b2; have z2 : XI r (.arg 2) < 2147483648 := d2; omega) : ¬ (¬ XI r (.arg 2) = (0 : Int)))
      have c146 : xhid ((1 : Int) < XI r (.arg 49)) := ((by have z0 : (3 : Int) < XI r (.arg 49) := c141; omega) : (1 : Int) < XI r (.arg 49))
      have c147 : xhid ((2 : Int) < XI r (.arg 49)) := ((by have z0 : (3 : Int) < XI r (.arg 49) := c141; omega) : (2 : Int) < XI r (.arg 49))
      have c148 : xhid ((3 : Int) < XI r (.arg 49)) := ((by have z0 : (3 : Int) < XI r (.arg 49) := c141; omega) : (3 : Int) < XI r (.arg 49))
      have c149 : xhid (XI r (.arg 2) = (0 : Int)) := ((by have z0 : ¬ (¬ XI r (.arg 2) = (0 : Int)) := c145; have z1 : -2147483648 ≤ XI r (.arg 2) := b2; have z2 : XI r (.arg 2) < 2147483648 := d2; omega) : XI r (.arg 2) = (0 : Int))
      have c150 : xhid (XI r (.arg 2) = (0 : Int)) := ((by have z0 : XI r (.arg 2) = (0 : Int) := c149; have z1 : -2147483648 ≤ XI r (.arg 2) := b2; have z2 : XI r (.arg 2) < 2147483648 := d2; omega) : XI r (.arg 2) = (0 : Int))
      have c151 : xhid (XI r (.arg 2) = (0 : Int)) := ((by have z0 : XI r (.arg 2) = (0 : Int) := c150; have z1 : -2147483648 ≤ XI r (.arg 2) := b2; have z2 : XI r (.arg 2) < 2147483648 := d2; omega) : XI r (.arg 2) = (0 : Int))
      have c152 : xhid (¬ (¬ XI r (.arg 2) = (0 : Int))) := ((by have z0 : XI r (.arg 2) = (0 : Int) := c151; have z1 : -2147483648 ≤ XI r (.arg 2) := b2; have z2 : XI r (.arg 2) < 2147483648 := d2; omega) : ¬ (¬ XI r (.arg 2) = (0 : Int)))
      have c153 : xhid (XI r (.sub (.arg 49) (.int 6)) < (6 : Int)) := ((by omega) : XI r (.sub (.arg 49) (.int 6)) < (6 : Int))
      refine ⟨787, _, ?_, lf_34_11⟩
      refine xc_cons (xh_gt_F (XI_lit (by decide +kernel)) rfl h0) ?_
      refine xc_cons (xh_lt_T (XI_lit (by decide +kernel)) rfl h1) ?_
      refine xc_cons (xh_eq_T rfl (XI_lit (by decide +kernel)) hk) ?_
      refine xc_cons (xh_lt_T (XI_lit (by decide +kernel)) rfl c1) ?_
      refine xc_cons (xh_eq_T rfl (XI_lit (by decide +kernel)) c139) ?_
      refine xc_cons (xh_lt_T (XI_lit (by decide +kernel)) rfl c140) ?_
      refine xc_cons (xh_lt_T (XI_lit (by decide +kernel)) rfl c141) ?_
      refine xc_cons (xh_eq_T rfl (XI_lit (by decide +kernel)) c142) ?_
      refine xc_cons (xh_eq_T rfl (XI_lit (by decide +kernel)) c143) ?_
      refine xc_cons (xh_eq_T rfl (XI_lit (by decide +kernel)) c144) ?_
      refine xc_cons (xh_ne_F rfl (XI_lit (by decide +kernel)) c145) ?_
      refine xc_cons (xh_lt_T (XI_lit (by decide +kernel)) rfl c146) ?_
      refine xc_cons (xh_eq_T rfl (XI_lit (by decide +kernel)) c139) ?_
      refine xc_cons (xh_lt_T (XI_lit (by decide +kernel)) rfl c147) ?_
      refine xc_cons (xh_lt_T (XI_lit (by decide +kernel)) rfl c148) ?_
      refine xc_cons (xh_eq_T rfl (XI_lit (by decide +kernel)) c149) ?_
      refine xc_cons (xh_eq_T rfl (XI_lit (by decide +kernel)) c150) ?_
      refine xc_cons (xh_eq_T rfl (XI_lit (by decide +kernel)) c151) ?_
      refine xc_cons (xh_ne_F rfl (XI_lit (by decide +kernel)) c152) ?_
      refine xc_cons (xh_gt_T (XI_lit (by decide +kernel)) rfl c153) ?_
      exact xc_nil
    ·
      refine (Classical.em (XI r (.arg 2) = (8 : Int))).elim (fun (c154 : xhid (XI r (.arg 2) = (8 : Int))) => ?_) (fun (c154 : xhid (¬ (XI r (.arg 2) = (8 : Int)))) => ?_)
      ·
        have c155 : xhid (¬ (XI r (.arg 2) = (0 : Int))) := ((by have z0 : XI r (.arg 2) = (8 : Int) := c154; have z1 : -2147483648 ≤ XI r (.arg 2) := b2; have z2 : XI r (.arg 2) < 2147483648 := d2; omega) : ¬ (XI r (.arg 2) = (0 : Int)))
        refine (Classical.em ((0 : Int) ≤ XI r (.arg 3))).elim (fun (c156 : xhid ((0 : Int) ≤ XI r (.arg 3))) => ?_) (fun (c156 : xhid (¬ ((0 : Int) ≤ XI r (.arg 3)))) => ?_)
        ·
          have c157 : xhid (¬ (XI r (.arg 2) = (0 : Int))) := ((by have z0 : ¬ (XI r (.arg 2) = (0 : Int)) := c155; have z1 : -2147483648 ≤ XI r (.arg 2) := b2; have z2 : XI r (.arg 2) < 2147483648 := d2; omega) : ¬ (XI r (.arg 2) = (0 : Int)))
          refine (Classical.em (XI r (.arg 3) ≤ (24 : Int))).elim (fun (c158 : xhid (XI r (.arg 3) ≤ (24 : Int))) => ?_) (fun (c158 : xhid (¬ (XI r (.arg 3) ≤ (24 : Int)))) => ?_)
          ·
            have c159 : xhid (¬ XI r (.arg 2) = (0 : Int)) := ((by have z0 : ¬ (XI r (.arg 2) = (0 : Int)) := c157; have z1 : -2147483648 ≤ XI r (.arg 2) := b2; have z2 : XI r (.arg 2) < 2147483648 := d2; omega) : ¬ XI r (.arg 2) = (0 : Int))
            have c160 : xhid ((1 : Int) < XI r (.arg 49)) := ((by have z0 : (3 : Int) < XI r (.arg 49) := c141; omega) : (1 : Int) < XI r (.arg 49))
            have c161 : xhid ((2 : Int) < XI r (.arg 49)) := ((by have z0 : (3 : Int) < XI r (.arg 49) := c141; omega) : (2 : Int) < XI r (.arg 49))
            have c162 : xhid ((3 : Int) < XI r (.arg 49)) := ((by have z0 : (3 : Int) < XI r (.arg 49) := c141; omega) : (3 : Int) < XI r (.arg 49))
            have c163 : xhid (¬ (XI r (.arg 2) = (0 : Int))) := ((by have z0 : ¬ XI r (.arg 2) = (0 : Int) := c159; have z1 : -2147483648 ≤ XI r (.arg 2) := b2; have z2 : XI r (.arg 2) < 2147483648 := d2; omega) : ¬ (XI r (.arg 2) = (0 : Int)))
            have c164 : xhid (XI r (.arg 2) = (8 : Int)) := ((by have z0 : XI r (.arg 2) = (8 : Int) := c154; have z1 : -2147483648 ≤ XI r (.arg 2) := b2; have z2 : XI r (.arg 2) < 2147483648 := d2; omega) : XI r (.arg 2) = (8 : Int))
            have c165 : xhid (¬ (XI r (.arg 2) = (0 : Int))) := ((by have z0 : XI r (.arg 2) = (8 : Int) := c164; have z1 : -2147483648 ≤ XI r (.arg 2) := b2; have z2 : XI r (.arg 2) < 2147483648 := d2; omega) : ¬ (XI r (.arg 2) = (0 : Int)))
            have c166 : xhid ((0 : Int) ≤ XI r (.arg 3)) := ((by have z0 : (0 : Int) ≤ XI r (.arg 3) := c156; have z1 : -2147483648 ≤ XI r (.arg 3) := b3; have z2 : XI r (.arg 3) < 2147483648 := d3; omega) : (0 : Int) ≤ XI r (.arg 3))
            have c167 : xhid (¬ (XI r (.arg 2) = (0 : Int))) := ((by have z0 : ¬ (XI r (.arg 2) = (0 : Int)) := c165; have z1 : -2147483648 ≤ XI r (.arg 2) := b2; have z2 : XI r (.arg 2) < 2147483648 := d2; omega) : ¬ (XI r (.arg 2) = (0 : Int)))
            have c168 : xhid (XI r (.arg 3) ≤ (24 : Int)) := ((by have z0 : XI r (.arg 3) ≤ (24 : Int) := c158; have z1 : -2147483648 ≤ XI r (.arg 3) := b3; have z2 : XI r (.arg 3) < 2147483648 := d3; omega) : XI r (.arg 3) ≤ (24 : Int))
            have c169 : xhid (¬ XI r (.arg 2) = (0 : Int)) := ((by have z0 : ¬ (XI r (.arg 2) = (0 : Int)) := c167; have z1 : -2147483648 ≤ XI r (.arg 2) := b2; have z2 : XI r (.arg 2) < 2147483648 := d2; omega) : ¬ XI r (.arg 2) = (0 : Int))
            have c170 : xhid (XI r (.sub (.arg 49) (.int 6)) < (6 : Int)) := ((by omega) : XI r (.sub (.arg 49) (.int 6)) < (6 : Int))
            refine ⟨801, _, ?_, lf_34_12⟩
            refine xc_cons (xh_gt_F (XI_lit (by decide +kernel)) rfl h0) ?_
            refine xc_cons (xh_lt_T (XI_lit (by decide +kernel)) rfl h1) ?_
            refine xc_cons (xh_eq_T rfl (XI_lit (by decide +kernel)) hk) ?_
            refine xc_cons (xh_lt_T (XI_lit (by decide +kernel)) rfl c1) ?_
            refine xc_cons (xh_eq_T rfl (XI_lit (by decide +kernel)) c139) ?_
            refine xc_cons (xh_lt_T (XI_lit (by decide +kernel)) rfl c140) ?_
            refine xc_cons (xh_lt_T (XI_lit (by decide +kernel)) rfl c141) ?_
            refine xc_cons (xh_eq_F rfl (XI_lit (by decide +kernel)) c142) ?_
            refine xc_cons (xh_eq_T rfl (XI_lit (by decide +kernel)) c154) ?_
            refine xc_cons (xh_eq_F rfl (XI_lit (by decide +kernel)) c155) ?_
            refine xc_cons (xh_ge_T rfl (XI_lit (by decide +kernel)) c156) ?_
            refine xc_cons (xh_eq_F rfl (XI_lit (by decide +kernel)) c157) ?_
            refine xc_cons (xh_le_T rfl (XI_lit (by decide +kernel)) c158) ?_
            refine xc_cons (xh_ne_T rfl (XI_lit (by decide +kernel)) c159) ?_
            refine xc_cons (xh_lt_T (XI_lit (by decide +kernel)) rfl c160) ?_
            refine xc_cons (xh_eq_T rfl (XI_lit (by decide +kernel)) c139) ?_
            refine xc_cons (xh_lt_T (XI_lit (by decide +kernel)) rfl c161) ?_
            refine xc_cons (xh_lt_T (XI_lit (by decide +kernel)) rfl c162) ?_
            refine xc_cons (xh_eq_F rfl (XI_lit (by decide +kernel)) c163) ?_
            refine xc_cons (xh_eq_T rfl (XI_lit (by decide +kernel)) c164) ?_
            refine xc_cons (xh_eq_F rfl (XI_lit (by decide +kernel)) c165) ?_
            refine xc_cons (xh_ge_T rfl (XI_lit (by decide +kernel)) c166) ?_
            refine xc_cons (xh_eq_F rfl (XI_lit (by decide +kernel)) c167) ?_
            refine xc_cons (xh_le_T rfl (XI_lit (by decide +kernel)) c168) ?_
            refine xc_cons (xh_ne_T rfl (XI_lit (by decide +kernel)) c169) ?_
            refine xc_cons (xh_gt_T (XI_lit (by decide +kernel)) rfl c170) ?_
            exact xc_nil
          ·
            have c171 : xhid ((1 : Int) < XI r (.arg 49)) := ((by have z0 : (3 : Int) < XI r (.arg 49) := c141; omega) : (1 : Int) < XI r (.arg 49))
            have c172 : xhid ((2 : Int) < XI r (.arg 49)) := ((by have z0 : (3 : Int) < XI r (.arg 49) := c141; omega) : (2 : Int) < XI r (.arg 49))
            have c173 : xhid ((3 : Int) < XI r (.arg 49)) := ((by have z0 : (3 : Int) < XI r (.arg 49) := c141; omega) : (3 : Int) < XI r (.arg 49))
            have c174 : xhid (¬ (XI r (.arg 2) = (0 : Int))) := ((by have z0 : ¬ (XI r (.arg 2) = (0 : Int)) := c157; have z1 : -2147483648 ≤ XI r (.arg 2) := b2; have z2 : XI r (.arg 2) < 2147483648 := d2; omega) : ¬ (XI r (.arg 2) = (0 : Int)))
            have c175 : xhid (XI r (.arg 2) = (8 : Int)) := ((by have z0 : XI r (.arg 2) = (8 : Int) := c154; have z1 : -2147483648 ≤ XI r (.arg 2) := b2; have z2 : XI r (.arg 2) < 2147483648 := d2; omega) : XI r (.arg 2) = (8 : Int))
            have c176 : xhid (¬ (XI r (.arg 2) = (0 : Int))) := ((by have z0 : XI r (.arg 2) = (8 : Int) := c175; have z1 : -2147483648 ≤ XI r (.arg 2) := b2; have z2 : XI r (.arg 2) < 2147483648 := d2; omega) : ¬ (XI r (.arg 2) = (0 : Int)))
            have c177 : xhid ((0 : Int) ≤ XI r (.arg 3)) := ((by have z0 : ¬ (XI r (.arg 3) ≤ (24 : Int)) := c158; have z1 : -2147483648 ≤ XI r (.arg 3) := b3; have z2 : XI r (.arg 3) < 2147483648 := d3; omega) : (0 : Int) ≤ XI r (.arg 3))
            have c178 : xhid (¬ (XI r (.arg 2) = (0 : Int))) := ((by have z0 : ¬ (XI r (.arg 2) = (0 : Int)) := c176; have z1 : -2147483648 ≤ XI r (.arg 2) := b2; have z2 : XI r (.arg 2) < 2147483648 := d2; omega) : ¬ (XI r (.arg 2) = (0 : Int)))
            have c179 : xhid (¬ (XI r (.arg 3) ≤ (24 : Int))) := ((by have z0 : ¬ (XI r (.arg 3) ≤ (24 : Int)) := c158; have z1 : -2147483648 ≤ XI r (.arg 3) := b3; have z2 : XI r (.arg 3) < 2147483648 := d3; omega) : ¬ (XI r (.arg 3) ≤ (24 : Int)))
            have c180 : xhid (XI r (.sub (.arg 49) (.int 6)) < (6 : Int)) := ((by omega) : XI r (.sub (.arg 49) (.int 6)) < (6 : Int))
            refine ⟨165, _, ?_, lf_34_13⟩
            refine xc_cons (xh_gt_F (XI_lit (by decide +kernel)) rfl h0) ?_
            refine xc_cons (xh_lt_T (XI_lit (by decide +kernel)) rfl h1) ?_
            refine xc_cons (xh_eq_T rfl (XI_lit (by decide +kernel)) hk) ?_
            refine xc_cons (xh_lt_T (XI_lit (by decide +kernel)) rfl c1) ?_
            refine xc_cons (xh_eq_T rfl (XI_lit (by decide +kernel)) c139) ?_
            refine xc_cons (xh_lt_T (XI_lit (by decide +kernel)) rfl c140) ?_
            refine xc_cons (xh_lt_T (XI_lit (by decide +kernel)) rfl c141) ?_
            refine xc_cons (xh_eq_F rfl (XI_lit (by decide +kernel)) c142) ?_
            refine xc_cons (xh_eq_T rfl (XI_lit (by decide +kernel)) c154) ?_
            refine xc_cons (xh_eq_F rfl (XI_lit (by decide +kernel)) c155) ?_
            refine xc_cons (xh_ge_T rfl (XI_lit (by decide +kernel)) c156) ?_
            refine xc_cons (xh_eq_F rfl (XI_lit (by decide +kernel)) c157) ?_
            refine xc_cons (xh_le_F rfl (XI_lit (by decide +kernel)) c158) ?_
            refine xc_cons (xh_lt_T (XI_lit (by decide +kernel)) rfl c171) ?_
            refine xc_cons (xh_eq_T rfl (XI_lit (by decide +kernel)) c139) ?_
            refine xc_cons (xh_lt_T (XI_lit (by decide +kernel)) rfl c172) ?_
            refine xc_cons (xh_lt_T (XI_lit (by decide +kernel)) rfl c173) ?_
            refine xc_cons (xh_eq_F rfl (XI_lit (by decide +kernel)) c174) ?_
            refine xc_cons (xh_eq_T rfl (XI_lit (by decide +kernel)) c175) ?_
            refine xc_cons (xh_eq_F rfl (XI_lit (by decide +kernel)) c176) ?_
            refine xc_cons (xh_ge_T rfl (XI_lit (by decide +kernel)) c177) ?_
            refine xc_cons (xh_eq_F rfl (XI_lit (by decide +kernel)) c178) ?_
            refine xc_cons (xh_le_F rfl (XI_lit (by decide +kernel)) c179) ?_
            refine xc_cons (xh_gt_T (XI_lit (by decide +kernel)) rfl c180) ?_
            exact xc_nil
        ·
          have c181 : xhid ((1 : Int) < XI r (.arg 49)) := ((by have z0 : (3 : Int) < XI r (.arg 49) := c141; omega) : (1 : Int) < XI r (.arg 49))
          have c182 : xhid ((2 : Int) < XI r (.arg 49)) := ((by have z0 : (3 : Int) < XI r (.arg 49) := c141; omega) : (2 : Int) < XI r (.arg 49))
          have c183 : xhid ((3 : Int) < XI r (.arg 49)) := ((by have z0 : (3 : Int) < XI r (.arg 49) := c141; omega) : (3 : Int) < XI r (.arg 49))
          have c184 : xhid (¬ (XI r (.arg 2) = (0 : Int))) := ((by have z0 : ¬ (XI r (.arg 2) = (0 : Int)) := c155; have z1 : -2147483648 ≤ XI r (.arg 2) := b2; have z2 : XI r (.arg 2) < 2147483648 := d2; omega) : ¬ (XI r (.arg 2) = (0 : Int)))
          have c185 : xhid (XI r (.arg 2) = (8 : Int)) := ((by have z0 : XI r (.arg 2) = (8 : Int) := c154; have z1 : -2147483648 ≤ XI r (.arg 2) := b2; have z2 : XI r (.arg 2) < 2147483648 := d2; omega) : XI r (.arg 2) = (8 : Int))
          have c186 : xhid (¬ (XI r (.arg 2) = (0 : Int))) := ((by have z0 : XI r (.arg 2) = (8 : Int) := c185; have z1 : -2147483648 ≤ XI r (.arg 2) := b2; have z2 : XI r (.arg 2) < 2147483648 := d2; omega) : ¬ (XI r (.arg 2) = (0 : Int)))
          have c187 : xhid (¬ ((0 : Int) ≤ XI r (.arg 3))) := ((by have z0 : ¬ ((0 : Int) ≤ XI r (.arg 3)) := c156; have z1 : -2147483648 ≤ XI r (.arg 3) := b3; have z2 : XI r (.arg 3) < 2147483648 := d3; omega) : ¬ ((0 : Int) ≤ XI r (.arg 3)))
          have c188 : xhid (XI r (.sub (.arg 49) (.int 6)) < (6 : Int)) := ((by omega) : XI r (.sub (.arg 49) (.int 6)) < (6 : Int))
          refine ⟨155, _, ?_, lf_34_14⟩
          refine xc_cons (xh_gt_F (XI_lit (by decide +kernel)) rfl h0) ?_
          refine xc_cons (xh_lt_T (XI_lit (by decide +kernel)) rfl h1) ?_
          refine xc_cons (xh_eq_T rfl (XI_lit (by decide +kernel)) hk) ?_
          refine xc_cons (xh_lt_T (XI_lit (by decide +kernel)) rfl c1) ?_
          refine xc_cons (xh_eq_T rfl (XI_lit (by decide +kernel)) c139) ?_
          refine xc_cons (xh_lt_T (XI_lit (by decide +kernel)) rfl c140) ?_
          refine xc_cons (xh_lt_T (XI_lit (by decide +kernel)) rfl c141) ?_
          refine xc_cons (xh_eq_F rfl (XI_lit (by decide +kernel)) c142) ?_
          refine xc_cons (xh_eq_T rfl (XI_lit (by decide +kernel)) c154) ?_
          refine xc_cons (xh_eq_F rfl (XI_lit (by decide +kernel)) c155) ?_
          refine xc_cons (xh_ge_F rfl (XI_lit (by decide +kernel)) c156) ?_
          refine xc_cons (xh_lt_T (XI_lit (by decide +kernel)) rfl c181) ?_
          refine xc_cons (xh_eq_T rfl (XI_lit (by decide +kernel)) c139) ?_
          refine xc_cons (xh_lt_T (XI_lit (by decide +kernel)) rfl c182) ?_
          refine xc_cons (xh_lt_T (XI_lit (by decide +kernel)) rfl c183) ?_
          refine xc_cons (xh_eq_F rfl (XI_lit (by decide +kernel)) c184) ?_
          refine xc_cons (xh_eq_T rfl (XI_lit (by decide +kernel)) c185) ?_
          refine xc_cons (xh_eq_F rfl (XI_lit (by decide +kernel)) c186) ?_
          refine xc_cons (xh_ge_F rfl (XI_lit (by decide +kernel)) c187) ?_
          refine xc_cons (xh_gt_T (XI_lit (by decide +kernel)) rfl c188) ?_
          exact xc_nil
      ·
        refine (Classical.em (XI r (.arg 2) = (16 : Int))).elim (fun (c189 : xhid (XI r (.arg 2) = (16 : Int))) => ?_) (fun (c189 : xhid (¬ (XI r (.arg 2) = (16 : Int)))) => ?_)
        ·
          have c190 : xhid (¬ (XI r (.arg 2) = (0 : Int))) := ((by have z0 : XI r (.arg 2) = (16 : Int) := c189; have z1 : -2147483648 ≤ XI r (.arg 2) := b2; have z2 : XI r (.arg 2) < 2147483648 := d2; omega) : ¬ (XI r (.arg 2) = (0 : Int)))
          refine (Classical.em ((0 : Int) ≤ XI r (.arg 3))).elim (fun (c191 : xhid ((0 : Int) ≤ XI r (.arg 3))) => ?_) (fun (c191 : xhid (¬ ((0 : Int) ≤ XI r (.arg 3)))) => ?_)
          ·
            have c192 : xhid (¬ (XI r (.arg 2) = (0 : Int))) := ((by have z0 : ¬ (XI r (.arg 2) = (0 : Int)) := c190; have z1 : -2147483648 ≤ XI r (.arg 2) := b2; have z2 : XI r (.arg 2) < 2147483648 := d2; omega) : ¬ (XI r (.arg 2) = (0 : Int)))
            refine (Classical.em (XI r (.arg 3) ≤ (24 : Int))).elim (fun (c193 : xhid (XI r (.arg 3) ≤ (24 : Int))) => ?_) (fun (c193 : xhid (¬ (XI r (.arg 3) ≤ (24 : Int)))) => ?_)
            ·
              have c194 : xhid (¬ XI r (.arg 2) = (0 : Int)) := ((by have z0 : ¬ (XI r (.arg 2) = (0 : Int)) := c192; have z1 : -2147483648 ≤ XI r (.arg 2) := b2; have z2 : XI r (.arg 2) < 2147483648 := d2; omega) : ¬ XI r (.arg 2) = (0 : Int))
              have c195 : xhid ((1 : Int) < XI r (.arg 49)) := ((by have z0 : (3 : Int) < XI r (.arg 49) := c141; omega) : (1 : Int) < XI r (.arg 49))
              have c196 : xhid ((2 : Int) < XI r (.arg 49)) := ((by have z0 : (3 : Int) < XI r (.arg 49) := c141; omega) : (2 : Int) < XI r (.arg 49))
              have c197 : xhid ((3 : Int) < XI r (.arg 49)) := ((by have z0 : (3 : Int) < XI r (.arg 49) := c141; omega) : (3 : Int) < XI r (.arg 49))
              have c198 : xhid (¬ (XI r (.arg 2) = (0 : Int))) := ((by have z0 : ¬ XI r (.arg 2) = (0 : Int) := c194; have z1 : -2147483648 ≤ XI r (.arg 2) := b2; have z2 : XI r (.arg 2) < 2147483648 := d2; omega) : ¬ (XI r (.arg 2) = (0 : Int)))
              have c199 : xhid (¬ (XI r (.arg 2) = (8 : Int))) := ((by have z0 : XI r (.arg 2) = (16 : Int) := c189; have z1 : -2147483648 ≤ XI r (.arg 2) := b2; have z2 : XI r (.arg 2) < 2147483648 := d2; omega) : ¬ (XI r (.arg 2) = (8 : Int)))
              have c200 : xhid (XI r (.arg 2) = (16 : Int)) := ((by have z0 : XI r (.arg 2) = (16 : Int) := c189; have z1 : -2147483648 ≤ XI r (.arg 2) := b2; have z2 : XI r (.arg 2) < 2147483648 := d2; omega) : XI r (.arg 2) = (16 : Int))
              have c201 : xhid (¬ (XI r (.arg 2) = (0 : Int))) := ((by have z0 : XI r (.arg 2) = (16 : Int) := c200; have z1 : -2147483648 ≤ XI r (.arg 2) := b2; have z2 : XI r (.arg 2) < 2147483648 := d2; omega) : ¬ (XI r (.arg 2) = (0 : Int)))
              have c202 : xhid ((0 : Int) ≤ XI r (.arg 3)) := ((by have z0 : (0 : Int) ≤ XI r (.arg 3) := c191; have z1 : -2147483648 ≤ XI r (.arg 3) := b3; have z2 : XI r (.arg 3) < 2147483648 := d3; omega) : (0 : Int) ≤ XI r (.arg 3))
              have c203 : xhid (¬ (XI r (.arg 2) = (0 : Int))) := ((by have z0 : ¬ (XI r (.arg 2) = (0 : Int)) := c201; have z1 : -2147483648 ≤ XI r (.arg 2) := b2; have z2 : XI r (.arg 2) < 2147483648 := d2; omega) : ¬ (XI r (.arg 2) = (0 : Int)))
              have c204 : xhid (XI r (.arg 3) ≤ (24 : Int)) := ((by have z0 : XI r (.arg 3) ≤ (24 : Int) := c193; have z1 : -2147483648 ≤ XI r (.arg 3) := b3; have z2 : XI r (.arg 3) < 2147483648 := d3; omega) : XI r (.arg 3) ≤ (24 : Int))
              have c205 : xhid (¬ XI r (.arg 2) = (0 : Int)) := ((by have z0 : ¬ (XI r (.arg 2) = (0 : Int)) := c203; have z1 : -2147483648 ≤ XI r (.arg 2) := b2; have z2 : XI r (.arg 2) < 2147483648 := d2; omega) : ¬ XI r (.arg 2) = (0 : Int))
              have c206 : xhid (XI r (.sub (.arg 49) (.int 6)) < (6 : Int)) := ((by omega) : XI r (.sub (.arg 49) (.int 6)) < (6 : Int))
              refine ⟨807, _, ?_, lf_34_15⟩
              refine xc_cons (xh_gt_F (XI_lit (by decide +kernel)) rfl h0) ?_
              refine xc_cons (xh_lt_T (XI_lit (by decide +kernel)) rfl h1) ?_
              refine xc_cons (xh_eq_T rfl (XI_lit (by decide +kernel)) hk) ?_
              refine xc_cons (xh_lt_T (XI_lit (by decide +kernel)) rfl c1) ?_
              refine xc_cons (xh_eq_T rfl (XI_lit (by decide +kernel)) c139) ?_
              refine xc_cons (xh_lt_T (XI_lit (by decide +kernel)) rfl c140) ?_
              refine xc_cons (xh_lt_T (XI_lit (by decide +kernel)) rfl c141) ?_
              refine xc_cons (xh_eq_F rfl (XI_lit (by decide +kernel)) c142) ?_
              refine xc_cons (xh_eq_F rfl (XI_lit (by decide +kernel)) c154) ?_
              refine xc_cons (xh_eq_T rfl (XI_lit (by decide +kernel)) c189) ?_
              refine xc_cons (xh_eq_F rfl (XI_lit (by decide +kernel)) c190) ?_
              refine xc_cons (xh_ge_T rfl (XI_lit (by decide +kernel)) c191) ?_
              refine xc_cons (xh_eq_F rfl (XI_lit (by decide +kernel)) c192) ?_
              refine xc_cons (xh_le_T rfl (XI_lit (by decide +kernel)) c193) ?_
              refine xc_cons (xh_ne_T rfl (XI_lit (by decide +kernel)) c194) ?_
              refine xc_cons (xh_lt_T (XI_lit (by decide +kernel)) rfl c195) ?_
              refine xc_cons (xh_eq_T rfl (XI_lit (by decide +kernel)) c139) ?_
              refine xc_cons (xh_lt_T (XI_lit (by decide +kernel)) rfl c196) ?_
              refine xc_cons (xh_lt_T (XI_lit (by decide +kernel)) rfl c197) ?_
              refine xc_cons (xh_eq_F rfl (XI_lit (by decide +kernel)) c198) ?_
              refine xc_cons (xh_eq_F rfl (XI_lit (by decide +kernel)) c199) ?_
              refine xc_cons (xh_eq_T rfl (XI_lit (by decide +kernel)) c200) ?_
              refine xc_cons (xh_eq_F rfl (XI_lit (by decide +kernel)) c201) ?_
              refine xc_cons (xh_ge_T rfl (XI_lit (by decide +kernel)) c202) ?_
              refine xc_cons (xh_eq_F rfl (XI_lit (by decide +kernel)) c203) ?_
              refine xc_cons (xh_le_T rfl (XI_lit (by decide +kernel)) c204) ?_
              refine xc_cons (xh_ne_T rfl (XI_lit (by decide +kernel)) c205) ?_
              refine xc_cons (xh_gt_T (XI_lit (by decide +kernel)) rfl c206) ?_
              exact xc_nil
            ·
              have c207 : xhid ((1 : Int) < XI r (.arg 49)) := ((by have z0 : (3 : Int) < XI r (.arg 49) := c141; omega) : (1 : Int) < XI r (.arg 49))
              have c208 : xhid ((2 : Int) < XI r (.arg 49)) := ((by have z0 : (3 : Int) < XI r (.arg 49) := c141; omega) : (2 : Int) < XI r (.arg 49))
              have c209 : xhid ((3 : Int) < XI r (.arg 49)) := ((by have z0 : (3 : Int) < XI r (.arg 49) := c141; omega) : (3 : Int) < XI r (.arg 49))
              have c210 : xhid (¬ (XI r (.arg 2) = (0 : Int))) := ((by have z0 : ¬ (XI r (.arg 2) = (0 : Int)) := c192; have z1 : -2147483648 ≤ XI r (.arg 2) := b2; have z2 : XI r (.arg 2) < 2147483648 := d2; omega) : ¬ (XI r (.arg 2) = (0 : Int)))
              have c211 : xhid (¬ (XI r (.arg 2) = (8 : Int))) := ((by have z0 : XI r (.arg 2) = (16 : Int) := c189; have z1 : -2147483648 ≤ XI r (.arg 2) := b2; have z2 : XI r (.arg 2) < 2147483648 := d2; omega) : ¬ (XI r (.arg 2) = (8 : Int)))
              have c212 : xhid (XI r (.arg 2) = (16 : Int)) := ((by have z0 : XI r (.arg 2) = (16 : Int) := c189; have z1 : -2147483648 ≤ XI r (.arg 2) := b2; have z2 : XI r (.arg 2) < 2147483648 := d2; omega) : XI r (.arg 2) = (16 : Int))
              have c213 : xhid (¬ (XI r (.arg 2) = (0 : Int))) := ((by have z0 : XI r (.arg 2) = (16 : Int) := c212; have z1 : -2147483648 ≤ XI r (.arg 2) := b2; have z2 : XI r (.arg 2) < 2147483648 := d2; omega) : ¬ (XI r (.arg 2) = (0 : Int)))
              have c214 : xhid ((0 : Int) ≤ XI r (.arg 3)) := ((by have z0 : ¬ (XI r (.arg 3) ≤ (24 : Int)) := c193; have z1 : -2147483648 ≤ XI r (.arg 3) := b3; have z2 : XI r (.arg 3) < 2147483648 := d3; omega) : (0 : Int) ≤ XI r (.arg 3))
              have c215 : xhid (¬ (XI r (.arg 2) = (0 : Int))) := ((by have z0 : ¬ (XI r (.arg 2) = (0 : Int)) := c213; have z1 : -2147483648 ≤ XI r (.arg 2) := b2; have z2 : XI r (.arg 2) < 2147483648 := d2; omega) : ¬ (XI r (.arg 2) = (0 : Int)))
              have c216 : xhid (¬ (XI r (.arg 3) ≤ (24 : Int))) := ((by have z0 : ¬ (XI r (.arg 3) ≤ (24 : Int)) := c193; have z1 : -2147483648 ≤ XI r (.arg 3) := b3; have z2 : XI r (.arg 3) < 2147483648 := d3; omega) : ¬ (XI r (.arg 3) ≤ (24 : Int)))
              have c217 : xhid (XI r (.sub (.arg 49) (.int 6)) < (6 : Int)) := ((by omega) : XI r (.sub (.arg 49) (.int 6)) < (6 : Int))
              refine ⟨171, _, ?_, lf_34_16⟩
              refine xc_cons (xh_gt_F (XI_lit (by decide +kernel)) rfl h0) ?_
              refine xc_cons (xh_lt_T (XI_lit (by decide +kernel)) rfl h1) ?_
              refine xc_cons (xh_eq_T rfl (XI_lit (by decide +kernel)) hk) ?_
              refine xc_cons (xh_lt_T (XI_lit (by decide +kernel)) rfl c1) ?_
              refine xc_cons (xh_eq_T rfl (XI_lit (by decide +kernel)) c139) ?_
              refine xc_cons (xh_lt_T (XI_lit (by decide +kernel)) rfl c140) ?_
              refine xc_cons (xh_lt_T (XI_lit (by decide +kernel)) rfl c141) ?_
              refine xc_cons (xh_eq_F rfl (XI_lit (by decide +kernel)) c142) ?_
              refine xc_cons (xh_eq_F rfl (XI_lit (by decide +kernel)) c154) ?_
              refine xc_cons (xh_eq_T rfl (XI_lit (by decide +kernel)) c189) ?_
              refine xc_cons (xh_eq_F rfl (XI_lit (by decide +kernel)) c190) ?_
              refine xc_cons (xh_ge_T rfl (XI_lit (by decide +kernel)) c191) ?_
              refine xc_cons (xh_eq_F rfl (XI_lit (by decide +kernel)) c192) ?_
              refine xc_cons (xh_le_F rfl (XI_lit (by decide +kernel)) c193) ?_
              refine xc_cons (xh_lt_T (XI_lit (by decide +kernel)) rfl c207) ?_
              refine xc_cons (xh_eq_T rfl (XI_lit (by decide +kernel)) c139) ?_
              refine xc_cons (xh_lt_T (XI_lit (by decide +kernel)) rfl c208) ?_
              refine xc_cons (xh_lt_T (XI_lit (by decide +kernel)) rfl c209) ?_
              refine xc_cons (xh_eq_F rfl (XI_lit (by decide +kernel)) c210) ?_
              refine xc_cons (xh_eq_F rfl (XI_lit (by decide +kernel)) c211) ?_
              refine xc_cons (xh_eq_T rfl (XI_lit (by decide +kernel)) c212) ?_
              refine xc_cons (xh_eq_F rfl (XI_lit (by decide +kernel)) c213) ?_
              refine xc_cons (xh_ge_T rfl (XI_lit (by decide +kernel)) c214) ?_
              refine xc_cons (xh_eq_F rfl (XI_lit (by decide +kernel)) c215) ?_
              refine xc_cons (xh_le_F rfl (XI_lit (by decide +kernel)) c216) ?_
              refine xc_cons (xh_gt_T (XI_lit (by decide +kernel)) rfl c217) ?_
              exact xc_nil
          ·
            have c218 : xhid ((1 : Int) < XI r (.arg 49)) := ((by have z0 : (3 : Int) < XI r (.arg 49) := c141; omega) : (1 : Int) < XI r (.arg 49))
            have c219 : xhid ((2 : Int) < XI r (.arg 49)) := ((by have z0 : (3 : Int) < XI r (.arg 49) := c141; omega) : (2 : Int) < XI r (.arg 49))
            have c220 : xhid ((3 : Int) < XI r (.arg 49)) := ((by have z0 : (3 : Int) < XI r (.arg 49) := c141; omega) : (3 : Int) < XI r (.arg 49))
            have c221 : xhid (¬ (XI r (.arg 2) = (0 : Int))) := ((by have z0 : ¬ (XI r (.arg 2) = (0 : Int)) := c190; have z1 : -2147483648 ≤ XI r (.arg 2) := b2; have z2 : XI r (.arg 2) < 2147483648 := d2; omega) : ¬ (XI r (.arg 2) = (0 : Int)))
            have c222 : xhid (¬ (XI r (.arg 2) = (8 : Int))) := ((by have z0 : XI r (.arg 2) = (16 : Int) := c189; have z1 : -2147483648 ≤ XI r (.arg 2) := b2; have z2 : XI r (.arg 2) < 2147483648 := d2; omega) : ¬ (XI r (.arg 2) = (8 : Int)))
            have c223 : xhid (XI r (.arg 2) = (16 : Int)) := ((by have z0 : XI r (.arg 2) = (16 : Int) := c189; have z1 : -2147483648 ≤ XI r (.arg 2) := b2; have z2 : XI r (.arg 2) < 2147483648 := d2; omega) : XI r (.arg 2) = (16 : Int))
            have c224 : xhid (¬ (XI r (.arg 2) = (0 : Int))) := ((by have z0 : XI r (.arg 2) = (16 : Int) := c223; have z1 : -2147483648 ≤ XI r (.arg 2) := b2; have z2 : XI r (.arg 2) < 2147483648 := d2; omega) : ¬ (XI r (.arg 2) = (0 : Int)))
            have c225 : xhid (¬ ((0 : Int) ≤ XI r (.arg 3))) := ((by have z0 : ¬ ((0 : Int) ≤ XI r (.arg 3)) := c191; have z1 : -2147483648 ≤ XI r (.arg 3) := b3; have z2 : XI r (.arg 3) < 2147483648 := d3; omega) : ¬ ((0 : Int) ≤ XI r (.arg 3)))
            have c226 : xhid (XI r (.sub (.arg 49) (.int 6)) < (6 : Int)) := ((by omega) : XI r (.sub (.arg 49) (.int 6)) < (6 : Int))
            refine ⟨161, _, ?_, lf_34_17⟩
            refine xc_cons (xh_gt_F (XI_lit (by decide +kernel)) rfl h0) ?_
            refine xc_cons (xh_lt_T (XI_lit (by decide +kernel)) rfl h1) ?_
            refine xc_cons (xh_eq_T rfl (XI_lit (by decide +kernel)) hk) ?_
            refine xc_cons (xh_lt_T (XI_lit (by decide +kernel)) rfl c1) ?_
            refine xc_cons (xh_eq_T rfl (XI_lit (by decide +kernel)) c139) ?_
            refine xc_cons (xh_lt_T (XI_lit (by decide +kernel)) rfl c140) ?_
            refine xc_cons (xh_lt_T (XI_lit (by decide +kernel)) rfl c141) ?_
            refine xc_cons (xh_eq_F rfl (XI_lit (by decide +kernel)) c142) ?_
            refine xc_cons (xh_eq_F rfl (XI_lit (by decide +kernel)) c154) ?_
            refine xc_cons (xh_eq_T rfl (XI_lit (by decide +kernel)) c189) ?_
            refine xc_cons (xh_eq_F rfl (XI_lit (by decide +kernel)) c190) ?_
            refine xc_cons (xh_ge_F rfl (XI_lit (by decide +kernel)) c191) ?_
            refine xc_cons (xh_lt_T (XI_lit (by decide +kernel)) rfl c218) ?_
            refine xc_cons (xh_eq_T rfl (XI_lit (by decide +kernel)) c139) ?_
            refine xc_cons (xh_lt_T (XI_lit (by decide +kernel)) rfl c219) ?_
            refine xc_cons (xh_lt_T (XI_lit (by decide +kernel)) rfl c220) ?_
            refine xc_cons (xh_eq_F rfl (XI_lit (by decide +kernel)) c221) ?_
            refine xc_cons (xh_eq_F rfl (XI_lit (by decide +kernel)) c222) ?_
            refine xc_cons (xh_eq_T rfl (XI_lit (by decide +kernel)) c223) ?_
            refine xc_cons (xh_eq_F rfl (XI_lit (by decide +kernel)) c224) ?_
            refine xc_cons (xh_ge_F rfl (XI_lit (by decide +kernel)) c225) ?_
            refine xc_cons (xh_gt_T (XI_lit (by decide +kernel)) rfl c226) ?_
            exact xc_nil
        ·
          refine (Classical.em (XI r (.arg 2) = (32 : Int))).elim (fun (c227 : xhid (XI r (.arg 2) = (32 : Int))) => ?_) (fun (c227 : xhid (¬ (XI r (.arg 2) = (32 : Int)))) => ?_)
          ·
            have c228 : xhid (¬ (XI r (.arg 2) = (0 : Int))) := ((by have z0 : XI r (.arg 2) = (32 : Int) := c227; have z1 : -2147483648 ≤ XI r (.arg 2) := b2; have z2 : XI r (.arg 2) < 2147483648 := d2; omega) : ¬ (XI r (.arg 2) = (0 : Int)))
            refine (Classical.em ((0 : Int) ≤ XI r (.arg 3))).elim (fun (c229 : xhid ((0 : Int) ≤ XI r (.arg 3))) => ?_) (fun (c229 : xhid (¬ ((0 : Int) ≤ XI r (.arg 3)))) => ?_)
            ·
              have c230 : xhid (¬ (XI r (.arg 2) = (0 : Int))) := ((by have z0 : ¬ (XI r (.arg 2) = (0 : Int)) := c228; have z1 : -2147483648 ≤ XI r (.arg 2) := b2; have z2 : XI r (.arg 2) < 2147483648 := d2; omega) : ¬ (XI r (.arg 2) = (0 : Int)))
              refine (Classical.em (XI r (.arg 3) ≤ (24 : Int))).elim (fun (c231 : xhid (XI r (.arg 3) ≤ (24 : Int))) => ?_) (fun (c231 : xhid (¬ (XI r (.arg 3) ≤ (24 : Int)))) => ?_)
              ·
                have c232 : xhid (¬ XI r (.arg 2) = (0 : Int)) := ((by have z0 : ¬ (XI r (.arg 2) = (0 : Int)) := c230; have z1 : -2147483648 ≤ XI r (.arg 2) := b2; have z2 : XI r (.arg 2) < 2147483648 := d2; omega) : ¬ XI r (.arg 2) = (0 : Int))
                have c233 : xhid ((1 : Int) < XI r (.arg 49)) := ((by have z0 : (3 : Int) < XI r (.arg 49) := c141; omega) : (1 : Int) < XI r (.arg 49))
                have c234 : xhid ((2 : Int) < XI r (.arg 49)) := ((by have z0 : (3 : Int) < XI r (.arg 49) := c141; omega) : (2 : Int) < XI r (.arg 49))
                have c235 : xhid ((3 : Int) < XI r (.arg 49)) := ((by have z0 : (3 : Int) < XI r (.arg 49) := c141; omega) : (3 : Int) < XI r (.arg 49))
                have c236 : xhid (¬ (XI r (.arg 2) = (0 : Int))) := ((by have z0 : ¬ XI r (.arg 2) = (0 : Int) := c232; have z1 : -2147483648 ≤ XI r (.arg 2) := b2; have z2 : XI r (.arg 2) < 2147483648 := d2; omega) : ¬ (XI r (.arg 2) = (0 : Int)))
                have c237 : xhid (¬ (XI r (.arg 2) = (8 : Int))) := ((by have z0 : XI r (.arg 2) = (32 : Int) := c227; have z1 : -2147483648 ≤ XI r (.arg 2) := b2; have z2 : XI r (.arg 2) < 2147483648 := d2; omega) : ¬ (XI r (.arg 2) = (8 : Int)))
                have c238 : xhid (¬ (XI r (.arg 2) = (16 : Int))) := ((by have z0 : XI r (.arg 2) = (32 : Int) := c227; have z1 : -2147483648 ≤ XI r (.arg 2) := b2; have z2 : XI r (.arg 2) < 2147483648 := d2; omega) : ¬ (XI r (.arg 2) = (16 : Int)))
                have c239 : xhid (XI r (.arg 2) = (32 : Int)) := ((by have z0 : XI r (.arg 2) = (32 : Int) := c227; have z1 : -2147483648 ≤ XI r (.arg 2) := b2; have z2 : XI r (.arg 2) < 2147483648 := d2; omega) : XI r (.arg 2) = (32 : Int))
                have c240 : xhid (¬ (XI r (.arg 2) = (0 : Int))) := ((by have z0 : XI r (.arg 2) = (32 : Int) := c239; have z1 : -2147483648 ≤ XI r (.arg 2) := b2; have z2 : XI r (.arg 2) < 2147483648 := d2; omega) : ¬ (XI r (.arg 2) = (0 : Int)))
                have c241 : xhid ((0 : Int) ≤ XI r (.arg 3)) := ((by have z0 : (0 : Int) ≤ XI r (.arg 3) := c229; have z1 : -2147483648 ≤ XI r (.arg 3) := b3; have z2 : XI r (.arg 3) < 2147483648 := d3; omega) : (0 : Int) ≤ XI r (.arg 3))
                have c242 : xhid (¬ (XI r (.arg 2) = (0 : Int))) := ((by have z0 : ¬ (XI r (.arg 2) = (0 : Int)) := c240; have z1 : -2147483648 ≤ XI r (.arg 2) := b2; have z2 : XI r (.arg 2) < 2147483648 := d2; omega) : ¬ (XI r (.arg 2) = (0 : Int)))
                have c243 : xhid (XI r (.arg 3) ≤ (24 : Int)) := ((by have z0 : XI r (.arg 3) ≤ (24 : Int) := c231; have z1 : -2147483648 ≤ XI r (.arg 3) := b3; have z2 : XI r (.arg 3) < 2147483648 := d3; omega) : XI r (.arg 3) ≤ (24 : Int))
                have c244 : xhid (¬ XI r (.arg 2) = (0 : Int)) := ((by have z0 : ¬ (XI r (.arg 2) = (0 : Int)) := c242; have z1 : -2147483648 ≤ XI r (.arg 2) := b2; have z2 : XI r (.arg 2) < 2147483648 := d2; omega) : ¬ XI r (.arg 2) = (0 : Int))
                have c245 : xhid (XI r (.sub (.arg 49) (.int 6)) < (6 : Int)) := ((by omega) : XI r (.sub (.arg 49) (.int 6)) < (6 : Int))
                refine ⟨813, _, ?_, lf_34_18⟩
                refine xc_cons (xh_gt_F (XI_lit (by decide +kernel)) rfl h0) ?_
                refine xc_cons (xh_lt_T (XI_lit (by decide +kernel)) rfl h1) ?_
                refine xc_cons (xh_eq_T rfl (XI_lit (by decide +kernel)) hk) ?_
                refine xc_cons (xh_lt_T (XI_lit (by decide +kernel)) rfl c1) ?_
                refine xc_cons (xh_eq_T rfl (XI_lit (by decide +kernel)) c139) ?_
                refine xc_cons (xh_lt_T (XI_lit (by decide +kernel)) rfl c140) ?_
                refine xc_cons (xh_lt_T (XI_lit (by decide +kernel)) rfl c141) ?_
                refine xc_cons (xh_eq_F rfl (XI_lit (by decide +kernel)) c142) ?_
                refine xc_cons (xh_eq_F rfl (XI_lit (by decide +kernel)) c154) ?_
                refine xc_cons (xh_eq_F rfl (XI_lit (by decide +kernel)) c189) ?_
                refine xc_cons (xh_eq_T rfl (XI_lit (by decide +kernel)) c227) ?_
                refine xc_cons (xh_eq_F rfl (XI_lit (by decide +kernel)) c228) ?_
                refine xc_cons (xh_ge_T rfl (XI_lit (by decide +kernel)) c229) ?_
                refine xc_cons (xh_eq_F rfl (XI_lit (by decide +kernel)) c230) ?_
                refine xc_cons (xh_le_T rfl (XI_lit (by decide +kernel)) c231) ?_
                refine xc_cons (xh_ne_T rfl (XI_lit (by decide +kernel)) c232) ?_
                refine xc_cons (xh_lt_T (XI_lit (by decide +kernel)) rfl c233) ?_
                refine xc_cons (xh_eq_T rfl (XI_lit (by decide +kernel)) c139) ?_
                refine xc_cons (xh_lt_T (XI_lit (by decide +kernel)) rfl c234) ?_
                refine xc_cons (xh_lt_T (XI_lit (by decide +kernel)) rfl c235) ?_
                refine xc_cons (xh_eq_F rfl (XI_lit (by decide +kernel)) c236) ?_
                refine xc_cons (xh_eq_F rfl (XI_lit (by decide +kernel)) c237) ?_
                refine xc_cons (xh_eq_F rfl (XI_lit (by decide +kernel)) c238) ?_
                refine xc_cons (xh_eq_T rfl (XI_lit (by decide +kernel)) c239) ?_
                refine xc_cons (xh_eq_F rfl (XI_lit (by decide +kernel)) c240) ?_
                refine xc_cons (xh_ge_T rfl (XI_lit (by decide +kernel)) c241) ?_
                refine xc_cons (xh_eq_F rfl (XI_lit (by decide +kernel)) c242) ?_
                refine xc_cons (xh_le_T rfl (XI_lit (by decide +kernel)) c243) ?_
                refine xc_cons (xh_ne_T rfl (XI_lit (by decide +kernel)) c244) ?_
                refine xc_cons (xh_gt_T (XI_lit (by decide +kernel)) rfl c245) ?_
                exact xc_nil
              ·
                have c246 : xhid ((1 : Int) < XI r (.arg 49)) := ((by have z0 : (3 : Int) < XI r (.arg 49) := c141; omega) : (1 : Int) < XI r (.arg 49))
                have c247 : xhid ((2 : Int) < XI r (.arg 49)) := ((by have z0 : (3 : Int) < XI r (.arg 49) := c141; omega) : (2 : Int) < XI r (.arg 49))
                have c248 : xhid ((3 : Int) < XI r (.arg 49)) := ((by have z0 : (3 : Int) < XI r (.arg 49) := c141; omega) : (3 : Int) < XI r (.arg 49))
                have c249 : xhid (¬ (XI r (.arg 2) = (0 : Int))) := ((by have z0 : ¬ (XI r (.arg 2) = (0 : Int)) := c230; have z1 : -2147483648 ≤ XI r (.arg 2) := b2; have z2 : XI r (.arg 2) < 2147483648 := d2; omega) : ¬ (XI r (.arg 2) = (0 : Int)))
                have c250 : xhid (¬ (XI r (.arg 2) = (8 : Int))) := ((by have z0 : XI r (.arg 2) = (32 : Int) := c227; have z1 : -2147483648 ≤ XI r (.arg 2) := b2; have z2 : XI r (.arg 2) < 2147483648 := d2; omega) : ¬ (XI r (.arg 2) = (8 : Int)))
                have c251 : xhid (¬ (XI r (.arg 2) = (16 : Int))) := ((by have z0 : XI r (.arg 2) = (32 : Int) := c227; have z1 : -2147483648 ≤ XI r (.arg 2) := b2; have z2 : XI r (.arg 2) < 2147483648 := d2; omega) : ¬ (XI r (.arg 2) = (16 : Int)))
                have c252 : xhid (XI r (.arg 2) = (32 : Int)) := ((by have z0 : XI r (.arg 2) = (32 : Int) := c227; have z1 : -2147483648 ≤ XI r (.arg 2) := b2; have z2 : XI r (.arg 2) < 2147483648 := d2; omega) : XI r (.arg 2) = (32 : Int))
                have c253 : xhid (¬ (XI r (.arg 2) = (0 : Int))) := ((by have z0 : XI r (.arg 2) = (32 : Int) := c252; have z1 : -2147483648 ≤ XI r (.arg 2) := b2; have z2 : XI r (.arg 2) < 2147483648 := d2; omega) : ¬ (XI r (.arg 2) = (0 : Int)))
                have c254 : xhid ((0 : Int) ≤ XI r (.arg 3)) := ((by have z0 : ¬ (XI r (.arg 3) ≤ (24 : Int)) := c231; have z1 : -2147483648 ≤ XI r (.arg 3) := b3; have z2 : XI r (.arg 3) < 2147483648 := d3; omega) : (0 : Int) ≤ XI r (.arg 3))
                have c255 : xhid (¬ (XI r (.arg 2) = (0 : Int))) := ((by have z0 : ¬ (XI r (.arg 2) = (0 : Int)) := c253; have z1 : -2147483648 ≤ XI r (.arg 2) := b2; have z2 : XI r (.arg 2) < 2147483648 := d2; omega) : ¬ (XI r (.arg 2) = (0 : Int)))
                have c256 : xhid (¬ (XI r (.arg 3) ≤ (24 : Int))) := ((by have z0 : ¬ (XI r (.arg 3) ≤ (24 : Int)) := c231; have z1 : -2147483648 ≤ XI r (.arg 3) := b3; have z2 : XI r (.arg 3) < 2147483648 := d3; omega) : ¬ (XI r (.arg 3) ≤ (24 : Int)))
                have c257 : xhid (XI r (.sub (.arg 49) (.int 6)) < (6 : Int)) := ((by omega) : XI r (.sub (.arg 49) (.int 6)) < (6 : Int))
                refine ⟨177, _, ?_, lf_34_19⟩
                refine xc_cons (xh_gt_F (XI_lit (by decide +kernel)) rfl h0) ?_
                refine xc_cons (xh_lt_T (XI_lit (by decide +kernel)) rfl h1) ?_
                refine xc_cons (xh_eq_T rfl (XI_lit (by decide +kernel)) hk) ?_
                refine xc_cons (xh_lt_T (XI_lit (by decide +kernel)) rfl c1) ?_
                refine xc_cons (xh_eq_T rfl (XI_lit (by decide +kernel)) c139) ?_
                refine xc_cons (xh_lt_T (XI_lit (by decide +kernel)) rfl c140) ?_
                refine xc_cons (xh_lt_T (XI_lit (by decide +kernel)) rfl c141) ?_
                refine xc_cons (xh_eq_F rfl (XI_lit (by decide +kernel)) c142) ?_
                refine xc_cons (xh_eq_F rfl (XI_lit (by decide +kernel)) c154) ?_
                refine xc_cons (xh_eq_F rfl (XI_lit (by decide +kernel)) c189) ?_
                refine xc_cons (xh_eq_T rfl (XI_lit (by decide +kernel)) c227) ?_
                refine xc_cons (xh_eq_F rfl (XI_lit (by decide +kernel)) c228) ?_
                refine xc_cons (xh_ge_T rfl (XI_lit (by decide +kernel)) c229) ?_
                refine xc_cons (xh_eq_F rfl (XI_lit (by decide +kernel)) c230) ?_
                refine xc_cons (xh_le_F rfl (XI_lit (by decide +kernel)) c231) ?_
                refine xc_cons (xh_lt_T (XI_lit (by decide +kernel)) rfl c246) ?_
                refine xc_cons (xh_eq_T rfl (XI_lit (by decide +kernel)) c139) ?_
                refine xc_cons (xh_lt_T (XI_lit (by decide +kernel)) rfl c247) ?_
                refine xc_cons (xh_lt_T (XI_lit (by decide +kernel)) rfl c248) ?_
                refine xc_cons (xh_eq_F rfl (XI_lit (by decide +kernel)) c249) ?_
                refine xc_cons (xh_eq_F rfl (XI_lit (by decide +kernel)) c250) ?_
                refine xc_cons (xh_eq_F rfl (XI_lit (by decide +kernel)) c251) ?_
                refine xc_cons (xh_eq_T rfl (XI_lit (by decide +kernel)) c252) ?_
                refine xc_cons (xh_eq_F rfl (XI_lit (by decide +kernel)) c253) ?_
                refine xc_cons (xh_ge_T rfl (XI_lit (by decide +kernel)) c254) ?_
                refine xc_cons (xh_eq_F rfl (XI_lit (by decide +kernel)) c255) ?_
                refine xc_cons (xh_le_F rfl (XI_lit (by decide +kernel)) c256) ?_
                refine xc_cons (xh_gt_T (XI_lit (by decide +kernel)) rfl c257) ?_
                exact xc_nil
            ·
              have c258 : xhid ((1 : Int) < XI r (.arg 49)) := ((by have z0 : (3 : Int) < XI r (.arg 49) := c141; omega) : (1 : Int) < XI r (.arg 49))
              have c259 : xhid ((2 : Int) < XI r (.arg 49)) := ((by have z0 : (3 : Int) < XI r (.arg 49) := c141; omega) : (2 : Int) < XI r (.arg 49))
              have c260 : xhid ((3 : Int) < XI r (.arg 49)) := ((by have z0 : (3 : Int) < XI r (.arg 49) := c141; omega) : (3 : Int) < XI r (.arg 49))
              have c261 : xhid (¬ (XI r (.arg 2) = (0 : Int))) := ((by have z0 : ¬ (XI r (.arg 2) = (0 : Int)) := c228; have z1 : -2147483648 ≤ XI r (.arg 2) := b2; have z2 : XI r (.arg 2) < 2147483648 := d2; omega) : ¬ (XI r (.arg 2) = (0 : Int)))
              have c262 : xhid (¬ (XI r (.arg 2) = (8 : Int))) := ((by have z0 : XI r (.arg 2) = (32 : Int) := c227; have z1 : -2147483648 ≤ XI r (.arg 2) := b2; have z2 : XI r (.arg 2) < 2147483648 := d2; omega) : ¬ (XI r (.arg 2) = (8 : Int)))
              have c263 : xhid (¬ (XI r (.arg 2) = (16 : Int))) := ((by have z0 : XI r (.arg 2) = (32 : Int) := c227; have z1 : -2147483648 ≤ XI r (.arg 2) := b2; have z2 : XI r (.arg 2) < 2147483648 := d2; omega) : ¬ (XI r (.arg 2) = (16 : Int)))
              have c264 : xhid (XI r (.arg 2) = (32 : Int)) := ((by have z0 : XI r (.arg 2) = (32 : Int) := c227; have z1 : -2147483648 ≤ XI r (.arg 2) := b2; have z2 : XI r (.arg 2) < 2147483648 := d2; omega) : XI r (.arg 2) = (32 : Int))
              have c265 : xhid (¬ (XI r (.arg 2) = (0 : Int))) := ((by have z0 : XI r (.arg 2) = (32 : Int) := c264; have z1 : -2147483648 ≤ XI r (.arg 2) := b2; have z2 : XI r (.arg 2) < 2147483648 := d2; omega) : ¬ (XI r (.arg 2) = (0 : Int)))
              have c266 : xhid (¬ ((0 : Int) ≤ XI r (.arg 3))) := ((by have z0 : ¬ ((0 : Int) ≤ XI r (.arg 3)) := c229; have z1 : -2147483648 ≤ XI r (.arg 3) := b3; have z2 : XI r (.arg 3) < 2147483648 := d3; omega) : ¬ ((0 : Int) ≤ XI r (.arg 3)))
              have c267 : xhid (XI r (.sub (.arg 49) (.int 6)) < (6 : Int)) := ((by omega) : XI r (.sub (.arg 49) (.int 6)) < (6 : Int))
              refine ⟨167, _, ?_, lf_34_20⟩
              refine xc_cons (xh_gt_F (XI_lit (by decide +kernel)) rfl h0) ?_
              refine xc_cons (xh_lt_T (XI_lit (by decide +kernel)) rfl h1) ?_
              refine xc_cons (xh_eq_T rfl (XI_lit (by decide +kernel)) hk) ?_
              refine xc_cons (xh_lt_T (XI_lit (by decide +kernel)) rfl c1) ?_
              refine xc_cons (xh_eq_T rfl (XI_lit (by decide +kernel)) c139) ?_
              refine xc_cons (xh_lt_T (XI_lit (by decide +kernel)) rfl c140) ?_
              refine xc_cons (xh_lt_T (XI_lit (by decide +kernel)) rfl c141) ?_
              refine xc_cons (xh_eq_F rfl (XI_lit (by decide +kernel)) c142) ?_
              refine xc_cons (xh_eq_F rfl (XI_lit (by decide +kernel)) c154) ?_
              refine xc_cons (xh_eq_F rfl (XI_lit (by decide +kernel)) c189) ?_
              refine xc_cons (xh_eq_T rfl (XI_lit (by decide +kernel)) c227) ?_
              refine xc_cons (xh_eq_F rfl (XI_lit (by decide +kernel)) c228) ?_
              refine xc_cons (xh_ge_F rfl (XI_lit (by decide +kernel)) c229) ?_
              refine xc_cons (xh_lt_T (XI_lit (by decide +kernel)) rfl c258) ?_
              refine xc_cons (xh_eq_T rfl (XI_lit (by decide +kernel)) c139) ?_
              refine xc_cons (xh_lt_T (XI_lit (by decide +kernel)) rfl c259) ?_
              refine xc_cons (xh_lt_T (XI_lit (by decide +kernel)) rfl c260) ?_
              refine xc_cons (xh_eq_F rfl (XI_lit (by decide +kernel)) c261) ?_
              refine xc_cons (xh_eq_F rfl (XI_lit (by decide +kernel)) c262) ?_
              refine xc_cons (xh_eq_F rfl (XI_lit (by decide +kernel)) c263) ?_
              refine xc_cons (xh_eq_T rfl (XI_lit (by decide +kernel)) c264) ?_
              refine xc_cons (xh_eq_F rfl (XI_lit (by decide +kernel)) c265) ?_
              refine xc_cons (xh_ge_F rfl (XI_lit (by decide +kernel)) c266) ?_
              refine xc_cons (xh_gt_T (XI_lit (by decide +kernel)) rfl c267) ?_
              exact xc_nil
          ·
            have c268 : xhid ((1 : Int) < XI r (.arg 49)) := ((by have z0 : (3 : Int) < XI r (.arg 49) := c141; omega) : (1 : Int) < XI r (.arg 49))
            have c269 : xhid ((2 : Int) < XI r (.arg 49)) := ((by have z0 : (3 : Int) < XI r (.arg 49) := c141; omega) : (2 : Int) < XI r (.arg 49))
            have c270 : xhid ((3 : Int) < XI r (.arg 49)) := ((by have z0 : (3 : Int) < XI r (.arg 49) := c141; omega) : (3 : Int) < XI r (.arg 49))
            have c271 : xhid (¬ (XI r (.arg 2) = (0 : Int))) := ((by have z0 : ¬ (XI r (.arg 2) = (0 : Int)) := c142; have z1 : -2147483648 ≤ XI r (.arg 2) := b2; have z2 : XI r (.arg 2) < 2147483648 := d2; omega) : ¬ (XI r (.arg 2) = (0 : Int)))
            have c272 : xhid (¬ (XI r (.arg 2) = (8 : Int))) := ((by have z0 : ¬ (XI r (.arg 2) = (8 : Int)) := c154; have z1 : -2147483648 ≤ XI r (.arg 2) := b2; have z2 : XI r (.arg 2) < 2147483648 := d2; omega) : ¬ (XI r (.arg 2) = (8 : Int)))
            have c273 : xhid (¬ (XI r (.arg 2) = (16 : Int))) := ((by have z0 : ¬ (XI r (.arg 2) = (16 : Int)) := c189; have z1 : -2147483648 ≤ XI r (.arg 2) := b2; have z2 : XI r (.arg 2) < 2147483648 := d2; omega) : ¬ (XI r (.arg 2) = (16 : Int)))
            have c274 : xhid (¬ (XI r (.arg 2) = (32 : Int))) := ((by have z0 : ¬ (XI r (.arg 2) = (32 : Int)) := c227; have z1 : -2147483648 ≤ XI r (.arg 2) := b2; have z2 : XI r (.arg 2) < 2147483648 := d2; omega) : ¬ (XI r (.arg 2) = (32 : Int)))
            have c275 : xhid (XI r (.sub (.arg 49) (.int 6)) < (6 : Int)) := ((by omega) : XI r (.sub (.arg 49) (.int 6)) < (6 : Int))
            refine ⟨159, _, ?_, lf_34_21⟩
            refine xc_cons (xh_gt_F (XI_lit (by decide +kernel)) rfl h0) ?_
            refine xc_cons (xh_lt_T (XI_lit (by decide +kernel)) rfl h1) ?_
            refine xc_cons (xh_eq_T rfl (XI_lit (by decide +kernel)) hk) ?_
            refine xc_cons (xh_lt_T (XI_lit (by decide +kernel)) rfl c1) ?_
            refine xc_cons (xh_eq_T rfl (XI_lit (by decide +kernel)) c139) ?_
            refine xc_cons (xh_lt_T (XI_lit (by decide +kernel)) rfl c140) ?_
            refine xc_cons (xh_lt_T (XI_lit (by decide +kernel)) rfl c141) ?_
            refine xc_cons (xh_eq_F rfl (XI_lit (by decide +kernel)) c142) ?_
            refine xc_cons (xh_eq_F rfl (XI_lit (by decide +kernel)) c154) ?_
            refine xc_cons (xh_eq_F rfl (XI_lit (by decide +kernel)) c189) ?_
            refine xc_cons (xh_eq_F rfl (XI_lit (by decide +kernel)) c227) ?_
            refine xc_cons (xh_lt_T (XI_lit (by decide +kernel)) rfl c268) ?_
            refine xc_cons (xh_eq_T rfl (XI_lit (by decide +kernel)) c139) ?_
            refine xc_cons (xh_lt_T (XI_lit (by decide +kernel)) rfl c269) ?_
            refine xc_cons (xh_lt_T (XI_lit (by decide +kernel)) rfl c270) ?_
            refine xc_cons (xh_eq_F rfl (XI_lit (by decide +kernel)) c271) ?_
            refine xc_cons (xh_eq_F rfl (XI_lit (by decide +kernel)) c272) ?_
            refine xc_cons (xh_eq_F rfl (XI_lit (by decide +kernel)) c273) ?_
            refine xc_cons (xh_eq_F rfl (XI_lit (by decide +kernel)) c274) ?_
            refine xc_cons (xh_gt_T (XI_lit (by decide +kernel)) rfl c275) ?_
            exact xc_nil
  refine (Classical.em (XI r (.arg 1) = (2 : Int))).elim (fun (c276 : xhid (XI r (.arg 1) = (2 : Int))) => ?_) (fun (c276 : xhid (¬ (XI r (.arg 1) = (2 : Int)))) => ?_)
  ·
    have c277 : xhid ((2 : Int) < XI r (.arg 49)) := ((by have z0 : ¬ (XI r (.sub (.arg 49) (.int 6)) < (0 : Int)) := h0; omega) : (2 : Int) < XI r (.arg 49))
    have c278 : xhid ((3 : Int) < XI r (.arg 49)) := ((by have z0 : ¬ (XI r (.sub (.arg 49) (.int 6)) < (0 : Int)) := h0; omega) : (3 : Int) < XI r (.arg 49))
    refine (Classical.em (XI r (.arg 2) = (0 : Int))).elim (fun (c279 : xhid (XI r (.arg 2) = (0 : Int))) => ?_) (fun (c279 : xhid (¬ (XI r (.arg 2) = (0 : Int)))) => ?_)
    ·
      have c280 : xhid (XI r (.arg 2) = (0 : Int)) := ((by have z0 : XI r (.arg 2) = (0 : Int) := c279; have z1 : -2147483648 ≤ XI r (.arg 2) := b2; have z2 : XI r (.arg 2) < 2147483648 := d2; omega) : XI r (.arg 2) = (0 : Int))
      have c281 : xhid (XI r (.arg 2) = (0 : Int)) := ((by have z0 : XI r (.arg 2) = (0 : Int) := c280; have z1 : -2147483648 ≤ XI r (.arg 2) := b2; have z2 : XI r (.arg 2) < 2147483648 := d2; omega) : XI r (.arg 2) = (0 : Int))
      have c282 : xhid (¬ (¬ XI r (.arg 2) = (0 : Int))) := ((by have z0 : XI r (.arg 2) = (0 : Int) := c281; have z1 : -2147483648 ≤ XI r (.arg 2) := b2; have z2 : XI r (.arg 2) < 2147483648 := d2; omega) : ¬ (¬ XI r (.arg 2) = (0 : Int)))
      have c283 : xhid ((1 : Int) < XI r (.arg 49)) := ((by have z0 : (3 : Int) < XI r (.arg 49) := c278; omega) : (1 : Int) < XI r (.arg 49))
      have c284 : xhid ((2 : Int) < XI r (.arg 49)) := ((by have z0 : (3 : Int) < XI r (.arg 49) := c278; omega) : (2 : Int) < XI r (.arg 49))
      have c285 : xhid ((3 : Int) < XI r (.arg 49)) := ((by have z0 : (3 : Int) < XI r (.arg 49) := c278; omega) : (3 : Int) < XI r (.arg 49))
      have c286 : xhid (XI r (.arg 2) = (0 : Int)) := ((by have z0 : ¬ (¬ XI r (.arg 2) = (0 : Int)) := c282; have z1 : -2147483648 ≤ XI r (.arg 2) := b2; have z2 : XI r (.arg 2) < 2147483648 := d2; omega) : XI r (.arg 2) = (0 : Int))
      have c287 : xhid (XI r (.arg 2) = (0 : Int)) := ((by have z0 : XI r (.arg 2) = (0 : Int) := c286; have z1 : -2147483648 ≤ XI r (.arg 2) := b2; have z2 : XI r (.arg 2) < 2147483648 := d2; omega) : XI r (.arg 2) = (0 : Int))
      have c288 : xhid (XI r (.arg 2) = (0 : Int)) := ((by have z0 : XI r (.arg 2) = (0 : Int) := c287; have z1 : -2147483648 ≤ XI r (.arg 2) := b2; have z2 : XI r (.arg 2) < 2147483648 := d2; omega) : XI r (.arg 2) = (0 : Int))
      have c289 : xhid (¬ (¬ XI r (.arg 2) = (0 : Int))) := ((by have z0 : XI r (.arg 2) = (0 : Int) := c288; have z1 : -2147483648 ≤ XI r (.arg 2) := b2; have z2 : XI r (.arg 2) < 2147483648 := d2; omega) : ¬ (¬ XI r (.arg 2) = (0 : Int)))
      have c290 : xhid (XI r (.sub (.arg 49) (.int 6)) < (6 : Int)) := ((by omega) : XI r (.sub (.arg 49) (.int 6)) < (6 : Int))
      refine ⟨787, _, ?_, lf_34_22⟩
      refine xc_cons (xh_gt_F (XI_lit (by decide +kernel)) rfl h0) ?_
      refine xc_cons (xh_lt_T (XI_lit (by decide +kernel)) rfl h1) ?_
      refine xc_cons (xh_eq_T rfl (XI_lit (by decide +kernel)) hk) ?_
      refine xc_cons (xh_lt_T (XI_lit (by decide +kernel)) rfl c1) ?_
      refine xc_cons (xh_eq_T rfl (XI_lit (by decide +kernel)) c276) ?_
      refine xc_cons (xh_lt_T (XI_lit (by decide +kernel)) rfl c277) ?_
      refine xc_cons (xh_lt_T (XI_lit (by decide +kernel)) rfl c278) ?_
      refine xc_cons (xh_eq_T rfl (XI_lit (by decide +kernel)) c279) ?_
      refine xc_cons (xh_eq_T rfl (XI_lit (by decide +kernel)) c280) ?_
      refine xc_cons (xh_eq_T rfl (XI_lit (by decide +kernel)) c281) ?_
      refine xc_cons (xh_ne_F rfl (XI_lit (by decide +kernel)) c282) ?_
      refine xc_cons (xh_lt_T (XI_lit (by decide +kernel)) rfl c283) ?_
      refine xc_cons (xh_eq_T rfl (XI_lit (by decide +kernel)) c276) ?_
      refine xc_cons (xh_lt_T (XI_lit (by decide +kernel)) rfl c284) ?_
      refine xc_cons (xh_lt_T (XI_lit (by decide +kernel)) rfl c285) ?_
      refine xc_cons (xh_eq_T rfl (XI_lit (by decide +kernel)) c286) ?_
      refine xc_cons (xh_eq_T rfl (XI_lit (by decide +kernel)) c287) ?_
      refine xc_cons (xh_eq_T rfl (XI_lit (by decide +kernel)) c288) ?_
      refine xc_cons (xh_ne_F rfl (XI_lit (by decide +kernel)) c289) ?_
      refine xc_cons (xh_gt_T (XI_lit (by decide +kernel)) rfl c290) ?_
      exact xc_nil
    ·
      refine (Classical.em (XI r (.arg 2) = (8 : Int))).elim (fun (c291 : xhid (XI r (.arg 2) = (8 : Int))) => ?_) (fun (c291 : xhid (¬ (XI r (.arg 2) = (8 : Int)))) => ?_)
      ·
        have c292 : xhid (¬ (XI r (.arg 2) = (0 : Int))) := ((by have z0 : XI r (.arg 2) = (8 : Int) := c291; have z1 : -2147483648 ≤ XI r (.arg 2) := b2; have z2 : XI r (.arg 2) < 2147483648 := d2; omega) : ¬ (XI r (.arg 2) = (0 : Int)))
        refine (Classical.em ((0 : Int) ≤ XI r (.arg 3))).elim (fun (c293 : xhid ((0 : Int) ≤ XI r (.arg 3))) => ?_) (fun (c293 : xhid (¬ ((0 : Int) ≤ XI r (.arg 3)))) => ?_)
        ·
          have c294 : xhid (¬ (XI r (.arg 2) = (0 : Int))) := ((by have z0 : ¬ (XI r (.arg 2) = (0 : Int)) := c292; have z1 : -2147483648 ≤ XI r (.arg 2) := b2; have z2 : XI r (.arg 2) < 2147483648 := d2; omega) : ¬ (XI r (.arg 2) = (0 : Int)))
          refine (Classical.em (XI r (.arg 3) ≤ (24 : Int))).elim (fun (c295 : xhid (XI r (.arg 3) ≤ (24 : Int))) => ?_) (fun (c295 : xhid (¬ (XI r (.arg 3) ≤ (24 : Int)))) => ?_)
          ·
            have c296 : xhid (¬ XI r (.arg 2) = (0 : Int)) := ((by have z0 : ¬ (XI r (.arg 2) = (0 : Int)) := c294; have z1 : -2147483648 ≤ XI r (.arg 2) := b2; have z2 : XI r (.arg 2) < 2147483648 := d2; omega) : ¬ XI r (.arg 2) = (0 : Int))
            have c297 : xhid ((1 : Int) < XI r (.arg 49)) := ((by have z0 : (3 : Int) < XI r (.arg 49) := c278; omega) : (1 : Int) < XI r (.arg 49))
            have c298 : xhid ((2 : Int) < XI r (.arg 49)) := ((by have z0 : (3 : Int) < XI r (.arg 49) := c278; omega) : (2 : Int) < XI r (.arg 49))
            have c299 : xhid ((3 : Int) < XI r (.arg 49)) := ((by have z0 : (3 : Int) < XI r (.arg 49) := c278; omega) : (3 : Int) < XI r (.arg 49))
            have c300 : xhid (¬ (XI r (.arg 2) = (0 : Int))) := ((by have z0 : ¬ XI r (.arg 2) = (0 : Int) := c296; have z1 : -2147483648 ≤ XI r (.arg 2) := b2; have z2 : XI r (.arg 2) < 2147483648 := d2; omega) : ¬ (XI r (.arg 2) = (0 : Int)))
            have c301 : xhid (XI r (.arg 2) = (8 : Int)) := ((by have z0 : XI r (.arg 2) = (8 : Int) := c291; have z1 : -2147483648 ≤ XI r (.arg 2) := b2; have z2 : XI r (.arg 2) < 2147483648 := d2; omega) : XI r (.arg 2) = (8 : Int))
            have c302 : xhid (¬ (XI r (.arg 2) = (0 : Int))) := ((by have z0 : XI r (.arg 2) = (8 : Int) := c301; have z1 : -2147483648 ≤ XI r (.arg 2) := b2; have z2 : XI r (.arg 2) < 2147483648 := d2; omega) : ¬ (XI r (.arg 2) = (0 : Int)))
            have c303 : xhid ((0 : Int) ≤ XI r (.arg 3)) := ((by have z0 : (0 : Int) ≤ XI r (.arg 3) := c293; have z1 : -2147483648 ≤ XI r (.arg 3) := b3; have z2 : XI r (.arg 3) < 2147483648 := d3; omega) : (0 : Int) ≤ XI r (.arg 3))
            have c304 : xhid (¬ (XI r (.arg 2) = (0 : Int))) := ((by have z0 : ¬ (XI r (.arg 2) = (0 : Int)) := c302; have z1 : -2147483648 ≤ XI r (.arg 2) := b2; have z2 : XI r (.arg 2) < 2147483648 := d2; omega) : ¬ (XI r (.arg 2) = (0 : Int)))
            have c305 : xhid (XI r (.arg 3) ≤ (24 : Int)) := ((by have z0 : XI r (.arg 3) ≤ (24 : Int) := c295; have z1 : -2147483648 ≤ XI r (.arg 3) := b3; have z2 : XI r (.arg 3) < 2147483648 := d3; omega) : XI r (.arg 3) ≤ (24 : Int))
            have c306 : xhid (¬ XI r (.arg 2) = (0 : Int)) := ((by have z0 : ¬ (XI r (.arg 2) = (0 : Int)) := c304; have z1 : -2147483648 ≤ XI r (.arg 2) := b2; have z2 : XI r (.arg 2) < 2147483648 := d2; omega) : ¬ XI r (.arg 2) = (0 : Int))
            have c307 : xhid (XI r (.sub (.arg 49) (.int 6)) < (6 : Int)) := ((by omega) : XI r (.sub (.arg 49) (.int 6)) < (6 : Int))
            refine ⟨801, _, ?_, lf_34_23⟩
            refine xc_cons (xh_gt_F (XI_lit (by decide +kernel)) rfl h0) ?_
            refine xc_cons (xh_lt_T (XI_lit (by decide +kernel)) rfl h1) ?_
            refine xc_cons (xh_eq_T rfl (XI_lit (by decide +kernel)) hk) ?_
            refine xc_cons (xh_lt_T (XI_lit (by decide +kernel)) rfl c1) ?_
            refine xc_cons (xh_eq_T rfl (XI_lit (by decide +kernel)) c276) ?_
            refine xc_cons (xh_lt_T (XI_lit (by decide +kernel)) rfl c277) ?_
            refine xc_cons (xh_lt_T (XI_lit (by decide +kernel)) rfl c278) ?_
            refine xc_cons (xh_eq_F rfl (XI_lit (by decide +kernel)) c279) ?_
            refine xc_cons (xh_eq_T rfl (XI_lit (by decide +kernel)) c291) ?_
            refine xc_cons (xh_eq_F rfl (XI_lit (by decide +kernel)) c292) ?_
            refine xc_cons (xh_ge_T rfl (XI_lit (by decide +kernel)) c293) ?_
            refine xc_cons (xh_eq_F rfl (XI_lit (by decide +kernel)) c294) ?_
            refine xc_cons (xh_le_T rfl (XI_lit (by decide +kernel)) c295) ?_
            refine xc_cons (xh_ne_T rfl (XI_lit (by decide +kernel)) c296) ?_
            refine xc_cons (xh_lt_T (XI_lit (by decide +kernel)) rfl c297) ?_
            refine xc_cons (xh_eq_T rfl (XI_lit (by decide +kernel)) c276) ?_
            refine xc_cons (xh_lt_T (XI_lit (by decide +kernel)) rfl c298) ?_
            refine xc_cons (xh_lt_T (XI_lit (by decide +kernel)) rfl c299) ?_
            refine xc_cons (xh_eq_F rfl (XI_lit (by decide +kernel)) c300) ?_
            refine xc_cons (xh_eq_T rfl (XI_lit (by decide +kernel)) c301) ?_
            refine xc_cons (xh_eq_F rfl (XI_lit (by decide +kernel)) c302) ?_
            refine xc_cons (xh_ge_T rfl (XI_lit (by decide +kernel)) c303) ?_
            refine xc_cons (xh_eq_F rfl (XI_lit (by decide +kernel)) c304) ?_
            refine xc_cons (xh_le_T rfl (XI_lit (by decide +kernel)) c305) ?_
            refine xc_cons (xh_ne_T rfl (XI_lit (by decide +kernel)) c306) ?_
            refine xc_cons (xh_gt_T (XI_lit (by decide +kernel)) rfl c307) ?_
            exact xc_nil
          ·
            have c308 : xhid ((1 : Int) < XI r (.arg 49)) := ((by have z0 : (3 : Int) < XI r (.arg 49) := c278; omega) : (1 : Int) < XI r (.arg 49))
            have c309 : xhid ((2 : Int) < XI r (.arg 49)) := ((by have z0 : (3 : Int) < XI r (.arg 49) := c278; omega) : (2 : Int) < XI r (.arg 49))
            have c310 : xhid ((3 : Int) < XI r (.arg 49)) := ((by have z0 : (3 : Int) < XI r (.arg 49) := c278; omega) : (3 : Int) < XI r (.arg 49))
            have c311 : xhid (¬ (XI r (.arg 2) = (0 : Int))) := ((by have z0 : ¬ (XI r (.arg 2) = (0 : Int)) := c294; have z1 : -2147483648 ≤ XI r (.arg 2) := b2; have z2 : XI r (.arg 2) < 2147483648 := d2; omega) : ¬ (XI r (.arg 2) = (0 : Int)))
            have c312 : xhid (XI r (.arg 2) = (8 : Int)) := ((by have z0 : XI r (.arg 2) = (8 : Int) := c291; have z1 : -2147483648 ≤ XI r (.arg 2) := b2; have z2 : XI r (.arg 2) < 2147483648 := d2; omega) : XI r (.arg 2) = (8 : Int))
            have c313 : xhid (¬ (XI r (.arg 2) = (0 : Int))) := ((by have z0 : XI r (.arg 2) = (8 : Int) := c312; have z1 : -2147483648 ≤ XI r (.arg 2) := b2; have z2 : XI r (.arg 2) < 2147483648 := d2; omega) : ¬ (XI r (.arg 2) = (0 : Int)))
            have c314 : xhid ((0 : Int) ≤ XI r (.arg 3)) := ((by have z0 : ¬ (XI r (.arg 3) ≤ (24 : Int)) := c295; have z1 : -2147483648 ≤ XI r (.arg 3) := b3; have z2 : XI r (.arg 3) < 2147483648 := d3; omega) : (0 : Int) ≤ XI r (.arg 3))
            have c315 : xhid (¬ (XI r (.arg 2) = (0 : Int))) := ((by have z0 : ¬ (XI r (.arg 2) = (0 : Int)) := c313; have z1 : -2147483648 ≤ XI r (.arg 2) := b2; have z2 : XI r (.arg 2) < 2147483648 := d2; omega) : ¬ (XI r (.arg 2) = (0 : Int)))
            have c316 : xhid (¬ (XI r (.arg 3) ≤ (24 : Int))) := ((by have z0 : ¬ (XI r (.arg 3) ≤ (24 : Int)) := c295; have z1 : -2147483648 ≤ XI r (.arg 3) := b3; have z2 : XI r (.arg 3) < 2147483648 := d3; omega) : ¬ (XI r (.arg 3) ≤ (24 : Int)))
            have c317 : xhid (XI r (.sub (.arg 49) (.int 6)) < (6 : Int)) := ((by omega) : XI r (.sub (.arg 49) (.int 6)) < (6 : Int))
            refine ⟨165, _, ?_, lf_34_24⟩
            refine xc_cons (xh_gt_F (XI_lit (by decide +kernel)) rfl h0) ?_
            refine xc_cons (xh_lt_T (XI_lit (by decide +kernel)) rfl h1) ?_
            refine xc_cons (xh_eq_T rfl (XI_lit (by decide +kernel)) hk) ?_
            refine xc_cons (xh_lt_T (XI_lit (by decide +kernel)) rfl c1) ?_
            refine xc_cons (xh_eq_T rfl (XI_lit (by decide +kernel)) c276) ?_
            refine xc_cons (xh_lt_T (XI_lit (by decide +kernel)) rfl c277) ?_
            refine xc_cons (xh_lt_T (XI_lit (by decide +kernel)) rfl c278) ?_
            refine xc_cons (xh_eq_F rfl (XI_lit (by decide +kernel)) c279) ?_
            refine xc_cons (xh_eq_T rfl (XI_lit (by decide +kernel)) c291) ?_
            refine xc_cons (xh_eq_F rfl (XI_lit (by decide +kernel)) c292) ?_
            refine xc_cons (xh_ge_T rfl (XI_lit (by decide +kernel)) c293) ?_
            refine xc_cons (xh_eq_F rfl (XI_lit (by decide +kernel)) c294) ?_
            refine xc_cons (xh_le_F rfl (XI_lit (by decide +kernel)) c295) ?_
            refine xc_cons (xh_lt_T (XI_lit (by decide +kernel)) rfl c308) ?_
            refine xc_cons (xh_eq_T rfl (XI_lit (by decide +kernel)) c276) ?_
            refine xc_cons (xh_lt_T (XI_lit (by decide +kernel)) rfl c309) ?_
            refine xc_cons (xh_lt_T (XI_lit (by decide +kernel)) rfl c310) ?_
            refine xc_cons (xh_eq_F rfl (XI_lit (by decide +kernel)) c311) ?_
            refine xc_cons (xh_eq_T rfl (XI_lit (by decide +kernel)) c312) ?_
            refine xc_cons (xh_eq_F rfl (XI_lit (by decide +kernel)) c313) ?_
            refine xc_cons (xh_ge_T rfl (XI_lit (by decide +kernel)) c314) ?_
            refine xc_cons (xh_eq_F rfl (XI_lit (by decide +kernel)) c315) ?_
            refine xc_cons (xh_le_F rfl (XI_lit (by decide +kernel)) c316) ?_
            refine xc_cons (xh_gt_T (XI_lit (by decide +kernel)) rfl c317) ?_
            exact xc_nil
        ·
          have c318 : xhid ((1 : Int) < XI r (.arg 49)) := ((by have z0 : (3 : Int) < XI r (.arg 49) := c278; omega) : (1 : Int) < XI r (.arg 49))
          have c319 : xhid ((2 : Int) < XI r (.arg 49)) := ((by have z0 : (3 : Int) < XI r (.arg 49) := c278; omega) : (2 : Int) < XI r (.arg 49))
          have c320 : xhid ((3 : Int) < XI r (.arg 49)) := ((by have z0 : (3 : Int) < XI r (.arg 49) := c278; omega) : (3 : Int) < XI r (.arg 49))
          have c321 : xhid (¬ (XI r (.arg 2) = (0 : Int))) := ((by have z0 : ¬ (XI r (.arg 2) = (0 : Int)) := c292; have z1 : -2147483648 ≤ XI r (.arg 2) := b2; have z2 : XI r (.arg 2) < 2147483648 := d2; omega) : ¬ (XI r (.arg 2) = (0 : Int)))
          have c322 : xhid (XI r (.arg 2) = (8 : Int)) := ((by have z0 : XI r (.arg 2) = (8 : Int) := c291; have z1 : -2147483648 ≤ XI r (.arg 2) := b2; have z2 : XI r (.arg 2) < 2147483648 := d2; omega) : XI r (.arg 2) = (8 : Int))
          have c323 : xhid (¬ (XI r (.arg 2) = (0 : Int))) := ((by have z0 : XI r (.arg 2) = (8 : Int) := c322; have z1 : -2147483648 ≤ XI r (.arg 2) := b2; have z2 : XI r (.arg 2) < 2147483648 := d2; omega) : ¬ (XI r (.arg 2) = (0 : Int)))
          have c324 : xhid (¬ ((0 : Int) ≤ XI r (.arg 3))) := ((by have z0 : ¬ ((0 : Int) ≤ XI r (.arg 3)) := c293; have z1 : -2147483648 ≤ XI r (.arg 3) := b3; have z2 : XI r (.arg 3) < 2147483648 := d3; omega) : ¬ ((0 : Int) ≤ XI r (.arg 3)))
          have c325 : xhid (XI r (.sub (.arg 49) (.int 6)) < (6 : Int)) := ((by omega) : XI r (.sub (.arg 49) (.int 6)) < (6 : Int))
          refine ⟨155, _, ?_, lf_34_25⟩
          refine xc_cons (xh_gt_F (XI_lit (by decide +kernel)) rfl h0) ?_
          refine xc_cons (xh_lt_T (XI_lit (by decide +kernel)) rfl h1) ?_
          refine xc_cons (xh_eq_T rfl (XI_lit (by decide +kernel)) hk) ?_
          refine xc_cons (xh_lt_T (XI_lit (by decide +kernel)) rfl c1) ?_
          refine xc_cons (xh_eq_T rfl (XI_lit (by decide +kernel)) c276) ?_
          refine xc_cons (xh_lt_T (XI_lit (by decide +kernel)) rfl c277) ?_
          refine xc_cons (xh_lt_T (XI_lit (by decide +kernel)) rfl c278) ?_
          refine xc_cons (xh_eq_F rfl (XI_lit (by decide +kernel)) c279) ?_
          refine xc_cons (xh_eq_T rfl (XI_lit (by decide +kernel)) c291) ?_
          refine xc_cons (xh_eq_F rfl (XI_lit (by decide +kernel)) c292) ?_
          refine xc_cons (xh_ge_F rfl (XI_lit (by decide +kernel)) c293) ?_
          refine xc_cons (xh_lt_T (XI_lit (by decide +kernel)) rfl c318) ?_
          refine xc_cons (xh_eq_T rfl (XI_lit (by decide +kernel)) c276) ?_
          refine xc_cons (xh_lt_T (XI_lit (by decide +kernel)) rfl c319) ?_
          refine xc_cons (xh_lt_T (XI_lit (by decide +kernel)) rfl c320) ?_
          refine xc_cons (xh_eq_F rfl (XI_lit (by decide +kernel)) c321) ?_
          refine xc_cons (xh_eq_T rfl (XI_lit (by decide +kernel)) c322) ?_
          refine xc_cons (xh_eq_F rfl (XI_lit (by decide +kernel)) c323) ?_
          refine xc_cons (xh_ge_F rfl (XI_lit (by decide +kernel)) c324) ?_
          refine xc_cons (xh_gt_T (XI_lit (by decide +kernel)) rfl c325) ?_
          exact xc_nil
      ·
        refine (Classical.em (XI r (.arg 2) = (16 : Int))).elim (fun (c326 : xhid (XI r (.arg 2) = (16 : Int))) => ?_) (fun (c326 : xhid (¬ (XI r (.arg 2) = (16 : Int)))) => ?_)
        ·
          have c327 : xhid (¬ (XI r (.arg 2) = (0 : Int))) := ((by have z0 : XI r (.arg 2) = (16 : Int) := c326; have z1 : -2147483648 ≤ XI r (.arg 2) := b2; have z2 : XI r (.arg 2) < 2147483648 := d2; omega) : ¬ (XI r (.arg 2) = (0 : Int)))
          refine (Classical.em ((0 : Int) ≤ XI r (.arg 3))).elim (fun (c328 : xhid ((0 : Int) ≤ XI r (.arg 3))) => ?_) (fun (c328 : xhid (¬ ((0 : Int) ≤ XI r (.arg 3)))) => ?_)
          ·
            have c329 : xhid (¬ (XI r (.arg 2) = (0 : Int))) := ((by have z0 : ¬ (XI r (.arg 2) = (0 : Int)) := c327; have z1 : -2147483648 ≤ XI r (.arg 2) := b2; have z2 : XI r (.arg 2) < 2147483648 := d2; omega) : ¬ (XI r (.arg 2) = (0 : Int)))
            refine (Classical.em (XI r (.arg 3) ≤ (24 : Int))).elim (fun (c330 : xhid (XI r (.arg 3) ≤ (24 : Int))) => ?_) (fun (c330 : xhid (¬ (XI r (.arg 3) ≤ (24 : Int)))) => ?_)
            ·
              have c331 : xhid (¬ XI r (.arg 2) = (0 : Int)) := ((by have z0 : ¬ (XI r (.arg 2) = (0 : Int)) := c329; have z1 : -2147483648 ≤ XI r (.arg 2) := b2; have z2 : XI r (.arg 2) < 2147483648 := d2; omega) : ¬ XI r (.arg 2) = (0 : Int))
              have c332 : xhid ((1 : Int) < XI r (.arg 49)) := ((by have z0 : (3 : Int) < XI r (.arg 49) := c278; omega) : (1 : Int) < XI r (.arg 49))
              have c333 : xhid ((2 : Int) < XI r (.arg 49)) := ((by have z0 : (3 : Int) < XI r (.arg 49) := c278; omega) : (2 : Int) < XI r (.arg 49))
              have c334 : xhid ((3 : Int) < XI r (.arg 49)) := ((by have z0 : (3 : Int) < XI r (.arg 49) := c278; omega) : (3 : Int) < XI r (.arg 49))
              have c335 : xhid (¬ (XI r (.arg 2) = (0 : Int))) := ((by have z0 : ¬ XI r (.arg 2) = (0 : Int) := c331; have z1 : -2147483648 ≤ XI r (.arg 2) := b2; have z2 : XI r (.arg 2) < 2147483648 := d2; omega) : ¬ (XI r (.arg 2) = (0 : Int)))
              have c336 : xhid (¬ (XI r (.arg 2) = (8 : Int))) := ((by have z0 : XI r (.arg 2) = (16 : Int) := c326; have z1 : -2147483648 ≤ XI r (.arg 2) := b2; have z2 : XI r (.arg 2) < 2147483648 := d2; omega) : ¬ (XI r (.arg 2) = (8 : Int)))
              have c337 : xhid (XI r (.arg 2) = (16 : Int)) := ((by have z0 : XI r (.arg 2) = (16 : Int) := c326; have z1 : -2147483648 ≤ XI r (.arg 2) := b2; have z2 : XI r (.arg 2) < 2147483648 := d2; omega) : XI r (.arg 2) = (16 : Int))
              have c338 : xhid (¬ (XI r (.arg 2) = (0 : Int))) := ((by have z0 : XI r (.arg 2) = (16 : Int) := c337; have z1 : -2147483648 ≤ XI r (.arg 2) := b2; have z2 : XI r (.arg 2) < 2147483648 := d2; omega) : ¬ (XI r (.arg 2) = (0 : Int)))
              have c339 : xhid ((0 : Int) ≤ XI r (.arg 3)) := ((by have z0 : (0 : Int) ≤ XI r (.arg 3) := c328; have z1 : -2147483648 ≤ XI r (.arg 3) := b3; have z2 : XI r (.arg 3) < 2147483648 := d3; omega) : (0 : Int) ≤ XI r (.arg 3))
              have c340 : xhid (¬ (XI r (.arg 2) = (0 : Int))) := ((by have z0 : ¬ (XI r (.arg 2) = (0 : Int)) := c338; have z1 : -2147483648 ≤ XI r (.arg 2) := b2; have z2 : XI r (.arg 2) < 2147483648 := d2; omega) : ¬ (XI r (.arg 2) = (0 : Int)))
              have c341 : xhid (XI r (.arg 3) ≤ (24 : Int)) := ((by have z0 : XI r (.arg 3) ≤ (24 : Int) := c330; have z1 : -2147483648 ≤ XI r (.arg 3) := b3; have z2 : XI r (.arg 3) < 2147483648 := d3; omega) : XI r (.arg 3) ≤ (24 : Int))
              have c342 : xhid (¬ XI r (.arg 2) = (0 : Int)) := ((by have z0 : ¬ (XI r (.arg 2) = (0 : Int)) := c340; have z1 : -2147483648 ≤ XI r (.arg 2) := b2; have z2 : XI r (.arg 2) < 2147483648 := d2; omega) : ¬ XI r (.arg 2) = (0 : Int))
              have c343 : xhid (XI r (.sub (.arg 49) (.int 6)) < (6 : Int)) := ((by omega) : XI r (.sub (.arg 49) (.int 6)) < (6 : Int))
              refine ⟨807, _, ?_, lf_34_26⟩
              refine xc_cons (xh_gt_F (XI_lit (by decide +kernel)) rfl h0) ?_
              refine xc_cons (xh_lt_T (XI_lit (by decide +kernel)) rfl h1) ?_
              refine xc_cons (xh_eq_T rfl (XI_lit (by decide +kernel)) hk) ?_
              refine xc_cons (xh_lt_T (XI_lit (by decide +kernel)) rfl c1) ?_
              refine xc_cons (xh_eq_T rfl (XI_lit (by decide +kernel)) c276) ?_
              refine xc_cons (xh_lt_T (XI_lit (by decide +kernel)) rfl c277) ?_
              refine xc_cons (xh_lt_T (XI_lit (by decide +kernel)) rfl c278) ?_
              refine xc_cons (xh_eq_F rfl (XI_lit (by decide +kernel)) c279) ?_
              refine xc_cons (xh_eq_F rfl (XI_lit (by decide +kernel)) c291) ?_
              refine xc_cons (xh_eq_T rfl (XI_lit (by decide +kernel)) c326) ?_
              refine xc_cons (xh_eq_F rfl (XI_lit (by decide +kernel)) c327) ?_
              refine xc_cons (xh_ge_T rfl (XI_lit (by decide +kernel)) c328) ?_
              refine xc_cons (xh_eq_F rfl (XI_lit (by decide +kernel)) c329) ?_
              refine xc_cons (xh_le_T rfl (XI_lit (by decide +kernel)) c330) ?_
              refine xc_cons (xh_ne_T rfl (XI_lit (by decide +kernel)) c331) ?_
              refine xc_cons (xh_lt_T (XI_lit (by decide +kernel)) rfl c332) ?_
              refine xc_cons (xh_eq_T rfl (XI_lit (by decide +kernel)) c276) ?_
              refine xc_cons (xh_lt_T (XI_lit (by decide +kernel)) rfl c333) ?_
              refine xc_cons (xh_lt_T (XI_lit (by decide +kernel)) rfl c334) ?_
              refine xc_cons (xh_eq_F rfl (XI_lit (by decide +kernel)) c335) ?_
              refine xc_cons (xh_eq_F rfl (XI_lit (by decide +kernel)) c336) ?_
              refine xc_cons (xh_eq_T rfl (XI_lit (by decide +kernel)) c337) ?_
              refine xc_cons (xh_eq_F rfl (XI_lit (by decide +kernel)) c338) ?_
              refine xc_cons (xh_ge_T rfl (XI_lit (by decide +kernel)) c339) ?_
              refine xc_cons (xh_eq_F rfl (XI_lit (by decide +kernel)) c340) ?_
              refine xc_cons (xh_le_T rfl (XI_lit (by decide +kernel)) c341) ?_
              refine xc_cons (xh_ne_T rfl (XI_lit (by decide +kernel)) c342) ?_
              refine xc_cons (xh_gt_T (XI_lit (by decide +kernel)) rfl c343) ?_
              exact xc_nil
            ·
              have c344 : xhid ((1 : Int) < XI r (.arg 49)) := ((by have z0 : (3 : Int) < XI r (.arg 49) := c278; omega) : (1 : Int) < XI r (.arg 49))
              have c345 : xhid ((2 : Int) < XI r (.arg 49)) := ((by have z0 : (3 : Int) < XI r (.arg 49) := c278; omega) : (2 : Int) < XI r (.arg 49))
              have c346 : xhid ((3 : Int) < XI r (.arg 49)) := ((by have z0 : (3 : Int) < XI r (.arg 49) := c278; omega) : (3 : Int) < XI r (.arg 49))
              have c347 : xhid (¬ (XI r (.arg 2) = (0 : Int))) := ((by have z0 : ¬ (XI r (.arg 2) = (0 : Int)) := c329; have z1 : -2147483648 ≤ XI r (.arg 2) := b2; have z2 : XI r (.arg 2) < 2147483648 := d2; omega) : ¬ (XI r (.arg 2) = (0 : Int)))
              have c348 : xhid (¬ (XI r (.arg 2) = (8 : Int))) := ((by have z0 : XI r (.arg 2) = (16 : Int) := c326; have z1 : -2147483648 ≤ XI r (.arg 2) := b2; have z2 : XI r (.arg 2) < 2147483648 := d2; omega) : ¬ (XI r (.arg 2) = (8 : Int)))
              have c349 : xhid (XI r (.arg 2) = (16 : Int)) := ((by have z0 : XI r (.arg 2) = (16 : Int) := c326; have z1 : -2147483648 ≤ XI r (.arg 2) := b2; have z2 : XI r (.arg 2) < 2147483648 := d2; omega) : XI r (.arg 2) = (16 : Int))
              have c350 : xhid (¬ (XI r (.arg 2) = (0 : Int))) := ((by have z0 : XI r (.arg 2) = (16 : Int) := c349; have z1 : -2147483648 ≤ XI r (.arg 2) := b2; have z2 : XI r (.arg 2) < 2147483648 := d2; omega) : ¬ (XI r (.arg 2) = (0 : Int)))
              have c351 : xhid ((0 : Int) ≤ XI r (.arg 3)) := ((by have z0 : ¬ (XI r (.arg 3) ≤ (24 : Int)) := c330; have z1 : -2147483648 ≤ XI r (.arg 3) := b3; have z2 : XI r (.arg 3) < 2147483648 := d3; omega) : (0 : Int) ≤ XI r (.arg 3))
              have c352 : xhid (¬ (XI r (.arg 2) = (0 : Int))) := ((by have z0 : ¬ (XI r (.arg 2) = (0 : Int)) := c350; have z1 : -2147483648 ≤ XI r (.arg 2) := b2; have z2 : XI r (.arg 2) < 2147483648 := d2; omega) : ¬ (XI r (.arg 2) = (0 : Int)))
              have c353 : xhid (¬ (XI r (.arg 3) ≤ (24 : Int))) := ((by have z0 : ¬ (XI r (.arg 3) ≤ (24 : Int)) := c330; have z1 : -2147483648 ≤ XI r (.arg 3) := b3; have z2 : XI r (.arg 3) < 2147483648 := d3; omega) : ¬ (XI r (.arg 3) ≤ (24 : Int)))
              have c354 : xhid (XI r (.sub (.arg 49) (.int 6)) < (6 : Int)) := ((by omega) : XI r (.sub (.arg 49) (.int 6)) < (6 : Int))
              refine ⟨171, _, ?_, lf_34_27⟩
              refine xc_cons (xh_gt_F (XI_lit (by decide +kernel)) rfl h0) ?_
              refine xc_cons (xh_lt_T (XI_lit (by decide +kernel)) rfl h1) ?_
              refine xc_cons (xh_eq_T rfl (XI_lit (by decide +kernel)) hk) ?_
              refine xc_cons (xh_lt_T (XI_lit (by decide +kernel)) rfl c1) ?_
              refine xc_cons (xh_eq_T rfl (XI_lit (by decide +kernel)) c276) ?_
              refine xc_cons (xh_lt_T (XI_lit (by decide +kernel)) rfl c277) ?_
              refine xc_cons (xh_lt_T (XI_lit (by decide +kernel)) rfl c278) ?_
              refine xc_cons (xh_eq_F rfl (XI_lit (by decide +kernel)) c279) ?_
              refine xc_cons (xh_eq_F rfl (XI_lit (by decide +kernel)) c291) ?_
              refine xc_cons (xh_eq_T rfl (XI_lit (by decide +kernel)) c326) ?_
              refine xc_cons (xh_eq_F rfl (XI_lit (by decide +kernel)) c327) ?_
              refine xc_cons (xh_ge_T rfl (XI_lit (by decide +kernel)) c328) ?_
              refine xc_cons (xh_eq_F rfl (XI_lit (by decide +kernel)) c329) ?_
              refine xc_cons (xh_le_F rfl (XI_lit (by decide +kernel)) c330) ?_
              refine xc_cons (xh_lt_T (XI_lit (by decide +kernel)) rfl c344) ?_
              refine xc_cons (xh_eq_T rfl (XI_lit (by decide +kernel)) c276) ?_
              refine xc_cons (xh_lt_T (XI_lit (by decide +kernel)) rfl c345) ?_
              refine xc_cons (xh_lt_T (XI_lit (by decide +kernel)) rfl c346) ?_
              refine xc_cons (xh_eq_F rfl (XI_lit (by decide +kernel)) c347) ?_
              refine xc_cons (xh_eq_F rfl (XI_lit (by decide +kernel)) c348) ?_
              refine xc_cons (xh_eq_T rfl (XI_lit (by decide +kernel)) c349) ?_
              refine xc_cons (xh_eq_F rfl (XI_lit (by decide +kernel)) c350) ?_
              refine xc_cons (xh_ge_T rfl (XI_lit (by decide +kernel)) c351) ?_
              refine xc_cons (xh_eq_F rfl (XI_lit (by decide +kernel)) c352) ?_
              refine xc_cons (xh_le_F rfl (XI_lit (by decide +kernel)) c353) ?_
              refine xc_cons (xh_gt_T (XI_lit (by decide +kernel)) rfl c354) ?_
              exact xc_nil
          ·
            have c355 : xhid ((1 : Int) < XI r (.arg 49)) := ((by have z0 : (3 : Int) < XI r (.arg 49) := c278; omega) : (1 : Int) < XI r (.arg 49))
            have c356 : xhid ((2 : Int) < XI r (.arg 49)) := ((by have z0 : (3 : Int) < XI r (.arg 49) := c278; omega) : (2 : Int) < XI r (.arg 49))
            have c357 : xhid ((3 : Int) < XI r (.arg 49)) := ((by have z0 : (3 : Int) < XI r (.arg 49) := c278; omega) : (3 : Int) < XI r (.arg 49))
            have c358 : xhid (¬ (XI r (.arg 2) = (0 : Int))) := ((by have z0 : ¬ (XI r (.arg 2) = (0 : Int)) := c327; have z1 : -2147483648 ≤ XI r (.arg 2) := b2; have z2 : XI r (.arg 2) < 2147483648 := d2; omega) : ¬ (XI r (.arg 2) = (0 : Int)))
            have c359 : xhid (¬ (XI r (.arg 2) = (8 : Int))) := ((by have z0 : XI r (.arg 2) = (16 : Int) := c326; have z1 : -2147483648 ≤ XI r (.arg 2) := b2; have z2 : XI r (.arg 2) < 2147483648 := d2; omega) : ¬ (XI r (.arg 2) = (8 : Int)))
            have c360 : xhid (XI r (.arg 2) = (16 : Int)) := ((by have z0 : XI r (.arg 2) = (16 : Int) := c326; have z1 : -2147483648 ≤ XI r (.arg 2) := b2; have z2 : XI r (.arg 2) < 2147483648 := d2; omega) : XI r (.arg 2) = (16 : Int))
            have c361 : xhid (¬ (XI r (.arg 2) = (0 : Int))) := ((by have z0 : XI r (.arg 2) = (16 : Int) := c360; have z1 : -2147483648 ≤ XI r (.arg 2) := b2; have z2 : XI r (.arg 2) < 2147483648 := d2; omega) : ¬ (XI r (.arg 2) = (0 : Int)))
            have c362 : xhid (¬ ((0 : Int) ≤ XI r (.arg 3))) := ((by have z0 : ¬ ((0 : Int) ≤ XI r (.arg 3)) := c328; have z1 : -2147483648 ≤ XI r (.arg 3) := b3; have z2 : XI r (.arg 3) < 2147483648 := d3; omega) : ¬ ((0 : Int) ≤ XI r (.arg 3)))
            have c363 : xhid (XI r (.sub (.arg 49) (.int 6)) < (6 : Int)) := ((by omega) : XI r (.sub (.arg 49) (.int 6)) < (6 : Int))
            refine ⟨161, _, ?_, lf_34_28⟩
            refine xc_cons (xh_gt_F (XI_lit (by decide +kernel)) rfl h0) ?_
            refine xc_cons (xh_lt_T (XI_lit (by decide +kernel)) rfl h1) ?_
            refine xc_cons (xh_eq_T rfl (XI_lit (by decide +kernel)) hk) ?_
            refine xc_cons (xh_lt_T (XI_lit (by decide +kernel)) rfl c1) ?_
            refine xc_cons (xh_eq_T rfl (XI_lit (by decide +kernel)) c276) ?_
            refine xc_cons (xh_lt_T (XI_lit (by decide +kernel)) rfl c277) ?_
            refine xc_cons (xh_lt_T (XI_lit (by decide +kernel)) rfl c278) ?_
            refine xc_cons (xh_eq_F rfl (XI_lit (by decide +kernel)) c279) ?_
            refine xc_cons (xh_eq_F rfl (XI_lit (by decide +kernel)) c291) ?_
            refine xc_cons (xh_eq_T rfl (XI_lit (by decide +kernel)) c326) ?_
            refine xc_cons (xh_eq_F rfl (XI_lit (by decide +kernel)) c327) ?_
            refine xc_cons (xh_ge_F rfl (XI_lit (by decide +kernel)) c328) ?_
            refine xc_cons (xh_lt_T (XI_lit (by decide +kernel)) rfl c355) ?_
            refine xc_cons (xh_eq_T rfl (XI_lit (by decide +kernel)) c276) ?_
            refine xc_cons (xh_lt_T (XI_lit (by decide +kernel)) rfl c356) ?_
            refine xc_cons (xh_lt_T (XI_lit (by decide +kernel)) rfl c357) ?_
            refine xc_cons (xh_eq_F rfl (XI_lit (by decide +kernel)) c358) ?_
            refine xc_cons (xh_eq_F rfl (XI_lit (by decide +kernel)) c359) ?_
            refine xc_cons (xh_eq_T rfl (XI_lit (by decide +kernel)) c360) ?_
            refine xc_cons (xh_eq_F rfl (XI_lit (by decide +kernel)) c361) ?_
            refine xc_cons (xh_ge_F rfl (XI_lit (by decide +kernel)) c362) ?_
            refine xc_cons (xh_gt_T (XI_lit (by decide +kernel)) rfl c363) ?_
            exact xc_nil
        ·
          refine (Classical.em (XI r (.arg 2) = (32 : Int))).elim (fun (c364 : xhid (XI r (.arg 2) = (32 : Int))) => ?_) (fun (c364 : xhid (¬ (XI r (.arg 2) = (32 : Int)))) => ?_)
          ·
            have c365 : xhid (¬ (XI r (.arg 2) = (0 : Int))) := ((by have z0 : XI r (.arg 2) = (32 : Int) := c364; have z1 : -2147483648 ≤ XI r (.arg 2) := b2; have z2 : XI r (.arg 2) < 2147483648 := d2; omega) : ¬ (XI r (.arg 2) = (0 : Int)))
            refine (Classical.em ((0 : Int) ≤ XI r (.arg 3))).elim (fun (c366 : xhid ((0 : Int) ≤ XI r (.arg 3))) => ?_) (fun (c366 : xhid (¬ ((0 : Int) ≤ XI r (.arg 3)))) => ?_)
            ·
              have c367 : xhid (¬ (XI r (.arg 2) = (0 : Int))) := ((by have z0 : ¬ (XI r (.arg 2) = (0 : Int)) := c365; have z1 : -2147483648 ≤ XI r (.arg 2) := b2; have z2 : XI r (.arg 2) < 2147483648 := d2; omega) : ¬ (XI r (.arg 2) = (0 : Int)))
              refine (Classical.em (XI r (.arg 3) ≤ (24 : Int))).elim (fun (c368 : xhid (XI r (.arg 3) ≤ (24 : Int))) => ?_) (fun (c368 : xhid (¬ (XI r (.arg 3) ≤ (24 : Int)))) => ?_)
              ·
                have c369 : xhid (¬ XI r (.arg 2) = (0 : Int)) := ((by have z0 : ¬ (XI r (.arg 2) = (0 : Int)) := c367; have z1 : -2147483648 ≤ XI r (.arg 2) := b2; have z2 : XI r (.arg 2) < 2147483648 := d2; omega) : ¬ XI r (.arg 2) = (0 : Int))
                have c370 : xhid ((1 : Int) < XI r (.arg 49)) := ((by have z0 : (3 : Int) < XI r (.arg 49) := c278; omega) : (1 : Int) < XI r (.arg 49))
                have c371 : xhid ((2 : Int) < XI r (.arg 49)) := ((by have z0 : (3 : Int) < XI r (.arg 49) := c278; omega) : (2 : Int) < XI r (.arg 49))
                have c372 : xhid ((3 : Int) < XI r (.arg 49)) := ((by have z0 : (3 : Int) < XI r (.arg 49) := c278; omega) : (3 : Int) < XI r (.arg 49))
                have c373 : xhid (¬ (XI r (.arg 2) = (0 : Int))) := ((by have z0 : ¬ XI r (.arg 2) = (0 : Int) := c369; have z1 : -2147483648 ≤ XI r (.arg 2) := b2; have z2 : XI r (.arg 2) < 2147483648 := d2; omega) : ¬ (XI r (.arg 2) = (0 : Int)))
                have c374 : xhid (¬ (XI r (.arg 2) = (8 : Int))) := ((by have z0 : XI r (.arg 2) = (32 : Int) := c364; have z1 : -2147483648 ≤ XI r (.arg 2) := b2; have z2 : XI r (.arg 2) < 2147483648 := d2; omega) : ¬ (XI r (.arg 2) = (8 : Int)))
                have c375 : xhid (¬ (XI r (.arg 2) = (16 : Int))) := ((by have z0 : XI r (.arg 2) = (32 : Int) := c364; have z1 : -2147483648 ≤ XI r (.arg 2) := b2; have z2 : XI r (.arg 2) < 2147483648 := d2; omega) : ¬ (XI r (.arg 2) = (16 : Int)))
                have c376 : xhid (XI r (.arg 2) = (32 : Int)) := ((by have z0 : XI r (.arg 2) = (32 : Int) := c364; have z1 : -2147483648 ≤ XI r (.arg 2) := b2; have z2 : XI r (.arg 2) < 2147483648 := d2; omega) : XI r (.arg 2) = (32 : Int))
                have c377 : xhid (¬ (XI r (.arg 2) = (0 : Int))) := ((by have z0 : XI r (.arg 2) = (32 : Int) := c376; have z1 : -2147483648 ≤ XI r (.arg 2) := b2; have z2 : XI r (.arg 2) < 2147483648 := d2; omega) : ¬ (XI r (.arg 2) = (0 : Int)))
                have c378 : xhid ((0 : Int) ≤ XI r (.arg 3)) := ((by have z0 : (0 : Int) ≤ XI r (.arg 3) := c366; have z1 : -2147483648 ≤ XI r (.arg 3) := b3; have z2 : XI r (.arg 3) < 2147483648 := d3; omega) : (0 : Int) ≤ XI r (.arg 3))
                have c379 : xhid (¬ (XI r (.arg 2) = (0 : Int))) := ((by have z0 : ¬ (XI r (.arg 2) = (0 : Int)) := c377; have z1 : -2147483648 ≤ XI r (.arg 2) := b2; have z2 : XI r (.arg 2) < 2147483648 := d2; omega) : ¬ (XI r (.arg 2) = (0 : Int)))
                have c380 : xhid (XI r (.arg 3) ≤ (24 : Int)) := ((by have z0 : XI r (.arg 3) ≤ (24 : Int) := c368; have z1 : -2147483648 ≤ XI r (.arg 3) := b3; have z2 : XI r (.arg 3) < 2147483648 := d3; omega) : XI r (.arg 3) ≤ (24 : Int))
                have c381 : xhid (¬ XI r (.arg 2) = (0 : Int)) := ((by have z0 : ¬ (XI r (.arg 2) = (0 : Int)) := c379; have z1 : -2147483648 ≤ XI r (.arg 2) := b2; have z2 : XI r (.arg 2) < 2147483648 := d2; omega) : ¬ XI r (.arg 2) = (0 : Int))
                have c382 : xhid (XI r (.sub (.arg 49) (.int 6)) < (6 : Int)) := ((by omega) : XI r (.sub (.arg 49) (.int 6)) < (6 : Int))
                refine ⟨813, _, ?_, lf_34_29⟩
                refine xc_cons (xh_gt_F (XI_lit (by decide +kernel)) rfl h0) ?_
                refine xc_cons (xh_lt_T (XI_lit (by decide +kernel)) rfl h1) ?_
                refine xc_cons (xh_eq_T rfl (XI_lit (by decide +kernel)) hk) ?_
                refine xc_cons (xh_lt_T (XI_lit (by decide +kernel)) rfl c1) ?_
                refine xc_cons (xh_eq_T rfl (XI_lit (by decide +kernel)) c276) ?_
                refine xc_cons (xh_lt_T (XI_lit (by decide +kernel)) rfl c277) ?_
                refine xc_cons (xh_lt_T (XI_lit (by decide +kernel)) rfl c278) ?_
                refine xc_cons (xh_eq_F rfl (XI_lit (by decide +kernel)) c279) ?_
                refine xc_cons (xh_eq_F rfl (XI_lit (by decide +kernel)) c291) ?_
                refine xc_cons (xh_eq_F rfl (XI_lit (by decide +kernel)) c326) ?_
                refine xc_cons (xh_eq_T rfl (XI_lit (by decide +kernel)) c364) ?_
                refine xc_cons (xh_eq_F rfl (XI_lit (by decide +kernel)) c365) ?_
                refine xc_cons (xh_ge_T rfl (XI_lit (by decide +kernel)) c366) ?_
                refine xc_cons (xh_eq_F rfl (XI_lit (by decide +kernel)) c367) ?_
                refine xc_cons (xh_le_T rfl (XI_lit (by decide +kernel)) c368) ?_
                refine xc_cons (xh_ne_T rfl (XI_lit (by decide +kernel)) c369) ?_
                refine xc_cons (xh_lt_T (XI_lit (by decide +kernel)) rfl c370) ?_
                refine xc_cons (xh_eq_T rfl (XI_lit (by decide +kernel)) c276) ?_
                refine xc_cons (xh_lt_T (XI_lit (by decide +kernel)) rfl c371) ?_
                refine xc_cons (xh_lt_T (XI_lit (by decide +kernel)) rfl c372) ?_
                refine xc_cons (xh_eq_F rfl (XI_lit (by decide +kernel)) c373) ?_
                refine xc_cons (xh_eq_F rfl (XI_lit (by decide +kernel)) c374) ?_
                refine xc_cons (xh_eq_F rfl (XI_lit (by decide +kernel)) c375) ?_
                refine xc_cons (xh_eq_T rfl (XI_lit (by decide +kernel)) c376) ?_
                refine xc_cons (xh_eq_F rfl (XI_lit (by decide +kernel)) c377) ?_
                refine xc_cons (xh_ge_T rfl (XI_lit (by decide +kernel)) c378) ?_
                refine xc_cons (xh_eq_F rfl (XI_lit (by decide +kernel)) c379) ?_
                refine xc_cons (xh_le_T rfl (XI_lit (by decide +kernel)) c380) ?_
                refine xc_cons (xh_ne_T rfl (XI_lit (by decide +kernel)) c381) ?_
                refine xc_cons (xh_gt_T (XI_lit (by decide +kernel)) rfl c382) ?_
                exact xc_nil
              ·
                have c383 : xhid ((1 : Int) < XI r (.arg 49)) := ((by have z0 : (3 : Int) < XI r (.arg 49) := c278; omega) : (1 : Int) < XI r (.arg 49))
                have c384 : xhid ((2 : Int) < XI r (.arg 49)) := ((by have z0 : (3 : Int) < XI r (.arg 49) := c278; omega) : (2 : Int) < XI r (.arg 49))
                have c385 : xhid ((3 : Int) < XI r (.arg 49)) := ((by have z0 : (3 : Int) < XI r (.arg 49) := c278; omega) : (3 : Int) < XI r (.arg 49))
                have c386 : xhid (¬ (XI r (.arg 2) = (0 : Int))) := ((by have z0 : ¬ (XI r (.arg 2) = (0 : Int)) := c367; have z1 : -2147483648 ≤ XI r (.arg 2) := b2; have z2 : XI r (.arg 2) < 2147483648 := d2; omega) : ¬ (XI r (.arg 2) = (0 : Int)))
                have c387 : xhid (¬ (XI r (.arg 2) = (8 : Int))) := ((by have z0 : XI r (.arg 2) = (32 : Int) := c364; have z1 : -2147483648 ≤ XI r (.arg 2) := b2; have z2 : XI r (.arg 2) < 2147483648 := d2; omega) : ¬ (XI r (.arg 2) = (8 : Int)))
                have c388 : xhid (¬ (XI r (.arg 2) = (16 : Int))) := ((by have z0 : XI r (.arg 2) = (32 : Int) := c364; have z1 : -2147483648 ≤ XI r (.arg 2) := b2; have z2 : XI r (.arg 2) < 2147483648 := d2; omega) : ¬ (XI r (.arg 2) = (16 : Int)))
                have c389 : xhid (XI r (.arg 2) = (32 : Int)) := ((by have z0 : XI r (.arg 2) = (32 : Int) := c364; have z1 : -2147483648 ≤ XI r (.arg 2) := b2; have z2 : XI r (.arg 2) < 2147483648 := d2; omega) : XI r (.arg 2) = (32 : Int))
                have c390 : xhid (¬ (XI r (.arg 2) = (0 : Int))) := ((by have z0 : XI r (.arg 2) = (32 : Int) := c389; have z1 : -2147483648 ≤ XI r (.arg 2) := b2; have z2 : XI r (.arg 2) < 2147483648 := d2; omega) : ¬ (XI r (.arg 2) = (0 : Int)))
                have c391 : xhid ((0 : Int) ≤ XI r (.arg 3)) := ((by have z0 : ¬ (XI r (.arg 3) ≤ (24 : Int)) := c368; have z1 : -2147483648 ≤ XI r (.arg 3) := b3; have z2 : XI r (.arg 3) < 2147483648 := d3; omega) : (0 : Int) ≤ XI r (.arg 3))
                have c392 : xhid (¬ (XI r (.arg 2) = (0 : Int))) := ((by have z0 : ¬ (XI r (.arg 2) = (0 : Int)) := c390; have z1 : -2147483648 ≤ XI r (.arg 2) := b2; have z2 : XI r (.arg 2) < 2147483648 := d2; omega) : ¬ (XI r (.arg 2) = (0 : Int)))
                have c393 : xhid (¬ (XI r (.arg 3) ≤ (24 : Int))) := ((by have z0 : ¬ (XI r (.arg 3) ≤ (24 : Int)) := c368; have z1 : -2147483648 ≤ XI r (.arg 3) := b3; have z2 : XI r (.arg 3) < 2147483648 := d3; omega) : ¬ (XI r (.arg 3) ≤ (24 : Int)))
                have c394 : xhid (XI r (.sub (.arg 49) (.int 6)) < (6 : Int)) := ((by omega) : XI r (.sub (.arg 49) (.int 6)) < (6 : Int))
                refine ⟨177, _, ?_, lf_34_30⟩
                refine xc_cons (xh_gt_F (XI_lit (by decide +kernel)) rfl h0) ?_
                refine xc_cons (xh_lt_T (XI_lit (by decide +kernel)) rfl h1) ?_
                refine xc_cons (xh_eq_T rfl (XI_lit (by decide +kernel)) hk) ?_
                refine xc_cons (xh_lt_T (XI_lit (by decide +kernel)) rfl c1) ?_
                refine xc_cons (xh_eq_T rfl (XI_lit (by decide +kernel)) c276) ?_
                refine xc_cons (xh_lt_T (XI_lit (by decide +kernel)) rfl c277) ?_
                refine xc_cons (xh_lt_T (XI_lit (by decide +kernel)) rfl c278) ?_
                refine xc_cons (xh_eq_F rfl (XI_lit (by decide +kernel)) c279) ?_
                refine xc_cons (xh_eq_F rfl (XI_lit (by decide +kernel)) c291) ?_
                refine xc_cons (xh_eq_F rfl (XI_lit (by decide +kernel)) c326) ?_
                refine xc_cons (xh_eq_T rfl (XI_lit (by decide +kernel)) c364) ?_
                refine xc_cons (xh_eq_F rfl (XI_lit (by decide +kernel)) c365) ?_
                refine xc_cons (xh_ge_T rfl (XI_lit (by decide +kernel)) c366) ?_
                refine xc_cons (xh_eq_F rfl (XI_lit (by decide +kernel)) c367) ?_
                refine xc_cons (xh_le_F rfl (XI_lit (by decide +kernel)) c368) ?_
                refine xc_cons (xh_lt_T (XI_lit (by decide +kernel)) rfl c383) ?_
                refine xc_cons (xh_eq_T rfl (XI_lit (by decide +kernel)) c276) ?_
                refine xc_cons (xh_lt_T (XI_lit (by decide +kernel)) rfl c384) ?_
                refine xc_cons (xh_lt_T (XI_lit (by decide +kernel)) rfl c385) ?_
                refine xc_cons (xh_eq_F rfl (XI_lit (by decide +kernel)) c386) ?_
                refine xc_cons (xh_eq_F rfl (XI_lit (by decide +kernel)) c387) ?_
                refine xc_cons (xh_eq_F rfl (XI_lit (by decide +kernel)) c388) ?_
                refine xc_cons (xh_eq_T rfl (XI_lit (by decide +kernel)) c389) ?_
                refine xc_cons (xh_eq_F rfl (XI_lit (by decide +kernel)) c390) ?_
                refine xc_cons (xh_ge_T rfl (XI_lit (by decide +kernel)) c391) ?_
                refine xc_cons (xh_eq_F rfl (XI_lit (by decide +kernel)) c392) ?_
                refine xc_cons (xh_le_F rfl (XI_lit (by decide +kernel)) c393) ?_
                refine xc_cons (xh_gt_T (XI_lit (by decide +kernel)) rfl c394) ?_
                exact xc_nil
            ·
              have c395 : xhid ((1 : Int) < XI r (.arg 49)) := ((by have z0 : (3 : Int) < XI r (.arg 49) := c278; omega) : (1 : Int) < XI r (.arg 49))
              have c396 : xhid ((2 : Int) < XI r (.arg 49)) := ((by have z0 : (3 : Int) < XI r (.arg 49) := c278; omega) : (2 : Int) < XI r (.arg 49))
              have c397 : xhid ((3 : Int) < XI r (.arg 49)) := ((by have z0 : (3 : Int) < XI r (.arg 49) := c278; omega) : (3 : Int) < XI r (.arg 49))
              have c398 : xhid (¬ (XI r (.arg 2) = (0 : Int))) := ((by have z0 : ¬ (XI r (.arg 2) = (0 : Int)) := c365; have z1 : -2147483648 ≤ XI r (.arg 2) := b2; have z2 : XI r (.arg 2) < 2147483648 := d2; omega) : ¬ (XI r (.arg 2) = (0 : Int)))
              have c399 : xhid (¬ (XI r (.arg 2) = (8 : Int))) := ((by have z0 : XI r (.arg 2) = (32 : Int) := c364; have z1 : -2147483648 ≤ XI r (.arg 2) := b2; have z2 : XI r (.arg 2) < 2147483648 := d2; omega) : ¬ (XI r (.arg 2) = (8 : Int)))
              have c400 : xhid (¬ (XI r (.arg 2) = (16 : Int))) := ((by have z0 : XI r (.arg 2) = (32 : Int) := c364; have z1 : -2147483648 ≤ XI r (.arg 2) := b2; have z2 : XI r (.arg 2) < 2147483648 := d2; omega) : ¬ (XI r (.arg 2) = (16 : Int)))
              have c401 : xhid (XI r (.arg 2) = (32 : Int)) := ((by have z0 : XI r (.arg 2) = (32 : Int) := c364; have z1 : -2147483648 ≤ XI r (.arg 2) := b2; have z2 : XI r (.arg 2) < 2147483648 := d2; omega) : XI r (.arg 2) = (32 : Int))
              have c402 : xhid (¬ (XI r (.arg 2) = (0 : Int))) := ((by have z0 : XI r (.arg 2) = (32 : Int) := c401; have z1 : -2147483648 ≤ XI r (.arg 2) := b2; have z2 : XI r (.arg 2) < 2147483648 := d2; omega) : ¬ (XI r (.arg 2) = (0 : Int)))
              have c403 : xhid (¬ ((0 : Int) ≤ XI r (.arg 3))) := ((by have z0 : ¬ ((0 : Int) ≤ XI r (.arg 3)) := c366; have z1 : -2147483648 ≤ XI r (.arg 3) := b3; have z2 : XI r (.arg 3) < 2147483648 := d3; omega) : ¬ ((0 : Int) ≤ XI r (.arg 3)))
              have c404 : xhid (XI r (.sub (.arg 49) (.int 6)) < (6 : Int)) := ((by omega) : XI r (.sub (.arg 49) (.int 6)) < (6 : Int))
              refine ⟨167, _, ?_, lf_34_31⟩
              refine xc_cons (xh_gt_F (XI_lit (by decide +kernel)) rfl h0) ?_
              refine xc_cons (xh_lt_T (XI_lit (by decide +kernel)) rfl h1) ?_
              refine xc_cons (xh_eq_T rfl (XI_lit (by decide +kernel)) hk) ?_
              refine xc_cons (xh_lt_T (XI_lit (by decide +kernel)) rfl c1) ?_
              refine xc_cons (xh_eq_T rfl (XI_lit (by decide +kernel)) c276) ?_
              refine xc_cons (xh_lt_T (XI_lit (by decide +kernel)) rfl c277) ?_
              refine xc_cons (xh_lt_T (XI_lit (by decide +kernel)) rfl c278) ?_
              refine xc_cons (xh_eq_F rfl (XI_lit (by decide +kernel)) c279) ?_
              refine xc_cons (xh_eq_F rfl (XI_lit (by decide +kernel)) c291) ?_
              refine xc_cons (xh_eq_F rfl (XI_lit (by decide +kernel)) c326) ?_
              refine xc_cons (xh_eq_T rfl (XI_lit (by decide +kernel)) c364) ?_
              refine xc_cons (xh_eq_F rfl (XI_lit (by decide +kernel)) c365) ?_
              refine xc_cons (xh_ge_F rfl (XI_lit (by decide +kernel)) c366) ?_
              refine xc_cons (xh_lt_T (XI_lit (by decide +kernel)) rfl c395) ?_
              refine xc_cons (xh_eq_T rfl (XI_lit (by decide +kernel)) c276) ?_
              refine xc_cons (xh_lt_T (XI_lit (by decide +kernel)) rfl c396) ?_
              refine xc_cons (xh_lt_T (XI_lit (by decide +kernel)) rfl c397) ?_
              refine xc_cons (xh_eq_F rfl (XI_lit (by decide +kernel)) c398) ?_
              refine xc_cons (xh_eq_F rfl (XI_lit (by decide +kernel)) c399) ?_
              refine xc_cons (xh_eq_F rfl (XI_lit (by decide +kernel)) c400) ?_
              refine xc_cons (xh_eq_T rfl (XI_lit (by decide +kernel)) c401) ?_
              refine xc_cons (xh_eq_F rfl (XI_lit (by decide +kernel)) c402) ?_
              refine xc_cons (xh_ge_F rfl (XI_lit (by decide +kernel)) c403) ?_
              refine xc_cons (xh_gt_T (XI_lit (by decide +kernel)) rfl c404) ?_
              exact xc_nil
          ·
            have c405 : xhid ((1 : Int) < XI r (.arg 49)) := ((by have z0 : (3 : Int) < XI r (.arg 49) := c278; omega) : (1 : Int) < XI r (.arg 49))
            have c406 : xhid ((2 : Int) < XI r (.arg 49)) := ((by have z0 : (3 : Int) < XI r (.arg 49) := c278; omega) : (2 : Int) < XI r (.arg 49))
            have c407 : xhid ((3 : Int) < XI r (.arg 49)) := ((by have z0 : (3 : Int) < XI r (.arg 49) := c278; omega) : (3 : Int) < XI r (.arg 49))
            have c408 : xhid (¬ (XI r (.arg 2) = (0 : Int))) := ((by have z0 : ¬ (XI r (.arg 2) = (0 : Int)) := c279; have z1 : -2147483648 ≤ XI r (.arg 2) := b2; have z2 : XI r (.arg 2) < 2147483648 := d2; omega) : ¬ (XI r (.arg 2) = (0 : Int)))
            have c409 : xhid (¬ (XI r (.arg 2) = (8 : Int))) := ((by have z0 : ¬ (XI r (.arg 2) = (8 : Int)) := c291; have z1 : -2147483648 ≤ XI r (.arg 2) := b2; have z2 : XI r (.arg 2) < 2147483648 := d2; omega) : ¬ (XI r (.arg 2) = (8 : Int)))
            have c410 : xhid (¬ (XI r (.arg 2) = (16 : Int))) := ((by have z0 : ¬ (XI r (.arg 2) = (16 : Int)) := c326; have z1 : -2147483648 ≤ XI r (.arg 2) := b2; have z2 : XI r (.arg 2) < 2147483648 := d2; omega) : ¬ (XI r (.arg 2) = (16 : Int)))
            have c411 : xhid (¬ (XI r (.arg 2) = (32 : Int))) := ((by have z0 : ¬ (XI r (.arg 2) = (32 : Int)) := c364; have z1 : -2147483648 ≤ XI r (.arg 2) := b2; have z2 : XI r (.arg 2) < 2147483648 := d2; omega) : ¬ (XI r (.arg 2) = (32 : Int)))
            have c412 : xhid (XI r (.sub (.arg 49) (.int 6)) < (6 : Int)) := ((by omega) : XI r (.sub (.arg 49) (.int 6)) < (6 : Int))
            refine ⟨159, _, ?_, lf_34_32⟩
            refine xc_cons (xh_gt_F (XI_lit (by decide +kernel)) rfl h0) ?_
            refine xc_cons (xh_lt_T (XI_lit (by decide +kernel)) rfl h1) ?_
            refine xc_cons (xh_eq_T rfl (XI_lit (by decide +kernel)) hk) ?_
            refine xc_cons (xh_lt_T (XI_lit (by decide +kernel)) rfl c1) ?_
            refine xc_cons (xh_eq_T rfl (XI_lit (by decide +kernel)) c276) ?_
            refine xc_cons (xh_lt_T (XI_lit (by decide +kernel)) rfl c277) ?_
            refine xc_cons (xh_lt_T (XI_lit (by decide +kernel)) rfl c278) ?_
            refine xc_cons (xh_eq_F rfl (XI_lit (by decide +kernel)) c279) ?_
            refine xc_cons (xh_eq_F rfl (XI_lit (by decide +kernel)) c291) ?_
            refine xc_cons (xh_eq_F rfl (XI_lit (by decide +kernel)) c326) ?_
            refine xc_cons (xh_eq_F rfl (XI_lit (by decide +kernel)) c364) ?_
            refine xc_cons (xh_lt_T (XI_lit (by decide +kernel)) rfl c405) ?_
            refine xc_cons (xh_eq_T rfl (XI_lit (by decide +kernel)) c276) ?_
            refine xc_cons (xh_lt_T (XI_lit (by decide +kernel)) rfl c406) ?_
            refine xc_cons (xh_lt_T (XI_lit (by decide +kernel)) rfl c407) ?_
            refine xc_cons (xh_eq_F rfl (XI_lit (by decide +kernel)) c408) ?_
            refine xc_cons (xh_eq_F rfl (XI_lit (by decide +kernel)) c409) ?_
            refine xc_cons (xh_eq_F rfl (XI_lit (by decide +kernel)) c410) ?_
            refine xc_cons (xh_eq_F rfl (XI_lit (by decide +kernel)) c411) ?_
            refine xc_cons (xh_gt_T (XI_lit (by decide +kernel)) rfl c412) ?_
            exact xc_nil
  refine (Classical.em (XI r (.arg 1) = (3 : Int))).elim (fun (c413 : xhid (XI r (.arg 1) = (3 : Int))) => ?_) (fun (c413 : xhid (¬ (XI r (.arg 1) = (3 : Int)))) => ?_)
  ·
    have c414 : xhid ((2 : Int) < XI r (.arg 49)) := ((by have z0 : ¬ (XI r (.sub (.arg 49) (.int 6)) < (0 : Int)) := h0; omega) : (2 : Int) < XI r (.arg 49))
    have c415 : xhid ((3 : Int) < XI r (.arg 49)) := ((by have z0 : ¬ (XI r (.sub (.arg 49) (.int 6)) < (0 : Int)) := h0; omega) : (3 : Int) < XI r (.arg 49))
    refine (Classical.em (XI r (.arg 2) = (0 : Int))).elim (fun (c416 : xhid (XI r (.arg 2) = (0 : Int))) => ?_) (fun (c416 : xhid (¬ (XI r (.arg 2) = (0 : Int)))) => ?_)
    ·
      have c417 : xhid (XI r (.arg 2) = (0 : Int)) := ((by have z0 : XI r (.arg 2) = (0 : Int) := c416; have z1 : -2147483648 ≤ XI r (.arg 2) := b2; have z2 : XI r (.arg 2) < 2147483648 := d2; omega) : XI r (.arg 2) = (0 : Int))
      have c418 : xhid (XI r (.arg 2) = (0 : Int)) := ((by have z0 : XI r (.arg 2) = (0 : Int) := c417; have z1 : -2147483648 ≤ XI r (.arg 2) := b2; have z2 : XI r (.arg 2) < 2147483648 := d2; omega) : XI r (.arg 2) = (0 : Int))
      have c419 : xhid (¬ (¬ XI r (.arg 2) = (0 : Int))) := ((by have z0 : XI r (.arg 2) = (0 : Int) := c418; have z1 : -2147483648 ≤ XI r (.arg 2) := b2; have z2 : XI r (.arg 2) < 2147483648 := d2; omega) : ¬ (¬ XI r (.arg 2) = (0 : Int)))
      have c420 : xhid ((1 : Int) < XI r (.arg 49)) := ((by have z0 : (3 : Int) < XI r (.arg 49) := c415; omega) : (1 : Int) < XI r (.arg 49))
      have c421 : xhid ((2 : Int) < XI r (.arg 49)) := ((by have z0 : (3 : Int) < XI r (.arg 49) := c415; omega) : (2 : Int) < XI r (.arg 49))
      have c422 : xhid ((3 : Int) < XI r (.arg 49)) := ((by have z0 : (3 : Int) < XI r (.arg 49) := c415; omega) : (3 : Int) < XI r (.arg 49))
      have c423 : xhid (XI r (.arg 2) = (0 : Int)) := ((by have z0 : ¬ (¬ XI r (.arg 2) = (0 : Int)) := c419; have z1 : -2147483648 ≤ XI r (.arg 2) := b2; have z2 : XI r (.arg 2) < 2147483648 := d2; omega) : XI r (.arg 2) = (0 : Int))
      have c424 : xhid (XI r (.arg 2) = (0 : Int)) := ((by have z0 : XI r (.arg 2) = (0 : Int) := c423; have z1 : -2147483648 ≤ XI r (.arg 2) := b2; have z2 : XI r (.arg 2) < 2147483648 := d2; omega) : XI r (.arg 2) = (0 : Int))
      have c425 : xhid (XI r (.arg 2) = (0 : Int)) := ((by have z0 : XI r (.arg 2) = (0 : Int) := c424; have z1 : -2147483648 ≤ XI r (.arg 2) := b2; have z2 : XI r (.arg 2) < 2147483648 := d2; omega) : XI r (.arg 2) = (0 : Int))
      have c426 : xhid (¬ (¬ XI r (.arg 2) = (0 : Int))) := ((by have z0 : XI r (.arg 2) = (0 : Int) := c425; have z1 : -2147483648 ≤ XI r (.arg 2) := b2; have z2 : XI r (.arg 2) < 2147483648 := d2; omega) : ¬ (¬ XI r (.arg 2) = (0 : Int)))
      have c427 : xhid (XI r (.sub (.arg 49) (.int 6)) < (6 : Int)) := ((by omega) : XI r (.sub (.arg 49) (.int 6)) < (6 : Int))
      refine ⟨787, _, ?_, lf_34_33⟩
      refine xc_cons (xh_gt_F (XI_lit (by decide +kernel)) rfl h0) ?_
      refine xc_cons (xh_lt_T (XI_lit (by decide +kernel)) rfl h1) ?_
      refine xc_cons (xh_eq_T rfl (XI_lit (by decide +kernel)) hk) ?_
      refine xc_cons (xh_lt_T (XI_lit (by decide +kernel)) rfl c1) ?_
      refine xc_cons (xh_eq_T rfl (XI_lit (by decide +kernel)) c413) ?_
      refine xc_cons (xh_lt_T (XI_lit (by decide +kernel)) rfl c414) ?_
      refine xc_cons (xh_lt_T (XI_lit (by decide +kernel)) rfl c415) ?_
      refine xc_cons (xh_eq_T rfl (XI_lit (by decide +kernel)) c416) ?_
      refine xc_cons (xh_eq_T rfl (XI_lit (by decide +kernel)) c417) ?_
      refine xc_cons (xh_eq_T rfl (XI_lit (by decide +kernel)) c418) ?_
      refine xc_cons (xh_ne_F rfl (XI_lit (by decide +kernel)) c419) ?_
      refine xc_cons (xh_lt_T (XI_lit (by decide +kernel)) rfl c420) ?_
      refine xc_cons (xh_eq_T rfl (XI_lit (by decide +kernel)) c413) ?_
      refine xc_cons (xh_lt_T (XI_lit (by decide +kernel)) rfl c421) ?_
      refine xc_cons (xh_lt_T (XI_lit (by decide +kernel)) rfl c422) ?_
      refine xc_cons (xh_eq_T rfl (XI_lit (by decide +kernel)) c423) ?_
      refine xc_cons (xh_eq_T rfl (XI_lit (by decide +kernel)) c424) ?_
      refine xc_cons (xh_eq_T rfl (XI_lit (by decide +kernel)) c425) ?_
      refine xc_cons (xh_ne_F rfl (XI_lit (by decide +kernel)) c426) ?_
      refine xc_cons (xh_gt_T (XI_lit (by decide +kernel)) rfl c427) ?_
      exact xc_nil
    ·
      refine (Classical.em (XI r (.arg 2) = (8 : Int))).elim (fun (c428 : xhid (XI r (.arg 2) = (8 : Int))) => ?_) (fun (c428 : xhid (¬ (XI r (.arg 2) = (8 : Int)))) => ?_)
      ·
        have c429 : xhid (¬ (XI r (.arg 2) = (0 : Int))) := ((by have z0 : XI r (.arg 2) = (8 : Int) := c428; have z1 : -2147483648 ≤ XI r (.arg 2) := b2; have z2 : XI r (.arg 2) < 2147483648 := d2; omega) : ¬ (XI r (.arg 2) = (0 : Int)))
        refine (Classical.em ((0 : Int) ≤ XI r (.arg 3))).elim (fun (c430 : xhid ((0 : Int) ≤ XI r (.arg 3))) => ?_) (fun (c430 : xhid (¬ ((0 : Int) ≤ XI r (.arg 3)))) => ?_)
        ·
          have c431 : xhid (¬ (XI r (.arg 2) = (0 : Int))) := ((by have z0 : ¬ (XI r (.arg 2) = (0 : Int)) := c429; have z1 : -2147483648 ≤ XI r (.arg 2) := b2; have z2 : XI r (.arg 2) < 2147483648 := d2; omega) : ¬ (XI r (.arg 2) = (0 : Int)))
          refine (Classical.em (XI r (.arg 3) ≤ (24 : Int))).elim (fun (c432 : xhid (XI r (.arg 3) ≤ (24 : Int))) => ?_) (fun (c432 : xhid (¬ (XI r (.arg 3) ≤ (24 : Int)))) => ?_)
          ·
            have c433 : xhid (¬ XI r (.arg 2) = (0 : Int)) := ((by have z0 : ¬ (XI r (.arg 2) = (0 : Int)) := c431; have z1 : -2147483648 ≤ XI r (.arg 2) := b2; have z2 : XI r (.arg 2) < 2147483648 := d2; omega) : ¬ XI r (.arg 2) = (0 : Int))
            have c434 : xhid ((1 : Int) < XI r (.arg 49)) := ((by have z0 : (3 : Int) < XI r (.arg 49) := c415; omega) : (1 : Int) < XI r (.arg 49))
            have c435 : xhid ((2 : Int) < XI r (.arg 49)) := ((by have z0 : (3 : Int) < XI r (.arg 49) := c415; omega) : (2 : Int) < XI r (.arg 49))
            have c436 : xhid ((3 : Int) < XI r (.arg 49)) := ((by have z0 : (3 : Int) < XI r (.arg 49) := c415; omega) : (3 : Int) < XI r (.arg 49))
            have c437 : xhid (¬ (XI r (.arg 2) = (0 : Int))) := ((by have z0 : ¬ XI r (.arg 2) = (0 : Int) := c433; have z1 : -2147483648 ≤ XI r (.arg 2) := b2; have z2 : XI r (.arg 2) < 2147483648 := d2; omega) : ¬ (XI r (.arg 2) = (0 : Int)))
            have c438 : xhid (XI r (.arg 2) = (8 : Int)) := ((by have z0 : XI r (.arg 2) = (8 : Int) := c428; have z1 : -2147483648 ≤ XI r (.arg 2) := b2; have z2 : XI r (.arg 2) < 2147483648 := d2; omega) : XI r (.arg 2) = (8 : Int))
            have c439 : xhid (¬ (XI r (.arg 2) = (0 : Int))) := ((by have z0 : XI r (.arg 2) = (8 : Int) := c438; have z1 : -2147483648 ≤ XI r (.arg 2) := b2; have z2 : XI r (.arg 2) < 2147483648 := d2; omega) : ¬ (XI r (.arg 2) = (0 : Int)))
            have c440 : xhid ((0 : Int) ≤ XI r (.arg 3)) := ((by have z0 : (0 : Int) ≤ XI r (.arg 3) := c430; have z1 : -2147483648 ≤ XI r (.arg 3) := b3; have z2 : XI r (.arg 3) < 2147483648 := d3; omega) : (0 : Int) ≤ XI r (.arg 3))
            have c441 : xhid (¬ (XI r (.arg 2) = (0 : Int))) := ((by have z0 : ¬ (XI r (.arg 2) = (0 : Int)) := c439; have z1 : -2147483648 ≤ XI r (.arg 2) := b2; have z2 : XI r (.arg 2) < 2147483648 := d2; omega) : ¬ (XI r (.arg 2) = (0 : Int)))
            have c442 : xhid (XI r (.arg 3) ≤ (24 : Int)) := ((by have z0 : XI r (.arg 3) ≤ (24 : Int) := c432; have z1 : -2147483648 ≤ XI r (.arg 3) := b3; have z2 : XI r (.arg 3) < 2147483648 := d3; omega) : XI r (.arg 3) ≤ (24 : Int))
            have c443 : xhid (¬ XI r (.arg 2) = (0 : Int)) := ((by have z0 : ¬ (XI r (.arg 2) = (0 : Int)) := c441; have z1 : -2147483648 ≤ XI r (.arg 2) := b2; have z2 : XI r (.arg 2) < 2147483648 := d2; omega) : ¬ XI r (.arg 2) = (0 : Int))
            have c444 : xhid (XI r (.sub (.arg 49) (.int 6)) < (6 : Int)) := ((by omega) : XI r (.sub (.arg 49) (.int 6)) < (6 : Int))
            refine ⟨801, _, ?_, lf_34_34⟩
            refine xc_cons (xh_gt_F (XI_lit (by decide +kernel)) rfl h0) ?_
            refine xc_cons (xh_lt_T (XI_lit (by decide +kernel)) rfl h1) ?_
            refine xc_cons (xh_eq_T rfl (XI_lit (by decide +kernel)) hk) ?_
            refine xc_cons (xh_lt_T (XI_lit (by decide +kernel)) rfl c1) ?_
            refine xc_cons (xh_eq_T rfl (XI_lit (by decide +kernel)) c413) ?_
            refine xc_cons (xh_lt_T (XI_lit (by decide +kernel)) rfl c414) ?_
            refine xc_cons (xh_lt_T (XI_lit (by decide +kernel)) rfl c415) ?_
            refine xc_cons (xh_eq_F rfl (XI_lit (by decide +kernel)) c416) ?_
            refine xc_cons (xh_eq_T rfl (XI_lit (by decide +kernel)) c428) ?_
            refine xc_cons (xh_eq_F rfl (XI_lit (by decide +kernel)) c429) ?_
            refine xc_cons (xh_ge_T rfl (XI_lit (by decide +kernel)) c430) ?_
            refine xc_cons (xh_eq_F rfl (XI_lit (by decide +kernel)) c431) ?_
            refine xc_cons (xh_le_T rfl (XI_lit (by decide +kernel)) c432) ?_
            refine xc_cons (xh_ne_T rfl (XI_lit (by decide +kernel)) c433) ?_
            refine xc_cons (xh_lt_T (XI_lit (by decide +kernel)) rfl c434) ?_
            refine xc_cons (xh_eq_T rfl (XI_lit (by decide +kernel)) c413) ?_
            refine xc_cons (xh_lt_T (XI_lit (by decide +kernel)) rfl c435) ?_
            refine xc_cons (xh_lt_T (XI_lit (by decide +kernel)) rfl c436) ?_
            refine xc_cons (xh_eq_F rfl (XI_lit (by decide +kernel)) c437) ?_
            refine xc_cons (xh_eq_T rfl (XI_lit (by decide +kernel)) c438) ?_
            refine xc_cons (xh_eq_F rfl (XI_lit (by decide +kernel)) c439) ?_
            refine xc_cons (xh_ge_T rfl (XI_lit (by decide +kernel)) c440) ?_
            refine xc_cons (xh_eq_F rfl (XI_lit (by decide +kernel)) c441) ?_
            refine xc_cons (xh_le_T rfl (XI_lit (by decide +kernel)) c442) ?_
            refine xc_cons (xh_ne_T rfl (XI_lit (by decide +kernel)) c443) ?_
            refine xc_cons (xh_gt_T (XI_lit (by decide +kernel)) rfl c444) ?_
            exact xc_nil
          ·
            have c445 : xhid ((1 : Int) < XI r (.arg 49)) := ((by have z0 : (3 : Int) < XI r (.arg 49) := c415; omega) : (1 : Int) < XI r (.arg 49))
            have c446 : xhid ((2 : Int) < XI r (.arg 49)) := ((by have z0 : (3 : Int) < XI r (.arg 49) := c415; omega) : (2 : Int) < XI r (.arg 49))
            have c447 : xhid ((3 : Int) < XI r (.arg 49)) := ((by have z0 : (3 : Int) < XI r (.arg 49) := c415; omega) : (3 : Int) < XI r (.arg 49))
            have c448 : xhid (¬ (XI r (.arg 2) = (0 : Int))) := ((by have z0 : ¬ (XI r (.arg 2) = (0 : Int)) := c431; have z1 : -2147483648 ≤ XI r (.arg 2) := b2; have z2 : XI r (.arg 2) < 2147483648 := d2; omega) : ¬ (XI r (.arg 2) = (0 : Int)))
            have c449 : xhid (XI r (.arg 2) = (8 : Int)) := ((by have z0 : XI r (.arg 2) = (8 : Int) := c428; have z1 : -2147483648 ≤ XI r (.arg 2) := b2; have z2 : XI r (.arg 2) < 2147483648 := d2; omega) : XI r (.arg 2) = (8 : Int))
            have c450 : xhid (¬ (XI r (.arg 2) = (0 : Int))) := ((by have z0 : XI r (.arg 2) = (8 : Int) := c449; have z1 : -2147483648 ≤ XI r (.arg 2) := b2; have z2 : XI r (.arg 2) < 2147483648 := d2; omega) : ¬ (XI r (.arg 2) = (0 : Int)))
            have c451 : xhid ((0 : Int) ≤ XI r (.arg 3)) := ((by have z0 : ¬ (XI r (.arg 3) ≤ (24 : Int)) := c432; have z1 : -2147483648 ≤ XI r (.arg 3) := b3; have z2 : XI r (.arg 3) < 2147483648 := d3; omega) : (0 : Int) ≤ XI r (.arg 3))
            have c452 : xhid (¬ (XI r (.arg 2) = (0 : Int))) := ((by have z0 : ¬ (XI r (.arg 2) = (0 : Int)) := c450; have z1 : -2147483648 ≤ XI r (.arg 2) := b2; have z2 : XI r (.arg 2) < 2147483648 := d2; omega) : ¬ (XI r (.arg 2) = (0 : Int)))
            have c453 : xhid (¬ (XI r (.arg 3) ≤ (24 : Int))) := ((by have z0 : ¬ (XI r (.arg 3) ≤ (24 : Int)) := c432; have z1 : -2147483648 ≤ XI r (.arg 3) := b3; have z2 : XI r (.arg 3) < 2147483648 := d3; omega) : ¬ (XI r (.arg 3) ≤ (24 : Int)))
            have c454 : xhid (XI r (.sub (.arg 49) (.int 6)) < (6 : Int)) := ((by omega) : XI r (.sub (.arg 49) (.int 6)) < (6 : Int))
            refine ⟨165, _, ?_, lf_34_35⟩
            refine xc_cons (xh_gt_F (XI_lit (by decide +kernel)) rfl h0) ?_
            refine xc_cons (xh_lt_T (XI_lit (by decide +kernel)) rfl h1) ?_
            refine xc_cons (xh_eq_T rfl (XI_lit (by decide +kernel)) hk) ?_
            refine xc_cons (xh_lt_T (XI_lit (by decide +kernel)) rfl c1) ?_
            refine xc_cons (xh_eq_T rfl (XI_lit (by decide +kernel)) c413) ?_
            refine xc_cons (xh_lt_T (XI_lit (by decide +kernel)) rfl c414) ?_
            refine xc_cons (xh_lt_T (XI_lit (by decide +kernel)) rfl c415) ?_
            refine xc_cons (xh_eq_F rfl (XI_lit (by decide +kernel)) c416) ?_
            refine xc_cons (xh_eq_T rfl (XI_lit (by decide +kernel)) c428) ?_
            refine xc_cons (xh_eq_F rfl (XI_lit (by decide +kernel)) c429) ?_
            refine xc_cons (xh_ge_T rfl (XI_lit (by decide +kernel)) c430) ?_
            refine xc_cons (xh_eq_F rfl (XI_lit (by decide +kernel)) c431) ?_
            refine xc_cons (xh_le_F rfl (XI_lit (by decide +kernel)) c432) ?_
            refine xc_cons (xh_lt_T (XI_lit (by decide +kernel)) rfl c445) ?_
            refine xc_cons (xh_eq_T rfl (XI_lit (by decide +kernel)) c413) ?_
            refine xc_cons (xh_lt_T (XI_lit (by decide +kernel)) rfl c446) ?_
            refine xc_cons (xh_lt_T (XI_lit (by decide +kernel)) rfl c447) ?_
            refine xc_cons (xh_eq_F rfl (XI_lit (by decide +kernel)) c448) ?_
            refine xc_cons (xh_eq_T rfl (XI_lit (by decide +kernel)) c449) ?_
            refine xc_cons (xh_eq_F rfl (XI_lit (by decide +kernel)) c450) ?_
            refine xc_cons (xh_ge_T rfl (XI_lit (by decide +kernel)) c451) ?_
            refine xc_cons (xh_eq_F rfl (XI_lit (by decide +kernel)) c452) ?_
            refine xc_cons (xh_le_F rfl (XI_lit (by decide +kernel)) c453) ?_
            refine xc_cons (xh_gt_T (XI_lit (by decide +kernel)) rfl c454) ?_
            exact xc_nil
        ·
          have c455 : xhid ((1 : Int) < XI r (.arg 49)) := ((by have z0 : (3 : Int) < XI r (.arg 49) := c415; omega) : (1 : Int) < XI r (.arg 49))
          have c456 : xhid ((2 : Int) < XI r (.arg 49)) := ((by have z0 : (3 : Int) < XI r (.arg 49) := c415; omega) : (2 : Int) < XI r (.arg 49))
          have c457 : xhid ((3 : Int) < XI r (.arg 49)) := ((by have z0 : (3 : Int) < XI r (.arg 49) := c415; omega) : (3 : Int) < XI r (.arg 49))
          have c458 : xhid (¬ (XI r (.arg 2) = (0 : Int))) := ((by have z0 : ¬ (XI r (.arg 2) = (0 : Int)) := c429; have z1 : -2147483648 ≤ XI r (.arg 2) := b2; have z2 : XI r (.arg 2) < 2147483648 := d2; omega) : ¬ (XI r (.arg 2) = (0 : Int)))
          have c459 : xhid (XI r (.arg 2) = (8 : Int)) := ((by have z0 : XI r (.arg 2) = (8 : Int) := c428; have z1 : -2147483648 ≤ XI r (.arg 2) := b2; have z2 : XI r (.arg 2) < 2147483648 := d2; omega) : XI r (.arg 2) = (8 : Int))
          have c460 : xhid (¬ (XI r (.arg 2) = (0 : Int))) := ((by have z0 : XI r (.arg 2) = (8 : Int) := c459; have z1 : -2147483648 ≤ XI r (.arg 2) := b2; have z2 : XI r (.arg 2) < 2147483648 := d2; omega) : ¬ (XI r (.arg 2) = (0 : Int)))
          have c461 : xhid (¬ ((0 : Int) ≤ XI r (.arg 3))) := ((by have z0 : ¬ ((0 : Int) ≤ XI r (.arg 3)) := c430; have z1 : -2147483648 ≤ XI r (.arg 3) := b3; have z2 : XI r (.arg 3) < 2147483648 := d3; omega) : ¬ ((0 : Int) ≤ XI r (.arg 3)))
          have c462 : xhid (XI r (.sub (.arg 49) (.int 6)) < (6 : Int)) := ((by omega) : XI r (.sub (.arg 49) (.int 6)) < (6 : Int))
          refine ⟨155, _, ?_, lf_34_36⟩
          refine xc_cons (xh_gt_F (XI_lit (by decide +kernel)) rfl h0) ?_
          refine xc_cons (xh_lt_T (XI_lit (by decide +kernel)) rfl h1) ?_
          refine xc_cons (xh_eq_T rfl (XI_lit (by decide +kernel)) hk) ?_
          refine xc_cons (xh_lt_T (XI_lit (by decide +kernel)) rfl c1) ?_
          refine xc_cons (xh_eq_T rfl (XI_lit (by decide +kernel)) c413) ?_
          refine xc_cons (xh_lt_T (XI_lit (by decide +kernel)) rfl c414) ?_
          refine xc_cons (xh_lt_T (XI_lit (by decide +kernel)) rfl c415) ?_
          refine xc_cons (xh_eq_F rfl (XI_lit (by decide +kernel)) c416) ?_
          refine xc_cons (xh_eq_T rfl (XI_lit (by decide +kernel)) c428) ?_
          refine xc_cons (xh_eq_F rfl (XI_lit (by decide +kernel)) c429) ?_
          refine xc_cons (xh_ge_F rfl (XI_lit (by decide +kernel)) c430) ?_
          refine xc_cons (xh_lt_T (XI_lit (by decide +kernel)) rfl c455) ?_
          refine xc_cons (xh_eq_T rfl (XI_lit (by decide +kernel)) c413) ?_
          refine xc_cons (xh_lt_T (XI_lit (by decide +kernel)) rfl c456) ?_
          refine xc_cons (xh_lt_T (XI_lit (by decide +kernel)) rfl c457) ?_
          refine xc_cons (xh_eq_F rfl (XI_lit (by decide +kernel)) c458) ?_
          refine xc_cons (xh_eq_T rfl (XI_lit (by decide +kernel)) c459) ?_
          refine xc_cons (xh_eq_F rfl (XI_lit (by decide +kernel)) c460) ?_
          refine xc_cons (xh_ge_F rfl (XI_lit (by decide +kernel)) c461) ?_
          refine xc_cons (xh_gt_T (XI_lit (by decide +kernel)) rfl c462) ?_
          exact xc_nil
      ·
        refine (Classical.em (XI r (.arg 2) = (16 : Int))).elim (fun (c463 : xhid (XI r (.arg 2) = (16 : Int))) => ?_) (fun (c463 : xhid (¬ (XI r (.arg 2) = (16 : Int)))) => ?_)
        ·
          have c464 : xhid (¬ (XI r (.arg 2) = (0 : Int))) := ((by have z0 : XI r (.arg 2) = (16 : Int) := c463; have z1 : -2147483648 ≤ XI r (.arg 2) := b2; have z2 : XI r (.arg 2) < 2147483648 := d2; omega) : ¬ (XI r (.arg 2) = (0 : Int)))
          refine (Classical.em ((0 : Int) ≤ XI r (.arg 3))).elim (fun (c465 : xhid ((0 : Int) ≤ XI r (.arg 3))) => ?_) (fun (c465 : xhid (¬ ((0 : Int) ≤ XI r (.arg 3)))) => ?_)
          ·
            have c466 : xhid (¬ (XI r (.arg 2) = (0 : Int))) := ((by have z0 : ¬ (XI r (.arg 2) = (0 : Int)) := c464; have z1 : -2147483648 ≤ XI r (.arg 2) := b2; have z2 : XI r (.arg 2) < 2147483648 := d2; omega) : ¬ (XI r (.arg 2) = (0 : Int)))
            refine (Classical.em (XI r (.arg 3) ≤ (24 : Int))).elim (fun (c467 : xhid (XI r (.arg 3) ≤ (24 : Int))) => ?_) (fun (c467 : xhid (¬ (XI r (.arg 3) ≤ (24 : Int)))) => ?_)
            ·
              have c468 : xhid (¬ XI r (.arg 2) = (0 : Int)) := ((by have z0 : ¬ (XI r (.arg 2) = (0 : Int)) := c466; have z1 : -2147483648 ≤ XI r (.arg 2) := b2; have z2 : XI r (.arg 2) < 2147483648 := d2; omega) : ¬ XI r (.arg 2) = (0 : Int))
              have c469 : xhid ((1 : Int) < XI r (.arg 49)) := ((by have z0 : (3 : Int) < XI r (.arg 49) := c415; omega) : (1 : Int) < XI r (.arg 49))
              have c470 : xhid ((2 : Int) < XI r (.arg 49)) := ((by have z0 : (3 : Int) < XI r (.arg 49) := c415; omega) : (2 : Int) < XI r (.arg 49))
              have c471 : xhid ((3 : Int) < XI r (.arg 49)) := ((by have z0 : (3 : Int) < XI r (.arg 49) := c415; omega) : (3 : Int) < XI r (.arg 49))
              have c472 : xhid (¬ (XI r (.arg 2) = (0 : Int))) := ((by have z0 : ¬ XI r (.arg 2) = (0 : Int) := c468; have z1 : -2147483648 ≤ XI r (.arg 2) := b2; have z2 : XI r (.arg 2) < 2147483648 := d2; omega) : ¬ (XI r (.arg 2) = (0 : Int)))
              have c473 : xhid (¬ (XI r (.arg 2) = (8 : Int))) := ((by have z0 : XI r (.arg 2) = (16 : Int) := c463; have z1 : -2147483648 ≤ XI r (.arg 2) := b2; have z2 : XI r (.arg 2) < 2147483648 := d2; omega) : ¬ (XI r (.arg 2) = (8 : Int)))
              have c474 : xhid (XI r (.arg 2) = (16 : Int)) := ((by have z0 : XI r (.arg 2) = (16 : Int) := c463; have z1 : -2147483648 ≤ XI r (.arg 2) := b2; have z2 : XI r (.arg 2) < 2147483648 := d2; omega) : XI r (.arg 2) = (16 : Int))
              have c475 : xhid (¬ (XI r (.arg 2) = (0 : Int))) := ((by have z0 : XI r (.arg 2) = (16 : Int) := c474; have z1 : -2147483648 ≤ XI r (.arg 2) := b2; have z2 : XI r (.arg 2) < 2147483648 := d2; omega) : ¬ (XI r (.arg 2) = (0 : Int)))
              have c476 : xhid ((0 : Int) ≤ XI r (.arg 3)) := ((by have z0 : (0 : Int) ≤ XI r (.arg 3) := c465; have z1 : -2147483648 ≤ XI r (.arg 3) := b3; have z2 : XI r (.arg 3) < 2147483648 := d3; omega) : (0 : Int) ≤ XI r (.arg 3))
              have c477 : xhid (¬ (XI r (.arg 2) = (0 : Int))) := ((by have z0 : ¬ (XI r (.arg 2) = (0 : Int)) := c475; have z1 : -2147483648 ≤ XI r (.arg 2) := b2; have z2 : XI r (.arg 2) < 2147483648 := d2; omega) : ¬ (XI r (.arg 2) = (0 : Int)))
              have c478 : xhid (XI r (.arg 3) ≤ (24 : Int)) := ((by have z0 : XI r (.arg 3) ≤ (24 : Int) := c467; have z1 : -2147483648 ≤ XI r (.arg 3) := b3; have z2 : XI r (.arg 3) < 2147483648 := d3; omega) : XI r (.arg 3) ≤ (24 : Int))
              have c479 : xhid (¬ XI r (.arg 2) = (0 : Int)) := ((by have z0 : ¬ (XI r (.arg 2) = (0 : Int)) := c477; have z1 : -2147483648 ≤ XI r (.arg 2) := b2; have z2 : XI r (.arg 2) < 2147483648 := d2; omega) : ¬ XI r (.arg 2) = (0 : Int))
              have c480 : xhid (XI r (.sub (.arg 49) (.int 6)) < (6 : Int)) := ((by omega) : XI r (.sub (.arg 49) (.int 6)) < (6 : Int))
              refine ⟨807, _, ?_, lf_34_37⟩
              refine xc_cons (xh_gt_F (XI_lit (by decide +kernel)) rfl h0) ?_
              refine xc_cons (xh_lt_T (XI_lit (by decide +kernel)) rfl h1) ?_
              refine xc_cons (xh_eq_T rfl (XI_lit (by decide +kernel)) hk) ?_
              refine xc_cons (xh_lt_T (XI_lit (by decide +kernel)) rfl c1) ?_
              refine xc_cons (xh_eq_T rfl (XI_lit (by decide +kernel)) c413) ?_
              refine xc_cons (xh_lt_T (XI_lit (by decide +kernel)) rfl c414) ?_
              refine xc_cons (xh_lt_T (XI_lit (by decide +kernel)) rfl c415) ?_
              refine xc_cons (xh_eq_F rfl (XI_lit (by decide +kernel)) c416) ?_
              refine xc_cons (xh_eq_F rfl (XI_lit (by decide +kernel)) c428) ?_
              refine xc_cons (xh_eq_T rfl (XI_lit (by decide +kernel)) c463) ?_
              refine xc_cons (xh_eq_F rfl (XI_lit (by decide +kernel)) c464) ?_
              refine xc_cons (xh_ge_T rfl (XI_lit (by decide +kernel)) c465) ?_
              refine xc_cons (xh_eq_F rfl (XI_lit (by decide +kernel)) c466) ?_
              refine xc_cons (xh_le_T rfl (XI_lit (by decide +kernel)) c467) ?_
              refine xc_cons (xh_ne_T rfl (XI_lit (by decide +kernel)) c468) ?_
              refine xc_cons (xh_lt_T (XI_lit (by decide +kernel)) rfl c469) ?_
              refine xc_cons (xh_eq_T rfl (XI_lit (by decide +kernel)) c413) ?_
              refine xc_cons (xh_lt_T (XI_lit (by decide +kernel)) rfl c470) ?_
              refine xc_cons (xh_lt_T (XI_lit (by decide +kernel)) rfl c471) ?_
              refine xc_cons (xh_eq_F rfl (XI_lit (by decide +kernel)) c472) ?_
              refine xc_cons (xh_eq_F rfl (XI_lit (by decide +kernel)) c473) ?_
              refine xc_cons (xh_eq_T rfl (XI_lit (by decide +kernel)) c474) ?_
              refine xc_cons (xh_eq_F rfl (XI_lit (by decide +kernel)) c475) ?_
              refine xc_cons (xh_ge_T rfl (XI_lit (by decide +kernel)) c476) ?_
              refine xc_cons (xh_eq_F rfl (XI_lit (by decide +kernel)) c477) ?_
              refine xc_cons (xh_le_T rfl (XI_lit (by decide +kernel)) c478) ?_
              refine xc_cons (xh_ne_T rfl (XI_lit (by decide +kernel)) c479) ?_
              refine xc_cons (xh_gt_T (XI_lit (by decide +kernel)) rfl c480) ?_
              exact xc_nil
            ·
              have c481 : xhid ((1 : Int) < XI r (.arg 49)) := ((by have z0 : (3 : Int) < XI r (.arg 49) := c415; omega) : (1 : Int) < XI r (.arg 49))
              have c482 : xhid ((2 : Int) < XI r (.arg 49)) := ((by have z0 : (3 : Int) < XI r (.arg 49) := c415; omega) : (2 : Int) < XI r (.arg 49))
              have c483 : xhid ((3 : Int) < XI r (.arg 49)) := ((by have z0 : (3 : Int) < XI r (.arg 49) := c415; omega) : (3 : Int) < XI r (.arg 49))
              have c484 : xhid (¬ (XI r (.arg 2) = (0 : Int))) := ((by have z0 : ¬ (XI r (.arg 2) = (0 : Int)) := c466; have z1 : -2147483648 ≤ XI r (.arg 2) := b2; have z2 : XI r (.arg 2) < 2147483648 := d2; omega) : ¬ (XI r (.arg 2) = (0 : Int)))
              have c485 : xhid (¬ (XI r (.arg 2) = (8 : Int))) := ((by have z0 : XI r (.arg 2) = (16 : Int) := c463; have z1 : -2147483648 ≤ XI r (.arg 2) := b2; have z2 : XI r (.arg 2) < 2147483648 := d2; omega) : ¬ (XI r (.arg 2) = (8 : Int)))
              have c486 : xhid (XI r (.arg 2) = (16 : Int)) := ((by have z0 : XI r (.arg 2) = (16 : Int) := c463; have z1 : -2147483648 ≤ XI r (.arg 2) := b2; have z2 : XI r (.arg 2) < 2147483648 := d2; omega) : XI r (.arg 2) = (16 : Int))
              have c487 : xhid (¬ (XI r (.arg 2) = (0 : Int))) := ((by have z0 : XI r (.arg 2) = (16 : Int) := c486; have z1 : -2147483648 ≤ XI r (.arg 2) := b2; have z2 : XI r (.arg 2) < 2147483648 := d2; omega) : ¬ (XI r (.arg 2) = (0 : Int)))
              have c488 : xhid ((0 : Int) ≤ XI r (.arg 3)) := ((by have z0 : ¬ (XI r (.arg 3) ≤ (24 : Int)) := c467; have z1 : -2147483648 ≤ XI r (.arg 3) := b3; have z2 : XI r (.arg 3) < 2147483648 := d3; omega) : (0 : Int) ≤ XI r (.arg 3))
              have c489 : xhid (¬ (XI r (.arg 2) = (0 : Int))) := ((by have z0 : ¬ (XI r (.arg 2) = (0 : Int)) := c487; have z1 : -2147483648 ≤ XI r (.arg 2) := b2; have z2 : XI r (.arg 2) < 2147483648 := d2; omega) : ¬ (XI r (.arg 2) = (0 : Int)))
              have c490 : xhid (¬ (XI r (.arg 3) ≤ (24 : Int))) := ((by have z0 : ¬ (XI r (.arg 3) ≤ (24 : Int)) := c467; have z1 : -2147483648 ≤ XI r (.arg 3) := b3; have z2 : XI r (.arg 3) < 2147483648 := d3; omega) : ¬ (XI r (.arg 3) ≤ (24 : Int)))
              have c491 : xhid (XI r (.sub (.arg 49) (.int 6)) < (6 : Int)) := ((by omega) : XI r (.sub (.arg 49) (.int 6)) < (6 : Int))
              refine ⟨171, _, ?_, lf_34_38⟩
              refine xc_cons (xh_gt_F (XI_lit (by decide +kernel)) rfl h0) ?_
              refine xc_cons (xh_lt_T (XI_lit (by decide +kernel)) rfl h1) ?_
              refine xc_cons (xh_eq_T rfl (XI_lit (by decide +kernel)) hk) ?_
              refine xc_cons (xh_lt_T (XI_lit (by decide +kernel)) rfl c1) ?_
              refine xc_cons (xh_eq_T rfl (XI_lit (by decide +kernel)) c413) ?_
              refine xc_cons (xh_lt_T (XI_lit (by decide +kernel)) rfl c414) ?_
              refine xc_cons (xh_lt_T (XI_lit (by decide +kernel)) rfl c415) ?_
              refine xc_cons (xh_eq_F rfl (XI_lit (by decide +kernel)) c416) ?_
              refine xc_cons (xh_eq_F rfl (XI_lit (by decide +kernel)) c428) ?_
              refine xc_cons (xh_eq_T rfl (XI_lit (by decide +kernel)) c463) ?_
              refine xc_cons (xh_eq_F rfl (XI_lit (by decide +kernel)) c464) ?_
              refine xc_cons (xh_ge_T rfl (XI_lit (by decide +kernel)) c465) ?_
              refine xc_cons (xh_eq_F rfl (XI_lit (by decide +kernel)) c466) ?_
              refine xc_cons (xh_le_F rfl (XI_lit (by decide +kernel)) c467) ?_
              refine xc_cons (xh_lt_T (XI_lit (by decide +kernel)) rfl c481) ?_
              refine xc_cons (xh_eq_T rfl (XI_lit (by decide +kernel)) c413) ?_
              refine xc_cons (xh_lt_T (XI_lit (by decide +kernel)) rfl c482) ?_
              refine xc_cons (xh_lt_T (XI_lit (by decide +kernel)) rfl c483) ?_
              refine xc_cons (xh_eq_F rfl (XI_lit (by decide +kernel)) c484) ?_
              refine xc_cons (xh_eq_F rfl (XI_lit (by decide +kernel)) c485) ?_
              refine xc_cons (xh_eq_T rfl (XI_lit (by decide +kernel)) c486) ?_
              refine xc_cons (xh_eq_F rfl (XI_lit (by decide +kernel)) c487) ?_
              refine xc_cons (xh_ge_T rfl (XI_lit (by decide +kernel)) c488) ?_
              refine xc_cons (xh_eq_F rfl (XI_lit (by decide +kernel)) c489) ?_
              refine xc_cons (xh_le_F rfl (XI_lit (by decide +kernel)) c490) ?_
              refine xc_cons (xh_gt_T (XI_lit (by decide +kernel)) rfl c491) ?_
              exact xc_nil
          ·
            have c492 : xhid ((1 : Int) < XI r (.arg 49)) := ((by have z0 : (3 : Int) < XI r (.arg 49) := c415; omega) : (1 : Int) < XI r (.arg 49))
            have c493 : xhid ((2 : Int) < XI r (.arg 49)) := ((by have z0 : (3 : Int) < XI r (.arg 49) := c415; omega) : (2 : Int) < XI r (.arg 49))
            have c494 : xhid ((3 : Int) < XI r (.arg 49)) := ((by have z0 : (3 : Int) < XI r (.arg 49) := c415; omega) : (3 : Int) < XI r (.arg 49))
            have c495 : xhid (¬ (XI r (.arg 2) = (0 : Int))) := ((by have z0 : ¬ (XI r (.arg 2) = (0 : Int)) := c464; have z1 : -2147483648 ≤ XI r (.arg 2) := b2; have z2 : XI r (.arg 2) < 2147483648 := d2; omega) : ¬ (XI r (.arg 2) = (0 : Int)))
            have c496 : xhid (¬ (XI r (.arg 2) = (8 : Int))) := ((by have z0 : XI r (.arg 2) = (16 : Int) := c463; have z1 : -2147483648 ≤ XI r (.arg 2) := b2; have z2 : XI r (.arg 2) < 2147483648 := d2; omega) : ¬ (XI r (.arg 2) = (8 : Int)))
            have c497 : xhid (XI r (.arg 2) = (16 : Int)) := ((by have z0 : XI r (.arg 2) = (16 : Int) := c463; have z1 : -2147483648 ≤ XI r (.arg 2) := b2; have z2 : XI r (.arg 2) < 2147483648 := d2; omega) : XI r (.arg 2) = (16 : Int))
            have c498 : xhid (¬ (XI r (.arg 2) = (0 : Int))) := ((by have z0 : XI r (.arg 2) = (16 : Int) := c497; have z1 : -2147483648 ≤ XI r (.arg 2) := b2; have z2 : XI r (.arg 2) < 2147483648 := d2; omega) : ¬ (XI r (.arg 2) = (0 : Int)))
            have c499 : xhid (¬ ((0 : Int) ≤ XI r (.arg 3))) := ((by have z0 : ¬ ((0 : Int) ≤ XI r (.arg 3)) := c465; have z1 : -2147483648 ≤ XI r (.arg 3) := b3; have z2 : XI r (.arg 3) < 2147483648 := d3; omega) : ¬ ((0 : Int) ≤ XI r (.arg 3)))
            have c500 : xhid (XI r (.sub (.arg 49) (.int 6)) < (6 : Int)) := ((by omega) : XI r (.sub (.arg 49) (.int 6)) < (6 : Int))
            refine ⟨161, _, ?_, lf_34_39⟩
            refine xc_cons (xh_gt_F (XI_lit (by decide +kernel)) rfl h0) ?_
            refine xc_cons (xh_lt_T (XI_lit (by decide +kernel)) rfl h1) ?_
            refine xc_cons (xh_eq_T rfl (XI_lit (by decide +kernel)) hk) ?_
            refine xc_cons (xh_lt_T (XI_lit (by decide +kernel)) rfl c1) ?_
            refine xc_cons (xh_eq_T rfl (XI_lit (by decide +kernel)) c413) ?_
            refine xc_cons (xh_lt_T (XI_lit (by decide +kernel)) rfl c414) ?_
            refine xc_cons (xh_lt_T (XI_lit (by decide +kernel)) rfl c415) ?_
            refine xc_cons (xh_eq_F rfl (XI_lit (by decide +kernel)) c416) ?_
            refine xc_cons (xh_eq_F rfl (XI_lit (by decide +kernel)) c428) ?_
            refine xc_cons (xh_eq_T rfl (XI_lit (by decide +kernel)) c463) ?_
            refine xc_cons (xh_eq_F rfl (XI_lit (by decide +kernel)) c464) ?_
            refine xc_cons (xh_ge_F rfl (XI_lit (by decide +kernel)) c465) ?_
            refine xc_cons (xh_lt_T (XI_lit (by decide +kernel)) rfl c492) ?_
            refine xc_cons (xh_eq_T rfl (XI_lit (by decide +kernel)) c413) ?_
            refine xc_cons (xh_lt_T (XI_lit (by decide +kernel)) rfl c493) ?_
            refine xc_cons (xh_lt_T (XI_lit (by decide +kernel)) rfl c494) ?_
            refine xc_cons (xh_eq_F rfl (XI_lit (by decide +kernel)) c495) ?_
            refine xc_cons (xh_eq_F rfl (XI_lit (by decide +kernel)) c496) ?_
            refine xc_cons (xh_eq_T rfl (XI_lit (by decide +kernel)) c497) ?_
            refine xc_cons (xh_eq_F rfl (XI_lit (by decide +kernel)) c498) ?_
            refine xc_cons (xh_ge_F rfl (XI_lit (by decide +kernel)) c499) ?_
            refine xc_cons (xh_gt_T (XI_lit (by decide +kernel)) rfl c500) ?_
            exact xc_nil
        ·
          refine (Classical.em (XI r (.arg 2) = (32 : Int))).elim (fun (c501 : xhid (XI r (.arg 2) = (32 : Int))) => ?_) (fun (c501 : xhid (¬ (XI r (.arg 2) = (32 : Int)))) => ?_)
          ·
            have c502 : xhid (¬ (XI r (.arg 2) = (0 : Int))) := ((by have z0 : XI r (.arg 2) = (32 : Int) := c501; have z1 : -2147483648 ≤ XI r (.arg 2) := b2; have z2 : XI r (.arg 2) < 2147483648 := d2; omega) : ¬ (XI r (.arg 2) = (0 : Int)))
            refine (Classical.em ((0 : Int) ≤ XI r (.arg 3))).elim (fun (c503 : xhid ((0 : Int) ≤ XI r (.arg 3))) => ?_) (fun (c503 : xhid (¬ ((0 : Int) ≤ XI r (.arg 3)))) => ?_)
            ·
              have c504 : xhid (¬ (XI r (.arg 2) = (0 : Int))) := ((by have z0 : ¬ (XI r (.arg 2) = (0 : Int)) := c502; have z1 : -2147483648 ≤ XI r (.arg 2) := b2; have z2 : XI r (.arg 2) < 2147483648 := d2; omega) : ¬ (XI r (.arg 2) = (0 : Int)))
              refine (Classical.em (XI r (.arg 3) ≤ (24 : Int))).elim (fun (c505 : xhid (XI r (.arg 3) ≤ (24 : Int))) => ?_) (fun (c505 : xhid (¬ (XI r (.arg 3) ≤ (24 : Int)))) => ?_)
              ·
                have c506 : xhid (¬ XI r (.arg 2) = (0 : Int)) := ((by have z0 : ¬ (XI r (.arg 2) = (0 : Int)) := c504; have z1 : -2147483648 ≤ XI r (.arg 2) := b2; have z2 : XI r (.arg 2) < 2147483648 := d2; omega) : ¬ XI r (.arg 2) = (0 : Int))
                have c507 : xhid ((1 : Int) < XI r (.arg 49)) := ((by have z0 : (3 : Int) < XI r (.arg 49) := c415; omega) : (1 : Int) < XI r (.arg 49))
                have c508 : xhid ((2 : Int) < XI r (.arg 49)) := ((by have z0 : (3 : Int) < XI r (.arg 49) := c415; omega) : (2 : Int) < XI r (.arg 49))
                have c509 : xhid ((3 : Int) < XI r (.arg 49)) := ((by have z0 : (3 : Int) < XI r (.arg 49) := c415; omega) : (3 : Int) < XI r (.arg 49))
                have c510 : xhid (¬ (XI r (.arg 2) = (0 : Int))) := ((by have z0 : ¬ XI r (.arg 2) = (0 : Int) := c506; have z1 : -2147483648 ≤ XI r (.arg 2) := b2; have z2 : XI r (.arg 2) < 2147483648 := d2; omega) : ¬ (XI r (.arg 2) = (0 : Int)))
                have c511 : xhid (¬ (XI r (.arg 2) = (8 : Int))) := ((by have z0 : XI r (.arg 2) = (32 : Int) := c501; have z1 : -2147483648 ≤ XI r (.arg 2) := b2; have z2 : XI r (.arg 2) < 2147483648 := d2; omega) : ¬ (XI r (.arg 2) = (8 : Int)))
                have c512 : xhid (¬ (XI r (.arg 2) = (16 : Int))) := ((by have z0 : XI r (.arg 2) = (32 : Int) := c501; have z1 : -2147483648 ≤ XI r (.arg 2) := b2; have z2 : XI r (.arg 2) < 2147483648 := d2; omega) : ¬ (XI r (.arg 2) = (16 : Int)))
                have c513 : xhid (XI r (.arg 2) = (32 : Int)) := ((by have z0 : XI r (.arg 2) = (32 : Int) := c501; have z1 : -2147483648 ≤ XI r (.arg 2) := b2; have z2 : XI r (.arg 2) < 2147483648 := d2; omega) : XI r (.arg 2) = (32 : Int))
                have c514 : xhid (¬ (XI r (.arg 2) = (0 : Int))) := ((by have z0 : XI r (.arg 2) = (32 : Int) := c513; have z1 : -2147483648 ≤ XI r (.arg 2) := b2; have z2 : XI r (.arg 2) < 2147483648 := d2; omega) : ¬ (XI r (.arg 2) = (0 : Int)))
                have c515 : xhid ((0 : Int) ≤ XI r (.arg 3)) := ((by have z0 : (0 : Int) ≤ XI r (.arg 3) := c503; have z1 : -2147483648 ≤ XI r (.arg 3) := b3; have z2 : XI r (.arg 3) < 2147483648 := d3; omega) : (0 : Int) ≤ XI r (.arg 3))
                have c516 : xhid (¬ (XI r (.arg 2) = (0 : Int))) := ((by have z0 : ¬ (XI r (.arg 2) = (0 : Int)) := c514; have z1 : -2147483648 ≤ XI r (.arg 2) := b2; have z2 : XI r (.arg 2) < 2147483648 := d2; omega) : ¬ (XI r (.arg 2) = (0 : Int)))
                have c517 : xhid (XI r (.arg 3) ≤ (24 : Int)) := ((by have z0 : XI r (.arg 3) ≤ (24 : Int) := c505; have z1 : -2147483648 ≤ XI r (.arg 3) := b3; have z2 : XI r (.arg 3) < 2147483648 := d3; omega) : XI r (.arg 3) ≤ (24 : Int))
                have c518 : xhid (¬ XI r (.arg 2) = (0 : Int)) := ((by have z0 : ¬ (XI r (.arg 2) = (0 : Int)) := c516; have z1 : -2147483648 ≤ XI r (.arg 2) := b2; have z2 : XI r (.arg 2) < 2147483648 := d2; omega) : ¬ XI r (.arg 2) = (0 : Int))
                have c519 : xhid (XI r (.sub (.arg 49) (.int 6)) < (6 : Int)) := ((by omega) : XI r (.sub (.arg 49) (.int 6)) < (6 : Int))
                refine ⟨813, _, ?_, lf_34_40⟩
                refine xc_cons (xh_gt_F (XI_lit (by decide +kernel)) rfl h0) ?_
                refine xc_cons (xh_lt_T (XI_lit (by decide +kernel)) rfl h1) ?_
                refine xc_cons (xh_eq_T rfl (XI_lit (by decide +kernel)) hk) ?_
                refine xc_cons (xh_lt_T (XI_lit (by decide +kernel)) rfl c1) ?_
                refine xc_cons (xh_eq_T rfl (XI_lit (by decide +kernel)) c413) ?_
                refine xc_cons (xh_lt_T (XI_lit (by decide +kernel)) rfl c414) ?_
                refine xc_cons (xh_lt_T (XI_lit (by decide +kernel)) rfl c415) ?_
                refine xc_cons (xh_eq_F rfl (XI_lit (by decide +kernel)) c416) ?_
                refine xc_cons (xh_eq_F rfl (XI_lit (by decide +kernel)) c428) ?_
                refine xc_cons (xh_eq_F rfl (XI_lit (by decide +kernel)) c463) ?_
                refine xc_cons (xh_eq_T rfl (XI_lit (by decide +kernel)) c501) ?_
                refine xc_cons (xh_eq_F rfl (XI_lit (by decide +kernel)) c502) ?_
                refine xc_cons (xh_ge_T rfl (XI_lit (by decide +kernel)) c503) ?_
                refine xc_cons (xh_eq_F rfl (XI_lit (by decide +kernel)) c504) ?_
                refine xc_cons (xh_le_T rfl (XI_lit (by decide +kernel)) c505) ?_
                refine xc_cons (xh_ne_T rfl (XI_lit (by decide +kernel)) c506) ?_
                refine xc_cons (xh_lt_T (XI_lit (by decide +kernel)) rfl c507) ?_
                refine xc_cons (xh_eq_T rfl (XI_lit (by decide +kernel)) c413) ?_
                refine xc_cons (xh_lt_T (XI_lit (by decide +kernel)) rfl c508) ?_
                refine xc_cons (xh_lt_T (XI_lit (by decide +kernel)) rfl c509) ?_
                refine xc_cons (xh_eq_F rfl (XI_lit (by decide +kernel)) c510) ?_
                refine xc_cons (xh_eq_F rfl (XI_lit (by decide +kernel)) c511) ?_
                refine xc_cons (xh_eq_F rfl (XI_lit (by decide +kernel)) c512) ?_
                refine xc_cons (xh_eq_T rfl (XI_lit (by decide +kernel)) c513) ?_
                refine xc_cons (xh_eq_F rfl (XI_lit (by decide +kernel)) c514) ?_
                refine xc_cons (xh_ge_T rfl (XI_lit (by decide +kernel)) c515) ?_
                refine xc_cons (xh_eq_F rfl (XI_lit (by decide +kernel)) c516) ?_
                refine xc_cons (xh_le_T rfl (XI_lit (by decide +kernel)) c517) ?_
                refine xc_cons (xh_ne_T rfl (XI_lit (by decide +kernel)) c518) ?_
                refine xc_cons (xh_gt_T (XI_lit (by decide +kernel)) rfl c519) ?_
                exact xc_nil
              ·
                have c520 : xhid ((1 : Int) < XI r (.arg 49)) := ((by have z0 : (3 : Int) < XI r (.arg 49) := c415; omega) : (1 : Int) < XI r (.arg 49))
                have c521 : xhid ((2 : Int) < XI r (.arg 49)) := ((by have z0 : (3 : Int) < XI r (.arg 49) := c415; omega) : (2 : Int) < XI r (.arg 49))
                have c522 : xhid ((3 : Int) < XI r (.arg 49)) := ((by have z0 : (3 : Int) < XI r (.arg 49) := c415; omega) : (3 : Int) < XI r (.arg 49))
                have c523 : xhid (¬ (XI r (.arg 2) = (0 : Int))) := ((by have z0 : ¬ (XI r (.arg 2) = (0 : Int)) := c504; have z1 : -2147483648 ≤ XI r (.arg 2) := b2; have z2 : XI r (.arg 2) < 2147483648 := d2; omega) : ¬ (XI r (.arg 2) = (0 : Int)))
                have c524 : xhid (¬ (XI r (.arg 2) = (8 : Int))) := ((by have z0 : XI r (.arg 2) = (32 : Int) := c501; have z1 : -2147483648 ≤ XI r (.arg 2) := b2; have z2 : XI r (.arg 2) < 2147483648 := d2; omega) : ¬ (XI r (.arg 2) = (8 : Int)))
                have c525 : xhid (¬ (XI r (.arg 2) = (16 : Int))) := ((by have z0 : XI r (.arg 2) = (32 : Int) := c501; have z1 : -2147483648 ≤ XI r (.arg 2) := b2; have z2 : XI r (.arg 2) < 2147483648 := d2; omega) : ¬ (XI r (.arg 2) = (16 : Int)))
                have c526 : xhid (XI r (.arg 2) = (32 : Int)) := ((by have z0 : XI r (.arg 2) = (32 : Int) := c501; have z1 : -2147483648 ≤ XI r (.arg 2) := b2; have z2 : XI r (.arg 2) < 2147483648 := d2; omega) : XI r (.arg 2) = (32 : Int))
                have c527 : xhid (¬ (XI r (.arg 2) = (0 : Int))) := ((by have z0 : XI r (.arg 2) = (32 : Int) := c526; have z1 : -2147483648 ≤ XI r (.arg 2) := b2; have z2 : XI r (.arg 2) < 2147483648 := d2; omega) : ¬ (XI r (.arg 2) = (0 : Int)))
                have c528 : xhid ((0 : Int) ≤ XI r (.arg 3)) := ((by have z0 : ¬ (XI r (.arg 3) ≤ (24 : Int)) := c505; have z1 : -2147483648 ≤ XI r (.arg 3) := b3; have z2 : XI r (.arg 3) < 2147483648 := d3; omega) : (0 : Int) ≤ XI r (.arg 3))
                have c529 : xhid (¬ (XI r (.arg 2) = (0 : Int))) := ((by have z0 : ¬ (XI r (.arg 2) = (0 : Int)) := c527; have z1 : -2147483648 ≤ XI r (.arg 2) := b2; have z2 : XI r (.arg 2) < 2147483648 := d2; omega) : ¬ (XI r (.arg 2) = (0 : Int)))
                have c530 : xhid (¬ (XI r (.arg 3) ≤ (24 : Int))) := ((by have z0 : ¬ (XI r (.arg 3) ≤ (24 : Int)) := c505; have z1 : -2147483648 ≤ XI r (.arg 3) := b3; have z2 : XI r (.arg 3) < 2147483648 := d3; omega) : ¬ (XI r (.arg 3) ≤ (24 : Int)))
                have c531 : xhid (XI r (.sub (.arg 49) (.int 6)) < (6 : Int)) := ((by omega) : XI r (.sub (.arg 49) (.int 6)) < (6 : Int))
                refine ⟨177, _, ?_, lf_34_41⟩
                refine xc_cons (xh_gt_F (XI_lit (by decide +kernel)) rfl h0) ?_
                refine xc_cons (xh_lt_T (XI_lit (by decide +kernel)) rfl h1) ?_
                refine xc_cons (xh_eq_T rfl (XI_lit (by decide +kernel)) hk) ?_
                refine xc_cons (xh_lt_T (XI_lit (by decide +kernel)) rfl c1) ?_
                refine xc_cons (xh_eq_T rfl (XI_lit (by decide +kernel)) c413) ?_
                refine xc_cons (xh_lt_T (XI_lit (by decide +kernel)) rfl c414) ?_
                refine xc_cons (xh_lt_T (XI_lit (by decide +kernel)) rfl c415) ?_
                refine xc_cons (xh_eq_F rfl (XI_lit (by decide +kernel)) c416) ?_
                refine xc_cons (xh_eq_F rfl (XI_lit (by decide +kernel)) c428) ?_
                refine xc_cons (xh_eq_F rfl (XI_lit (by decide +kernel)) c463) ?_
                refine xc_cons (xh_eq_T rfl (XI_lit (by decide +kernel)) c501) ?_
                refine xc_cons (xh_eq_F rfl (XI_lit (by decide +kernel)) c502) ?_
                refine xc_cons (xh_ge_T rfl (XI_lit (by decide +kernel)) c503) ?_
                refine xc_cons (xh_eq_F rfl (XI_lit (by decide +kernel)) c504) ?_
                refine xc_cons (xh_le_F rfl (XI_lit (by decide +kernel)) c505) ?_
                refine xc_cons (xh_lt_T (XI_lit (by decide +kernel)) rfl c520) ?_
                refine xc_cons (xh_eq_T rfl (XI_lit (by decide +kernel)) c413) ?_
                refine xc_cons (xh_lt_T (XI_lit (by decide +kernel)) rfl c521) ?_
                refine xc_cons (xh_lt_T (XI_lit (by decide +kernel)) rfl c522) ?_
                refine xc_cons (xh_eq_F rfl (XI_lit (by decide +kernel)) c523) ?_
                refine xc_cons (xh_eq_F rfl (XI_lit (by decide +kernel)) c524) ?_
                refine xc_cons (xh_eq_F rfl (XI_lit (by decide +kernel)) c525) ?_
                refine xc_cons (xh_eq_T rfl (XI_lit (by decide +kernel)) c526) ?_
                refine xc_cons (xh_eq_F rfl (XI_lit (by decide +kernel)) c527) ?_
                refine xc_cons (xh_ge_T rfl (XI_lit (by decide +kernel)) c528) ?_
                refine xc_cons (xh_eq_F rfl (XI_lit (by decide +kernel)) c529) ?_
                refine xc_cons (xh_le_F rfl (XI_lit (by decide +kernel)) c530) ?_
                refine xc_cons (xh_gt_T (XI_lit (by decide +kernel)) rfl c531) ?_
                exact xc_nil
            ·
              have c532 : xhid ((1 : Int) < XI r (.arg 49)) := ((by have z0 : (3 : Int) < XI r (.arg 49) := c415; omega) : (1 : Int) < XI r (.arg 49))
              have c533 : xhid ((2 : Int) < XI r (.arg 49)) := ((by have z0 : (3 : Int) < XI r (.arg 49) := c415; omega) : (2 : Int) < XI r (.arg 49))
              have c534 : xhid ((3 : Int) < XI r (.arg 49)) := ((by have z0 : (3 : Int) < XI r (.arg 49) := c415; omega) : (3 : Int) < XI r (.arg 49))
              have c535 : xhid (¬ (XI r (.arg 2) = (0 : Int))) := ((by have z0 : ¬ (XI r (.arg 2) = (0 : Int)) := c502; have z1 : -2147483648 ≤ XI r (.arg 2) := b2; have z2 : XI r (.arg 2) < 2147483648 := d2; omega) : ¬ (XI r (.arg 2) = (0 : Int)))
              have c536 : xhid (¬ (XI r (.arg 2) = (8 : Int))) := ((by have z0 : XI r (.arg 2) = (32 : Int) := c501; have z1 : -2147483648 ≤ XI r (.arg 2) := b2; have z2 : XI r (.arg 2) < 2147483648 := d2; omega) : ¬ (XI r (.arg 2) = (8 : Int)))
              have c537 : xhid (¬ (XI r (.arg 2) = (16 : Int))) := ((by have z0 : XI r (.arg 2) = (32 : Int) := c501; have z1 : -2147483648 ≤ XI r (.arg 2) := b2; have z2 : XI r (.arg 2) < 2147483648 := d2; omega) : ¬ (XI r (.arg 2) = (16 : Int)))
              have c538 : xhid (XI r (.arg 2) = (32 : Int)) := ((by have z0 : XI r (.arg 2) = (32 : Int) := c501; have z1 : -2147483648 ≤ XI r (.arg 2) := b2; have z2 : XI r (.arg 2) < 2147483648 := d2; omega) : XI r (.arg 2) = (32 : Int))
              have c539 : xhid (¬ (XI r (.arg 2) = (0 : Int))) := ((by have z0 : XI r (.arg 2) = (32 : Int) := c538; have z1 : -2147483648 ≤ XI r (.arg 2) := b2; have z2 : XI r (.arg 2) < 2147483648 := d2; omega) : ¬ (XI r (.arg 2) = (0 : Int)))
              have c540 : xhid (¬ ((0 : Int) ≤ XI r (.arg 3))) := ((by have z0 : ¬ ((0 : Int) ≤ XI r (.arg 3)) := c503; have z1 : -2147483648 ≤ XI r (.arg 3) := b3; have z2 : XI r (.arg 3) < 2147483648 := d3; omega) : ¬ ((0 : Int) ≤ XI r (.arg 3)))
              have c541 : xhid (XI r (.sub (.arg 49) (.int 6)) < (6 : Int)) := ((by omega) : XI r (.sub (.arg 49) (.int 6)) < (6 : Int))
              refine ⟨167, _, ?_, lf_34_42⟩
              refine xc_cons (xh_gt_F (XI_lit (by decide +kernel)) rfl h0) ?_
              refine xc_cons (xh_lt_T (XI_lit (by decide +kernel)) rfl h1) ?_
              refine xc_cons (xh_eq_T rfl (XI_lit (by decide +kernel)) hk) ?_
              refine xc_cons (xh_lt_T (XI_lit (by decide +kernel)) rfl c1) ?_
              refine xc_cons (xh_eq_T rfl (XI_lit (by decide +kernel)) c413) ?_
              refine xc_cons (xh_lt_T (XI_lit (by decide +kernel)) rfl c414) ?_
              refine xc_cons (xh_lt_T (XI_lit (by decide +kernel)) rfl c415) ?_
              refine xc_cons (xh_eq_F rfl (XI_lit (by decide +kernel)) c416) ?_
              refine xc_cons (xh_eq_F rfl (XI_lit (by decide +kernel)) c428) ?_
              refine xc_cons (xh_eq_F rfl (XI_lit (by decide +kernel)) c463) ?_
              refine xc_cons (xh_eq_T rfl (XI_lit (by decide +kernel)) c501) ?_
              refine xc_cons (xh_eq_F rfl (XI_lit (by decide +kernel)) c502) ?_
              refine xc_cons (xh_ge_F rfl (XI_lit (by decide +kernel)) c503) ?_
              refine xc_cons (xh_lt_T (XI_lit (by decide +kernel)) rfl c532) ?_
              refine xc_cons (xh_eq_T rfl (XI_lit (by decide +kernel)) c413) ?_
              refine xc_cons (xh_lt_T (XI_lit (by decide +kernel)) rfl c533) ?_
              refine xc_cons (xh_lt_T (XI_lit (by decide +kernel)) rfl c534) ?_
              refine xc_cons (xh_eq_F rfl (XI_lit (by decide +kernel)) c535) ?_
              refine xc_cons (xh_eq_F rfl (XI_lit (by decide +kernel)) c536) ?_
              refine xc_cons (xh_eq_F rfl (XI_lit (by decide +kernel)) c537) ?_
              refine xc_cons (xh_eq_T rfl (XI_lit (by decide +kernel)) c538) ?_
              refine xc_cons (xh_eq_F rfl (XI_lit (by decide +kernel)) c539) ?_
              refine xc_cons (xh_ge_F rfl (XI_lit (by decide +kernel)) c540) ?_
              refine xc_cons (xh_gt_T (XI_lit (by decide +kernel)) rfl c541) ?_
              exact xc_nil
          ·
            have c542 : xhid ((1 : Int) < XI r (.arg 49)) := ((by have z0 : (3 : Int) < XI r (.arg 49) := c415; omega) : (1 : Int) < XI r (.arg 49))
            have c543 : xhid ((2 : Int) < XI r (.arg 49)) := ((by have z0 : (3 : Int) < XI r (.arg 49) := c415; omega) : (2 : Int) < XI r (.arg 49))
            have c544 : xhid ((3 : Int) < XI r (.arg 49)) := ((by have z0 : (3 : Int) < XI r (.arg 49) := c415; omega) : (3 : Int) < XI r (.arg 49))
            have c545 : xhid (¬ (XI r (.arg 2) = (0 : Int))) := ((by have z0 : ¬ (XI r (.arg 2) = (0 : Int)) := c416; have z1 : -2147483648 ≤ XI r (.arg 2) := b2; have z2 : XI r (.arg 2) < 2147483648 := d2; omega) : ¬ (XI r (.arg 2) = (0 : Int)))
            have c546 : xhid (¬ (XI r (.arg 2) = (8 : Int))) := ((by have z0 : ¬ (XI r (.arg 2) = (8 : Int)) := c428; have z1 : -2147483648 ≤ XI r (.arg 2) := b2; have z2 : XI r (.arg 2) < 2147483648 := d2; omega) : ¬ (XI r (.arg 2) = (8 : Int)))
            have c547 : xhid (¬ (XI r (.arg 2) = (16 : Int))) := ((by have z0 : ¬ (XI r (.arg 2) = (16 : Int)) := c463; have z1 : -2147483648 ≤ XI r (.arg 2) := b2; have z2 : XI r (.arg 2) < 2147483648 := d2; omega) : ¬ (XI r (.arg 2) = (16 : Int)))
            have c548 : xhid (¬ (XI r (.arg 2) = (32 : Int))) := ((by have z0 : ¬ (XI r (.arg 2) = (32 : Int)) := c501; have z1 : -2147483648 ≤ XI r (.arg 2) := b2; have z2 : XI r (.arg 2) < 2147483648 := d2; omega) : ¬ (XI r (.arg 2) = (32 : Int)))
            have c549 : xhid (XI r (.sub (.arg 49) (.int 6)) < (6 : Int)) := ((by omega) : XI r (.sub (.arg 49) (.int 6)) < (6 : Int))
            refine ⟨159, _, ?_, lf_34_43⟩
            refine xc_cons (xh_gt_F (XI_lit (by decide +kernel)) rfl h0) ?_
            refine xc_cons (xh_lt_T (XI_lit (by decide +kernel)) rfl h1) ?_
            refine xc_cons (xh_eq_T rfl (XI_lit (by decide +kernel)) hk) ?_
            refine xc_cons (xh_lt_T (XI_lit (by decide +kernel)) rfl c1) ?_
            refine xc_cons (xh_eq_T rfl (XI_lit (by decide +kernel)) c413) ?_
            refine xc_cons (xh_lt_T (XI_lit (by decide +kernel)) rfl c414) ?_
            refine xc_cons (xh_lt_T (XI_lit (by decide +kernel)) rfl c415) ?_
            refine xc_cons (xh_eq_F rfl (XI_lit (by decide +kernel)) c416) ?_
            refine xc_cons (xh_eq_F rfl (XI_lit (by decide +kernel)) c428) ?_
            refine xc_cons (xh_eq_F rfl (XI_lit (by decide +kernel)) c463) ?_
            refine xc_cons (xh_eq_F rfl (XI_lit (by decide +kernel)) c501) ?_
            refine xc_cons (xh_lt_T (XI_lit (by decide +kernel)) rfl c542) ?_
            refine xc_cons (xh_eq_T rfl (XI_lit (by decide +kernel)) c413) ?_
            refine xc_cons (xh_lt_T (XI_lit (by decide +kernel)) rfl c543) ?_
            refine xc_cons (xh_lt_T (XI_lit (by decide +kernel)) rfl c544) ?_
            refine xc_cons (xh_eq_F rfl (XI_lit (by decide +kernel)) c545) ?_
            refine xc_cons (xh_eq_F rfl (XI_lit (by decide +kernel)) c546) ?_
            refine xc_cons (xh_eq_F rfl (XI_lit (by decide +kernel)) c547) ?_
            refine xc_cons (xh_eq_F rfl (XI_lit (by decide +kernel)) c548) ?_
            refine xc_cons (xh_gt_T (XI_lit (by decide +kernel)) rfl c549) ?_
            exact xc_nil
  have c550 : xhid ((2 : Int) < XI r (.arg 49)) := ((by have z0 : ¬ (XI r (.sub (.arg 49) (.int 6)) < (0 : Int)) := h0; omega) : (2 : Int) < XI r (.arg 49))
  have c551 : xhid ((3 : Int) < XI r (.arg 49)) := ((by have z0 : ¬ (XI r (.sub (.arg 49) (.int 6)) < (0 : Int)) := h0; omega) : (3 : Int) < XI r (.arg 49))
  refine (Classical.em (XI r (.arg 1) < (0 : Int))).elim (fun (c552 : xhid (XI r (.arg 1) < (0 : Int))) => ?_) (fun (c552 : xhid (¬ (XI r (.arg 1) < (0 : Int)))) => ?_)
  ·
    have c553 : xhid ((1 : Int) < XI r (.arg 49)) := ((by have z0 : (3 : Int) < XI r (.arg 49) := c551; omega) : (1 : Int) < XI r (.arg 49))
    have c554 : xhid ((2 : Int) < XI r (.arg 49)) := ((by have z0 : (3 : Int) < XI r (.arg 49) := c551; omega) : (2 : Int) < XI r (.arg 49))
    have c555 : xhid ((3 : Int) < XI r (.arg 49)) := ((by have z0 : (3 : Int) < XI r (.arg 49) := c551; omega) : (3 : Int) < XI r (.arg 49))
    have c556 : xhid (XI r (.arg 1) < (0 : Int)) := ((by have z0 : XI r (.arg 1) < (0 : Int) := c552; have z1 : -2147483648 ≤ XI r (.arg 1) := b1; have z2 : XI r (.arg 1) < 2147483648 := d1; omega) : XI r (.arg 1) < (0 : Int))
    have c557 : xhid (XI r (.sub (.arg 49) (.int 6)) < (6 : Int)) := ((by omega) : XI r (.sub (.arg 49) (.int 6)) < (6 : Int))
    refine ⟨129, _, ?_, lf_34_44⟩
    refine xc_cons (xh_gt_F (XI_lit (by decide +kernel)) rfl h0) ?_
    refine xc_cons (xh_lt_T (XI_lit (by decide +kernel)) rfl h1) ?_
    refine xc_cons (xh_eq_T rfl (XI_lit (by decide +kernel)) hk) ?_
    refine xc_cons (xh_lt_T (XI_lit (by decide +kernel)) rfl c1) ?_
    refine xc_cons (xh_lt_T (XI_lit (by decide +kernel)) rfl c550) ?_
    refine xc_cons (xh_lt_T (XI_lit (by decide +kernel)) rfl c551) ?_
    refine xc_cons (xh_lt_T rfl (XI_lit (by decide +kernel)) c552) ?_
    refine xc_cons (xh_lt_T (XI_lit (by decide +kernel)) rfl c553) ?_
    refine xc_cons (xh_lt_T (XI_lit (by decide +kernel)) rfl c554) ?_
    refine xc_cons (xh_lt_T (XI_lit (by decide +kernel)) rfl c555) ?_
    refine xc_cons (xh_lt_T rfl (XI_lit (by decide +kernel)) c556) ?_
    refine xc_cons (xh_gt_T (XI_lit (by decide +kernel)) rfl c557) ?_
    exact xc_nil
  ·
    have c558 : xhid ((4 : Int) ≤ XI r (.arg 1)) := ((by have z0 : ¬ (XI r (.arg 1) < (0 : Int)) := c552; have z1 : ¬ (XI r (.arg 1) = (0 : Int)) := c2; have z2 : ¬ (XI r (.arg 1) = (1 : Int)) := c139; have z3 : ¬ (XI r (.arg 1) = (2 : Int)) := c276; have z4 : ¬ (XI r (.arg 1) = (3 : Int)) := c413; have z5 : -2147483648 ≤ XI r (.arg 1) := b1; have z6 : XI r (.arg 1) < 2147483648 := d1; omega) : (4 : Int) ≤ XI r (.arg 1))
    have c559 : xhid ((1 : Int) < XI r (.arg 49)) := ((by have z0 : (3 : Int) < XI r (.arg 49) := c551; omega) : (1 : Int) < XI r (.arg 49))
    have c560 : xhid ((2 : Int) < XI r (.arg 49)) := ((by have z0 : (3 : Int) < XI r (.arg 49) := c551; omega) : (2 : Int) < XI r (.arg 49))
    have c561 : xhid ((3 : Int) < XI r (.arg 49)) := ((by have z0 : (3 : Int) < XI r (.arg 49) := c551; omega) : (3 : Int) < XI r (.arg 49))
    have c562 : xhid (¬ (XI r (.arg 1) < (0 : Int))) := ((by have z0 : (4 : Int) ≤ XI r (.arg 1) := c558; have z1 : -2147483648 ≤ XI r (.arg 1) := b1; have z2 : XI r (.arg 1) < 2147483648 := d1; omega) : ¬ (XI r (.arg 1) < (0 : Int)))
    have c563 : xhid ((3 : Int) < XI r (.arg 1)) := ((by have z0 : ¬ (XI r (.arg 1) < (0 : Int)) := c562; have z1 : ¬ (XI r (.arg 1) = (0 : Int)) := c2; have z2 : ¬ (XI r (.arg 1) = (1 : Int)) := c139; have z3 : ¬ (XI r (.arg 1) = (2 : Int)) := c276; have z4 : ¬ (XI r (.arg 1) = (3 : Int)) := c413; have z5 : -2147483648 ≤ XI r (.arg 1) := b1; have z6 : XI r (.arg 1) < 2147483648 := d1; omega) : (3 : Int) < XI r (.arg 1))
    have c564 : xhid (XI r (.sub (.arg 49) (.int 6)) < (6 : Int)) := ((by omega) : XI r (.sub (.arg 49) (.int 6)) < (6 : Int))
    refine ⟨135, _, ?_, lf_34_45⟩
    refine xc_cons (xh_gt_F (XI_lit (by decide +kernel)) rfl h0) ?_
    refine xc_cons (xh_lt_T (XI_lit (by decide +kernel)) rfl h1) ?_
    refine xc_cons (xh_eq_T rfl (XI_lit (by decide +kernel)) hk) ?_
    refine xc_cons (xh_lt_T (XI_lit (by decide +kernel)) rfl c1) ?_
    refine xc_cons (xh_lt_T (XI_lit (by decide +kernel)) rfl c550) ?_
    refine xc_cons (xh_lt_T (XI_lit (by decide +kernel)) rfl c551) ?_
    refine xc_cons (xh_lt_F rfl (XI_lit (by decide +kernel)) c552) ?_
    refine xc_cons (xh_ge_T rfl (XI_lit (by decide +kernel)) c558) ?_
    refine xc_cons (xh_lt_T (XI_lit (by decide +kernel)) rfl c559) ?_
    refine xc_cons (xh_lt_T (XI_lit (by decide +kernel)) rfl c560) ?_
    refine xc_cons (xh_lt_T (XI_lit (by decide +kernel)) rfl c561) ?_
    refine xc_cons (xh_lt_F rfl (XI_lit (by decide +kernel)) c562) ?_
    refine xc_cons (xh_gt_T rfl (XI_lit (by decide +kernel)) c563) ?_
    refine xc_cons (xh_gt_T (XI_lit (by decide +kernel)) rfl c564) ?_
    exact xc_nil
