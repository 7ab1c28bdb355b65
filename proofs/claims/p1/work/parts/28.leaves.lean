theorem lf_28_0 : xfin (xev 102 20 xlaw 18 xlo0 [] xh0 [(.gt, .int 0, .sub (.arg 49) (.int 6), false), (.lt, .int 0, .arg 49, true), (.eq, .op2 .iand (.arg 0) (.int 63), .int 28, true), (.lt, .int 1, .arg 49, true), (.lt, .arg 1, .int 1, true), (.lt, .int 1, .arg 49, true), (.lt, .arg 1, .int 1, true), (.gt, .int 6, .sub (.arg 49) (.int 6), true)]) = true := by decide +kernel
theorem lf_28_1 : xfin (xev 108 20 xlaw 18 xlo0 [] xh0 [(.gt, .int 0, .sub (.arg 49) (.int 6), false), (.lt, .int 0, .arg 49, true), (.eq, .op2 .iand (.arg 0) (.int 63), .int 28, true), (.lt, .int 1, .arg 49, true), (.lt, .arg 1, .int 1, false), (.le, .arg 1, .int 60, false), (.lt, .int 1, .arg 49, true), (.lt, .arg 1, .int 1, false), (.gt, .arg 1, .int 60, true), (.gt, .int 6, .sub (.arg 49) (.int 6), true)]) = true := by decide +kernel
set_option maxHeartbeats 4000000 in
theorem cw_28 {r : Nat → Value} (hr : xRr r) (h49 : XI r (.arg 49) = 6) (hs : XI r (.sub (.arg 49) (.int 6)) = 0) (hk : XI r (.op2 .iand (.arg 0) (.int 63)) = 28) : ∃ (r' : Nat → Value) (E : List xB) (o : xO), xRr r' ∧ (∀ i, ¬ (6 ≤ i ∧ i ≤ 48) → r' i = r i) ∧ (∀ q ∈ E, xhold r' q) ∧ xS1 r' 20 xlaw 18 xlo0 [] xh0 E o ∧ xfin (some o) = true := by
  have h0 : ¬ (XI r (.sub (.arg 49) (.int 6)) < (0 : Int)) := by omega
  have h1 : (0 : Int) < XI r (.arg 49) := by omega
  have b0 : xhid (-2147483648 ≤ XI r (.arg 0)) := XI_lo r (.arg 0)
  have d0 : xhid (XI r (.arg 0) < 2147483648) := XI_hi r (.arg 0)
  have b1 : xhid (-2147483648 ≤ XI r (.arg 1)) := XI_lo r (.arg 1)
  have d1 : xhid (XI r (.arg 1) < 2147483648) := XI_hi r (.arg 1)
  have b2 : xhid (-2147483648 ≤ XI r (.arg 2)) := XI_lo r (.arg 2)
  have d2 : xhid (XI r (.arg 2) < 2147483648) := XI_hi r (.arg 2)
  have b3 : xhid (-2147483648 ≤ XI r (.arg 3)) := XI_lo r (.arg 3)
  have d3 : xhid (XI r (.arg 3) < 2147483648) := XI_hi r (.arg 3)
  have b4 : xhid (-2147483648 ≤ XI r (.arg 4)) := XI_lo r (.arg 4)
  have d4 : xhid (XI r (.arg 4) < 2147483648) := XI_hi r (.arg 4)
  have b5 : xhid (-2147483648 ≤ XI r (.arg 5)) := XI_lo r (.arg 5)
  have d5 : xhid (XI r (.arg 5) < 2147483648) := XI_hi r (.arg 5)
  have c1 : xhid ((1 : Int) < XI r (.arg 49)) := ((by have z0 : ¬ (XI r (.sub (.arg 49) (.int 6)) < (0 : Int)) := h0; omega) : (1 : Int) < XI r (.arg 49))
  refine (Classical.em (XI r (.arg 1) < (1 : Int))).elim (fun (c2 : xhid (XI r (.arg 1) < (1 : Int))) => ?_) (fun (c2 : xhid (¬ (XI r (.arg 1) < (1 : Int)))) => ?_)
  ·
    have c3 : xhid ((1 : Int) < XI r (.arg 49)) := ((by have z0 : (1 : Int) < XI r (.arg 49) := c1; omega) : (1 : Int) < XI r (.arg 49))
    have c4 : xhid (XI r (.arg 1) < (1 : Int)) := ((by have z0 : XI r (.arg 1) < (1 : Int) := c2; have z1 : -2147483648 ≤ XI r (.arg 1) := b1; have z2 : XI r (.arg 1) < 2147483648 := d1; omega) : XI r (.arg 1) < (1 : Int))
    have c5 : xhid (XI r (.sub (.arg 49) (.int 6)) < (6 : Int)) := ((by omega) : XI r (.sub (.arg 49) (.int 6)) < (6 : Int))
    refine xcov_ev hr ⟨102, _, ?_, lf_28_0⟩
    refine xc_cons (xh_gt_F (XI_lit (by decide +kernel)) rfl h0) ?_
    refine xc_cons (xh_lt_T (XI_lit (by decide +kernel)) rfl h1) ?_
    refine xc_cons (xh_eq_T rfl (XI_lit (by decide +kernel)) hk) ?_
    refine xc_cons (xh_lt_T (XI_lit (by decide +kernel)) rfl c1) ?_
    refine xc_cons (xh_lt_T rfl (XI_lit (by decide +kernel)) c2) ?_
    refine xc_cons (xh_lt_T (XI_lit (by decide +kernel)) rfl c3) ?_
    refine xc_cons (xh_lt_T rfl (XI_lit (by decide +kernel)) c4) ?_
    refine xc_cons (xh_gt_T (XI_lit (by decide +kernel)) rfl c5) ?_
    exact xc_nil
  ·
    refine (Classical.em (XI r (.arg 1) ≤ (60 : Int))).elim (fun (c6 : xhid (XI r (.arg 1) ≤ (60 : Int))) => ?_) (fun (c6 : xhid (¬ (XI r (.arg 1) ≤ (60 : Int)))) => ?_)
    ·
      have c7 : xhid (XI r (.add (.int 0) (.arg 1)) = (0 : Int) + XI r (.arg 1)) := XI_add (XI_lit (by decide +kernel)) rfl (by have z0 : ¬ (XI r (.arg 1) < (1 : Int)) := c2; have z1 : XI r (.arg 1) ≤ (60 : Int) := c6; have z2 : -2147483648 ≤ XI r (.arg 1) := b1; have z3 : XI r (.arg 1) < 2147483648 := d1; omega) (by have z0 : ¬ (XI r (.arg 1) < (1 : Int)) := c2; have z1 : XI r (.arg 1) ≤ (60 : Int) := c6; have z2 : -2147483648 ≤ XI r (.arg 1) := b1; have z3 : XI r (.arg 1) < 2147483648 := d1; omega)
      have c8 : xhid (XI r (.add (.int 0) (.arg 1)) ≤ (9999 : Int)) := ((by have z0 : XI r (.arg 1) ≤ (60 : Int) := c6; have z1 : XI r (.add (.int 0) (.arg 1)) = (0 : Int) + XI r (.arg 1) := c7; have z2 : -2147483648 ≤ XI r (.arg 1) := b1; have z3 : XI r (.arg 1) < 2147483648 := d1; omega) : XI r (.add (.int 0) (.arg 1)) ≤ (9999 : Int))
      exact mn_28 hr h49 hs hk (by have z0 : ¬ (XI r (.arg 1) < (1 : Int)) := c2; have z1 : -2147483648 ≤ XI r (.arg 1) := b1; have z2 : XI r (.arg 1) < 2147483648 := d1; omega) (by have z0 : XI r (.arg 1) ≤ (60 : Int) := c6; have z1 : -2147483648 ≤ XI r (.arg 1) := b1; have z2 : XI r (.arg 1) < 2147483648 := d1; omega)
    ·
      have c9 : xhid ((1 : Int) < XI r (.arg 49)) := ((by have z0 : (1 : Int) < XI r (.arg 49) := c1; omega) : (1 : Int) < XI r (.arg 49))
      have c10 : xhid (¬ (XI r (.arg 1) < (1 : Int))) := ((by have z0 : ¬ (XI r (.arg 1) ≤ (60 : Int)) := c6; have z1 : -2147483648 ≤ XI r (.arg 1) := b1; have z2 : XI r (.arg 1) < 2147483648 := d1; omega) : ¬ (XI r (.arg 1) < (1 : Int)))
      have c11 : xhid ((60 : Int) < XI r (.arg 1)) := ((by have z0 : ¬ (XI r (.arg 1) ≤ (60 : Int)) := c6; have z1 : -2147483648 ≤ XI r (.arg 1) := b1; have z2 : XI r (.arg 1) < 2147483648 := d1; omega) : (60 : Int) < XI r (.arg 1))
      have c12 : xhid (XI r (.sub (.arg 49) (.int 6)) < (6 : Int)) := ((by omega) : XI r (.sub (.arg 49) (.int 6)) < (6 : Int))
      refine xcov_ev hr ⟨108, _, ?_, lf_28_1⟩
      refine xc_cons (xh_gt_F (XI_lit (by decide +kernel)) rfl h0) ?_
      refine xc_cons (xh_lt_T (XI_lit (by decide +kernel)) rfl h1) ?_
      refine xc_cons (xh_eq_T rfl (XI_lit (by decide +kernel)) hk) ?_
      refine xc_cons (xh_lt_T (XI_lit (by decide +kernel)) rfl c1) ?_
      refine xc_cons (xh_lt_F rfl (XI_lit (by decide +kernel)) c2) ?_
      refine xc_cons (xh_le_F rfl (XI_lit (by decide +kernel)) c6) ?_
      refine xc_cons (xh_lt_T (XI_lit (by decide +kernel)) rfl c9) ?_
      refine xc_cons (xh_lt_F rfl (XI_lit (by decide +kernel)) c10) ?_
      refine xc_cons (xh_gt_T rfl (XI_lit (by decide +kernel)) c11) ?_
      refine xc_cons (xh_gt_T (XI_lit (by decide +kernel)) rfl c12) ?_
      exact xc_nil
