def xhid (p : Prop) : Prop := p
theorem XI_ex : ∃ f : (Nat → Value) → Jvm.Term → Int, ∀ r t, f r t = (xti (xdv r xid t)).toInt := ⟨fun r t => (xti (xdv r xid t)).toInt, fun _ _ => rfl⟩
/-- an int term's value (nothing unfolds it) -/
noncomputable def XI : (Nat → Value) → Jvm.Term → Int := Classical.choose XI_ex
theorem XI_eq (r : Nat → Value) (t : Jvm.Term) : XI r t = (xti (xdv r xid t)).toInt := Classical.choose_spec XI_ex r t
theorem XI_lit {r : Nat → Value} {v : Int32} {n : Int} (h : v.toInt = n) : XI r (.int v) = n := (XI_eq r _).trans h
theorem XI_lo (r : Nat → Value) (t : Jvm.Term) : -2147483648 ≤ XI r t := by
  have h := Int32.le_toInt (xti (xdv r xid t))
  rw [XI_eq]
  omega
theorem XI_hi (r : Nat → Value) (t : Jvm.Term) : XI r t < 2147483648 := by
  have h := Int32.toInt_lt (xti (xdv r xid t))
  rw [XI_eq]
  omega
section
variable {r : Nat → Value} {a b : Jvm.Term} {m n : Int}
theorem xh_lt_T (ha : XI r a = m) (hb : XI r b = n) (h : m < n) : xhold r (.lt, a, b, true) := by
  rw [XI_eq] at ha hb; subst ha; subst hb; exact Int32.lt_iff_toInt_lt.mpr h
theorem xh_lt_F (ha : XI r a = m) (hb : XI r b = n) (h : ¬ m < n) : xhold r (.lt, a, b, false) := by
  rw [XI_eq] at ha hb; subst ha; subst hb; exact fun q => h (Int32.lt_iff_toInt_lt.mp q)
theorem xh_gt_T (ha : XI r a = m) (hb : XI r b = n) (h : n < m) : xhold r (.gt, a, b, true) := by
  rw [XI_eq] at ha hb; subst ha; subst hb; exact Int32.lt_iff_toInt_lt.mpr h
theorem xh_gt_F (ha : XI r a = m) (hb : XI r b = n) (h : ¬ n < m) : xhold r (.gt, a, b, false) := by
  rw [XI_eq] at ha hb; subst ha; subst hb; exact fun q => h (Int32.lt_iff_toInt_lt.mp q)
theorem xh_ge_T (ha : XI r a = m) (hb : XI r b = n) (h : n ≤ m) : xhold r (.ge, a, b, true) := by
  rw [XI_eq] at ha hb; subst ha; subst hb; exact Int32.le_iff_toInt_le.mpr h
theorem xh_ge_F (ha : XI r a = m) (hb : XI r b = n) (h : ¬ n ≤ m) : xhold r (.ge, a, b, false) := by
  rw [XI_eq] at ha hb; subst ha; subst hb; exact fun q => h (Int32.le_iff_toInt_le.mp q)
theorem xh_le_T (ha : XI r a = m) (hb : XI r b = n) (h : m ≤ n) : xhold r (.le, a, b, true) := by
  rw [XI_eq] at ha hb; subst ha; subst hb; exact Int32.le_iff_toInt_le.mpr h
theorem xh_le_F (ha : XI r a = m) (hb : XI r b = n) (h : ¬ m ≤ n) : xhold r (.le, a, b, false) := by
  rw [XI_eq] at ha hb; subst ha; subst hb; exact fun q => h (Int32.le_iff_toInt_le.mp q)
theorem xh_eq_T (ha : XI r a = m) (hb : XI r b = n) (h : m = n) : xhold r (.eq, a, b, true) := by
  rw [XI_eq] at ha hb; subst ha; subst hb; exact Int32.toInt_inj.mp h
theorem xh_eq_F (ha : XI r a = m) (hb : XI r b = n) (h : ¬ m = n) : xhold r (.eq, a, b, false) := by
  rw [XI_eq] at ha hb; subst ha; subst hb; exact fun q => h (Int32.toInt_inj.mpr q)
theorem xh_ne_T (ha : XI r a = m) (hb : XI r b = n) (h : ¬ m = n) : xhold r (.ne, a, b, true) := by
  rw [XI_eq] at ha hb; subst ha; subst hb; exact fun q => h (Int32.toInt_inj.mpr q)
theorem xh_ne_F (ha : XI r a = m) (hb : XI r b = n) (h : ¬ ¬ m = n) : xhold r (.ne, a, b, false) := by
  rw [XI_eq] at ha hb; subst ha; subst hb; exact fun q => h (fun z => q (Int32.toInt_inj.mp z))
theorem xbm {x : Int} (h1 : -2147483648 ≤ x) (h2 : x ≤ 2147483647) : x.bmod (2 ^ 32) = x := by
  have e : (2 ^ 32 : Nat) = 4294967296 := rfl
  rw [e, Int.bmod_def]
  split <;> omega
theorem XI_add (ha : XI r a = m) (hb : XI r b = n) (h1 : -2147483648 ≤ m + n) (h2 : m + n ≤ 2147483647) : XI r (.add a b) = m + n := by
  rw [XI_eq] at ha hb ⊢
  subst ha; subst hb
  exact (Int32.toInt_add _ _).trans (xbm h1 h2)
theorem XI_sub (ha : XI r a = m) (hb : XI r b = n) (h1 : -2147483648 ≤ m - n) (h2 : m - n ≤ 2147483647) : XI r (.sub a b) = m - n := by
  rw [XI_eq] at ha hb ⊢
  subst ha; subst hb
  exact (Int32.toInt_sub _ _).trans (xbm h1 h2)
theorem XI_div {v : Int32} (ha : XI r a = m) (hv : v.toInt = n) (h0 : 0 ≤ m) (hn : 0 < n) : XI r (.div a (.int v)) = m / n := by
  have h3 : XI r (.div a (.int v)) = (m.tdiv n).bmod (2 ^ 32) := by
    rw [XI_eq] at ha ⊢
    subst ha; subst hv
    exact Int32.toInt_div _ _
  rw [h3, Int.tdiv_eq_ediv_of_nonneg h0]
  have hm : m < 2147483648 := by rw [← ha]; exact XI_hi r a
  have h4 : m / n ≤ m := Int.ediv_le_self n h0
  have h5 : 0 ≤ m / n := Int.ediv_nonneg h0 (by omega)
  exact xbm (by omega) (by omega)
theorem XI_rem {v : Int32} (ha : XI r a = m) (hv : v.toInt = n) (h0 : 0 ≤ m) (hn : 0 < n) : XI r (.rem a (.int v)) = m % n := by
  have hd := XI_div ha hv h0 hn
  have hm : m < 2147483648 := by rw [← ha]; exact XI_hi r a
  have h4 : m / n ≤ m := Int.ediv_le_self n h0
  have h5 : 0 ≤ m / n := Int.ediv_nonneg h0 (by omega)
  have h6 : m / n * n = m - m % n := by rw [Int.emod_def, Int.mul_comm]; omega
  have h7 := Int.emod_nonneg m (show n ≠ 0 by omega)
  have h8 : m % n ≤ m := by
    rw [Int.emod_def]
    have : 0 ≤ n * (m / n) := Int.mul_nonneg (by omega) h5
    omega
  have e1 : XI r (.rem a (.int v)) = (xti (xdv r xid a) - xti (xdv r xid a) / v * v).toInt := XI_eq r _
  have e2 : (xti (xdv r xid a) / v).toInt = m / n := (XI_eq r _).symm.trans hd
  have hin : (m - m % n).bmod (2 ^ 32) = m - m % n := xbm (by omega) (by omega)
  rw [e1, Int32.toInt_sub, Int32.toInt_mul, e2, hv, h6, show (xti (xdv r xid a)).toInt = m from (XI_eq r a).symm.trans ha, hin, show m - (m - m % n) = m % n by omega]
  exact xbm (by omega) (by omega)
theorem XI_max (ha : XI r a = m) (hb : XI r b = n) : XI r (.op2 .fcmpl a b) = if m < n then n else m := by
  rw [XI_eq] at ha hb ⊢
  subst ha; subst hb
  show (if xti (xdv r xid a) < xti (xdv r xid b) then xti (xdv r xid b) else xti (xdv r xid a)).toInt = _
  by_cases h : xti (xdv r xid a) < xti (xdv r xid b)
  · rw [if_pos h, if_pos (Int32.lt_iff_toInt_lt.mp h)]
  · rw [if_neg h, if_neg (fun q => h (Int32.lt_iff_toInt_lt.mpr q))]
theorem XI_min (ha : XI r a = m) (hb : XI r b = n) : XI r (.op2 .fcmpg a b) = if n < m then n else m := by
  rw [XI_eq] at ha hb ⊢
  subst ha; subst hb
  show (if xti (xdv r xid b) < xti (xdv r xid a) then xti (xdv r xid b) else xti (xdv r xid a)).toInt = _
  by_cases h : xti (xdv r xid b) < xti (xdv r xid a)
  · rw [if_pos h, if_pos (Int32.lt_iff_toInt_lt.mp h)]
  · rw [if_neg h, if_neg (fun q => h (Int32.lt_iff_toInt_lt.mpr q))]
end
theorem xc_nil {r : Nat → Value} : ∀ q ∈ ([] : List xB), xhold r q := fun _ h => absurd h List.not_mem_nil
theorem xc_cons {r : Nat → Value} {z : xB} {E : List xB} (h : xhold r z) (t : ∀ q ∈ E, xhold r q) : ∀ q ∈ z :: E, xhold r q := List.forall_mem_cons.mpr ⟨h, t⟩

theorem lf_0_0 : xfin (xev 110 20 xlaw 18 xlo0 [] xh0 [(.gt, .int 0, .sub (.arg 49) (.int 6), false), (.lt, .int 0, .arg 49, true), (.eq, .op2 .iand (.arg 0) (.int 63), .int 0, true), (.gt, .int 6, .sub (.arg 49) (.int 6), true)]) = true := by decide +kernel
set_option maxHeartbeats 4000000 in
theorem cv_0 {r : Nat → Value} (h49 : XI r (.arg 49) = 6) (hs : XI r (.sub (.arg 49) (.int 6)) = 0) (hk : XI r (.op2 .iand (.arg 0) (.int 63)) = 0) : ∃ (f : Nat) (E : List xB), (∀ q ∈ E, xhold r q) ∧ xfin (xev f 20 xlaw 18 xlo0 [] xh0 E) = true := by
  have h0 : ¬ (XI r (.sub (.arg 49) (.int 6)) < (0 : Int)) := by omega
  have h1 : (0 : Int) < XI r (.arg 49) := by omega
  have b0 : xhid (-2147483648 ≤ XI r (.arg 0)) := XI_lo r (.arg 0)
  have d0 : xhid (XI r (.arg 0) < 2147483648) := XI_hi r (.arg 0)
  have b1 : xhid (-2147483648 ≤ XI r (.arg 1)) := XI_lo r (.arg 1)
  have d1 : xhid (XI r (.arg 1) < 2147483648) := XI_hi r (.arg 1)
  have b2 : xhid (-2147483648 ≤ XI r (.arg 2)) := XI_lo r (.arg 2)
  have d2 : xhid (XI r (.arg 2) < 2147483648) := XI_hi r (.arg 2)
  have b3 : xhid (-2147483648 ≤ XI r (.arg 3)) := XI_lo r (.arg 3)
  have d3 : xhid (XI r (.arg 3) < 2147483648) := XI_hi r (.arg 3)
  have b4 : xhid (-2147483648 ≤ XI r (.arg 4)) := XI_lo r (.arg 4)
  have d4 : xhid (XI r (.arg 4) < 2147483648) := XI_hi r (.arg 4)
  have b5 : xhid (-2147483648 ≤ XI r (.arg 5)) := XI_lo r (.arg 5)
  have d5 : xhid (XI r (.arg 5) < 2147483648) := XI_hi r (.arg 5)
  have c1 : xhid (XI r (.sub (.arg 49) (.int 6)) < (6 : Int)) := ((by omega) : XI r (.sub (.arg 49) (.int 6)) < (6 : Int))
  refine ⟨110, _, ?_, lf_0_0⟩
  refine xc_cons (xh_gt_F (XI_lit (by decide +kernel)) rfl h0) ?_
  refine xc_cons (xh_lt_T (XI_lit (by decide +kernel)) rfl h1) ?_
  refine xc_cons (xh_eq_T rfl (XI_lit (by decide +kernel)) hk) ?_
  refine xc_cons (xh_gt_T (XI_lit (by decide +kernel)) rfl c1) ?_
  exact xc_nil
theorem lf_1_0 : xfin (xev 126 20 xlaw 18 xlo0 [] xh0 [(.gt, .int 0, .sub (.arg 49) (.int 6), false), (.lt, .int 0, .arg 49, true), (.eq, .op2 .iand (.arg 0) (.int 63), .int 1, true), (.lt, .int 1, .arg 49, true), (.lt, .int 2, .arg 49, true), (.lt, .arg 1, .int 0, true), (.lt, .int 1, .arg 49, true), (.lt, .int 2, .arg 49, true), (.lt, .arg 1, .int 0, true), (.gt, .int 6, .sub (.arg 49) (.int 6), true)]) = true := by decide +kernel
theorem lf_1_1 : xfin (xev 134 20 xlaw 18 xlo0 [] xh0 [(.gt, .int 0, .sub (.arg 49) (.int 6), false), (.lt, .int 0, .arg 49, true), (.eq, .op2 .iand (.arg 0) (.int 63), .int 1, true), (.lt, .int 1, .arg 49, true), (.lt, .int 2, .arg 49, true), (.lt, .arg 1, .int 0, false), (.ge, .arg 1, .int 0, true), (.lt, .int 1, .arg 49, true), (.lt, .int 2, .arg 49, true), (.lt, .arg 1, .int 0, false), (.gt, .arg 1, .int (-1), true), (.gt, .int 6, .sub (.arg 49) (.int 6), true)]) = true := by decide +kernel
set_option maxHeartbeats 4000000 in
theorem cv_1 {r : Nat → Value} (h49 : XI r (.arg 49) = 6) (hs : XI r (.sub (.arg 49) (.int 6)) = 0) (hk : XI r (.op2 .iand (.arg 0) (.int 63)) = 1) : ∃ (f : Nat) (E : List xB), (∀ q ∈ E, xhold r q) ∧ xfin (xev f 20 xlaw 18 xlo0 [] xh0 E) = true := by
  have h0 : ¬ (XI r (.sub (.arg 49) (.int 6)) < (0 : Int)) := by omega
  have h1 : (0 : Int) < XI r (.arg 49) := by omega
  have b0 : xhid (-2147483648 ≤ XI r (.arg 0)) := XI_lo r (.arg 0)
  have d0 : xhid (XI r (.arg 0) < 2147483648) := XI_hi r (.arg 0)
  have b1 : xhid (-2147483648 ≤ XI r (.arg 1)) := XI_lo r (.arg 1)
  have d1 : xhid (XI r (.arg 1) < 2147483648) := XI_hi r (.arg 1)
  have b2 : xhid (-2147483648 ≤ XI r (.arg 2)) := XI_lo r (.arg 2)
  have d2 : xhid (XI r (.arg 2) < 2147483648) := XI_hi r (.arg 2)
  have b3 : xhid (-2147483648 ≤ XI r (.arg 3)) := XI_lo r (.arg 3)
  have d3 : xhid (XI r (.arg 3) < 2147483648) := XI_hi r (.arg 3)
  have b4 : xhid (-2147483648 ≤ XI r (.arg 4)) := XI_lo r (.arg 4)
  have d4 : xhid (XI r (.arg 4) < 2147483648) := XI_hi r (.arg 4)
  have b5 : xhid (-2147483648 ≤ XI r (.arg 5)) := XI_lo r (.arg 5)
  have d5 : xhid (XI r (.arg 5) < 2147483648) := XI_hi r (.arg 5)
  have c1 : xhid ((1 : Int) < XI r (.arg 49)) := ((by have z0 : ¬ (XI r (.sub (.arg 49) (.int 6)) < (0 : Int)) := h0; omega) : (1 : Int) < XI r (.arg 49))
  have c2 : xhid ((2 : Int) < XI r (.arg 49)) := ((by have z0 : ¬ (XI r (.sub (.arg 49) (.int 6)) < (0 : Int)) := h0; omega) : (2 : Int) < XI r (.arg 49))
  refine (Classical.em (XI r (.arg 1) < (0 : Int))).elim (fun (c3 : xhid (XI r (.arg 1) < (0 : Int))) => ?_) (fun (c3 : xhid (¬ (XI r (.arg 1) < (0 : Int)))) => ?_)
  ·
    have c4 : xhid ((1 : Int) < XI r (.arg 49)) := ((by have z0 : (2 : Int) < XI r (.arg 49) := c2; omega) : (1 : Int) < XI r (.arg 49))
    have c5 : xhid ((2 : Int) < XI r (.arg 49)) := ((by have z0 : (2 : Int) < XI r (.arg 49) := c2; omega) : (2 : Int) < XI r (.arg 49))
    have c6 : xhid (XI r (.arg 1) < (0 : Int)) := ((by have z0 : XI r (.arg 1) < (0 : Int) := c3; have z1 : -2147483648 ≤ XI r (.arg 1) := b1; have z2 : XI r (.arg 1) < 2147483648 := d1; omega) : XI r (.arg 1) < (0 : Int))
    have c7 : xhid (XI r (.sub (.arg 49) (.int 6)) < (6 : Int)) := ((by omega) : XI r (.sub (.arg 49) (.int 6)) < (6 : Int))
    refine ⟨126, _, ?_, lf_1_0⟩
    refine xc_cons (xh_gt_F (XI_lit (by decide +kernel)) rfl h0) ?_
    refine xc_cons (xh_lt_T (XI_lit (by decide +kernel)) rfl h1) ?_
    refine xc_cons (xh_eq_T rfl (XI_lit (by decide +kernel)) hk) ?_
    refine xc_cons (xh_lt_T (XI_lit (by decide +kernel)) rfl c1) ?_
    refine xc_cons (xh_lt_T (XI_lit (by decide +kernel)) rfl c2) ?_
    refine xc_cons (xh_lt_T rfl (XI_lit (by decide +kernel)) c3) ?_
    refine xc_cons (xh_lt_T (XI_lit (by decide +kernel)) rfl c4) ?_
    refine xc_cons (xh_lt_T (XI_lit (by decide +kernel)) rfl c5) ?_
    refine xc_cons (xh_lt_T rfl (XI_lit (by decide +kernel)) c6) ?_
    refine xc_cons (xh_gt_T (XI_lit (by decide +kernel)) rfl c7) ?_
    exact xc_nil
  ·
    have c8 : xhid ((0 : Int) ≤ XI r (.arg 1)) := ((by have z0 : ¬ (XI r (.arg 1) < (0 : Int)) := c3; have z1 : -2147483648 ≤ XI r (.arg 1) := b1; have z2 : XI r (.arg 1) < 2147483648 := d1; omega) : (0 : Int) ≤ XI r (.arg 1))
    have c9 : xhid ((1 : Int) < XI r (.arg 49)) := ((by have z0 : (2 : Int) < XI r (.arg 49) := c2; omega) : (1 : Int) < XI r (.arg 49))
    have c10 : xhid ((2 : Int) < XI r (.arg 49)) := ((by have z0 : (2 : Int) < XI r (.arg 49) := c2; omega) : (2 : Int) < XI r (.arg 49))
    have c11 : xhid (¬ (XI r (.arg 1) < (0 : Int))) := ((by have z0 : (0 : Int) ≤ XI r (.arg 1) := c8; have z1 : -2147483648 ≤ XI r (.arg 1) := b1; have z2 : XI r (.arg 1) < 2147483648 := d1; omega) : ¬ (XI r (.arg 1) < (0 : Int)))
    have c12 : xhid ((-1 : Int) < XI r (.arg 1)) := ((by have z0 : ¬ (XI r (.arg 1) < (0 : Int)) := c11; have z1 : -2147483648 ≤ XI r (.arg 1) := b1; have z2 : XI r (.arg 1) < 2147483648 := d1; omega) : (-1 : Int) < XI r (.arg 1))
    have c13 : xhid (XI r (.sub (.arg 49) (.int 6)) < (6 : Int)) := ((by omega) : XI r (.sub (.arg 49) (.int 6)) < (6 : Int))
    refine ⟨134, _, ?_, lf_1_1⟩
    refine xc_cons (xh_gt_F (XI_lit (by decide +kernel)) rfl h0) ?_
    refine xc_cons (xh_lt_T (XI_lit (by decide +kernel)) rfl h1) ?_
    refine xc_cons (xh_eq_T rfl (XI_lit (by decide +kernel)) hk) ?_
    refine xc_cons (xh_lt_T (XI_lit (by decide +kernel)) rfl c1) ?_
    refine xc_cons (xh_lt_T (XI_lit (by decide +kernel)) rfl c2) ?_
    refine xc_cons (xh_lt_F rfl (XI_lit (by decide +kernel)) c3) ?_
    refine xc_cons (xh_ge_T rfl (XI_lit (by decide +kernel)) c8) ?_
    refine xc_cons (xh_lt_T (XI_lit (by decide +kernel)) rfl c9) ?_
    refine xc_cons (xh_lt_T (XI_lit (by decide +kernel)) rfl c10) ?_
    refine xc_cons (xh_lt_F rfl (XI_lit (by decide +kernel)) c11) ?_
    refine xc_cons (xh_gt_T rfl (XI_lit (by decide +kernel)) c12) ?_
    refine xc_cons (xh_gt_T (XI_lit (by decide +kernel)) rfl c13) ?_
    exact xc_nil
theorem lf_2_0 : xfin (xev 126 20 xlaw 18 xlo0 [] xh0 [(.gt, .int 0, .sub (.arg 49) (.int 6), false), (.lt, .int 0, .arg 49, true), (.eq, .op2 .iand (.arg 0) (.int 63), .int 2, true), (.lt, .int 1, .arg 49, true), (.lt, .int 2, .arg 49, true), (.lt, .arg 1, .int 0, true), (.lt, .int 1, .arg 49, true), (.lt, .int 2, .arg 49, true), (.lt, .arg 1, .int 0, true), (.gt, .int 6, .sub (.arg 49) (.int 6), true)]) = true := by decide +kernel
theorem lf_2_1 : xfin (xev 134 20 xlaw 18 xlo0 [] xh0 [(.gt, .int 0, .sub (.arg 49) (.int 6), false), (.lt, .int 0, .arg 49, true), (.eq, .op2 .iand (.arg 0) (.int 63), .int 2, true), (.lt, .int 1, .arg 49, true), (.lt, .int 2, .arg 49, true), (.lt, .arg 1, .int 0, false), (.ge, .arg 1, .int 0, true), (.lt, .int 1, .arg 49, true), (.lt, .int 2, .arg 49, true), (.lt, .arg 1, .int 0, false), (.gt, .arg 1, .int (-1), true), (.gt, .int 6, .sub (.arg 49) (.int 6), true)]) = true := by decide +kernel
set_option maxHeartbeats 4000000 in
theorem cv_2 {r : Nat → Value} (h49 : XI r (.arg 49) = 6) (hs : XI r (.sub (.arg 49) (.int 6)) = 0) (hk : XI r (.op2 .iand (.arg 0) (.int 63)) = 2) : ∃ (f : Nat) (E : List xB), (∀ q ∈ E, xhold r q) ∧ xfin (xev f 20 xlaw 18 xlo0 [] xh0 E) = true := by
  have h0 : ¬ (XI r (.sub (.arg 49) (.int 6)) < (0 : Int)) := by omega
  have h1 : (0 : Int) < XI r (.arg 49) := by omega
  have b0 : xhid (-2147483648 ≤ XI r (.arg 0)) := XI_lo r (.arg 0)
  have d0 : xhid (XI r (.arg 0) < 2147483648) := XI_hi r (.arg 0)
  have b1 : xhid (-2147483648 ≤ XI r (.arg 1)) := XI_lo r (.arg 1)
  have d1 : xhid (XI r (.arg 1) < 2147483648) := XI_hi r (.arg 1)
  have b2 : xhid (-2147483648 ≤ XI r (.arg 2)) := XI_lo r (.arg 2)
  have d2 : xhid (XI r (.arg 2) < 2147483648) := XI_hi r (.arg 2)
  have b3 : xhid (-2147483648 ≤ XI r (.arg 3)) := XI_lo r (.arg 3)
  have d3 : xhid (XI r (.arg 3) < 2147483648) := XI_hi r (.arg 3)
  have b4 : xhid (-2147483648 ≤ XI r (.arg 4)) := XI_lo r (.arg 4)
  have d4 : xhid (XI r (.arg 4) < 2147483648) := XI_hi r (.arg 4)
  have b5 : xhid (-2147483648 ≤ XI r (.arg 5)) := XI_lo r (.arg 5)
  have d5 : xhid (XI r (.arg 5) < 2147483648) := XI_hi r (.arg 5)
  have c1 : xhid ((1 : Int) < XI r (.arg 49)) := ((by have z0 : ¬ (XI r (.sub (.arg 49) (.int 6)) < (0 : Int)) := h0; omega) : (1 : Int) < XI r (.arg 49))
  have c2 : xhid ((2 : Int) < XI r (.arg 49)) := ((by have z0 : ¬ (XI r (.sub (.arg 49) (.int 6)) < (0 : Int)) := h0; omega) : (2 : Int) < XI r (.arg 49))
  refine (Classical.em (XI r (.arg 1) < (0 : Int))).elim (fun (c3 : xhid (XI r (.arg 1) < (0 : Int))) => ?_) (fun (c3 : xhid (¬ (XI r (.arg 1) < (0 : Int)))) => ?_)
  ·
    have c4 : xhid ((1 : Int) < XI r (.arg 49)) := ((by have z0 : (2 : Int) < XI r (.arg 49) := c2; omega) : (1 : Int) < XI r (.arg 49))
    have c5 : xhid ((2 : Int) < XI r (.arg 49)) := ((by have z0 : (2 : Int) < XI r (.arg 49) := c2; omega) : (2 : Int) < XI r (.arg 49))
    have c6 : xhid (XI r (.arg 1) < (0 : Int)) := ((by have z0 : XI r (.arg 1) < (0 : Int) := c3; have z1 : -2147483648 ≤ XI r (.arg 1) := b1; have z2 : XI r (.arg 1) < 2147483648 := d1; omega) : XI r (.arg 1) < (0 : Int))
    have c7 : xhid (XI r (.sub (.arg 49) (.int 6)) < (6 : Int)) := ((by omega) : XI r (.sub (.arg 49) (.int 6)) < (6 : Int))
    refine ⟨126, _, ?_, lf_2_0⟩
    refine xc_cons (xh_gt_F (XI_lit (by decide +kernel)) rfl h0) ?_
    refine xc_cons (xh_lt_T (XI_lit (by decide +kernel)) rfl h1) ?_
    refine xc_cons (xh_eq_T rfl (XI_lit (by decide +kernel)) hk) ?_
    refine xc_cons (xh_lt_T (XI_lit (by decide +kernel)) rfl c1) ?_
    refine xc_cons (xh_lt_T (XI_lit (by decide +kernel)) rfl c2) ?_
    refine xc_cons (xh_lt_T rfl (XI_lit (by decide +kernel)) c3) ?_
    refine xc_cons (xh_lt_T (XI_lit (by decide +kernel)) rfl c4) ?_
    refine xc_cons (xh_lt_T (XI_lit (by decide +kernel)) rfl c5) ?_
    refine xc_cons (xh_lt_T rfl (XI_lit (by decide +kernel)) c6) ?_
    refine xc_cons (xh_gt_T (XI_lit (by decide +kernel)) rfl c7) ?_
    exact xc_nil
  ·
    have c8 : xhid ((0 : Int) ≤ XI r (.arg 1)) := ((by have z0 : ¬ (XI r (.arg 1) < (0 : Int)) := c3; have z1 : -2147483648 ≤ XI r (.arg 1) := b1; have z2 : XI r (.arg 1) < 2147483648 := d1; omega) : (0 : Int) ≤ XI r (.arg 1))
    have c9 : xhid ((1 : Int) < XI r (.arg 49)) := ((by have z0 : (2 : Int) < XI r (.arg 49) := c2; omega) : (1 : Int) < XI r (.arg 49))
    have c10 : xhid ((2 : Int) < XI r (.arg 49)) := ((by have z0 : (2 : Int) < XI r (.arg 49) := c2; omega) : (2 : Int) < XI r (.arg 49))
    have c11 : xhid (¬ (XI r (.arg 1) < (0 : Int))) := ((by have z0 : (0 : Int) ≤ XI r (.arg 1) := c8; have z1 : -2147483648 ≤ XI r (.arg 1) := b1; have z2 : XI r (.arg 1) < 2147483648 := d1; omega) : ¬ (XI r (.arg 1) < (0 : Int)))
    have c12 : xhid ((-1 : Int) < XI r (.arg 1)) := ((by have z0 : ¬ (XI r (.arg 1) < (0 : Int)) := c11; have z1 : -2147483648 ≤ XI r (.arg 1) := b1; have z2 : XI r (.arg 1) < 2147483648 := d1; omega) : (-1 : Int) < XI r (.arg 1))
    have c13 : xhid (XI r (.sub (.arg 49) (.int 6)) < (6 : Int)) := ((by omega) : XI r (.sub (.arg 49) (.int 6)) < (6 : Int))
    refine ⟨134, _, ?_, lf_2_1⟩
    refine xc_cons (xh_gt_F (XI_lit (by decide +kernel)) rfl h0) ?_
    refine xc_cons (xh_lt_T (XI_lit (by decide +kernel)) rfl h1) ?_
    refine xc_cons (xh_eq_T rfl (XI_lit (by decide +kernel)) hk) ?_
    refine xc_cons (xh_lt_T (XI_lit (by decide +kernel)) rfl c1) ?_
    refine xc_cons (xh_lt_T (XI_lit (by decide +kernel)) rfl c2) ?_
    refine xc_cons (xh_lt_F rfl (XI_lit (by decide +kernel)) c3) ?_
    refine xc_cons (xh_ge_T rfl (XI_lit (by decide +kernel)) c8) ?_
    refine xc_cons (xh_lt_T (XI_lit (by decide +kernel)) rfl c9) ?_
    refine xc_cons (xh_lt_T (XI_lit (by decide +kernel)) rfl c10) ?_
    refine xc_cons (xh_lt_F rfl (XI_lit (by decide +kernel)) c11) ?_
    refine xc_cons (xh_gt_T rfl (XI_lit (by decide +kernel)) c12) ?_
    refine xc_cons (xh_gt_T (XI_lit (by decide +kernel)) rfl c13) ?_
    exact xc_nil
theorem lf_3_0 : xfin (xev 116 20 xlaw 18 xlo0 [] xh0 [(.gt, .int 0, .sub (.arg 49) (.int 6), false), (.lt, .int 0, .arg 49, true), (.eq, .op2 .iand (.arg 0) (.int 63), .int 3, true), (.lt, .int 1, .arg 49, true), (.lt, .arg 1, .int 0, true), (.lt, .int 1, .arg 49, true), (.lt, .arg 1, .int 0, true), (.gt, .int 6, .sub (.arg 49) (.int 6), true)]) = true := by decide +kernel
theorem lf_3_1 : xfin (xev 124 20 xlaw 18 xlo0 [] xh0 [(.gt, .int 0, .sub (.arg 49) (.int 6), false), (.lt, .int 0, .arg 49, true), (.eq, .op2 .iand (.arg 0) (.int 63), .int 3, true), (.lt, .int 1, .arg 49, true), (.lt, .arg 1, .int 0, false), (.ge, .arg 1, .int 0, true), (.lt, .int 1, .arg 49, true), (.lt, .arg 1, .int 0, false), (.gt, .arg 1, .int (-1), true), (.gt, .int 6, .sub (.arg 49) (.int 6), true)]) = true := by decide +kernel
set_option maxHeartbeats 4000000 in
theorem cv_3 {r : Nat → Value} (h49 : XI r (.arg 49) = 6) (hs : XI r (.sub (.arg 49) (.int 6)) = 0) (hk : XI r (.op2 .iand (.arg 0) (.int 63)) = 3) : ∃ (f : Nat) (E : List xB), (∀ q ∈ E, xhold r q) ∧ xfin (xev f 20 xlaw 18 xlo0 [] xh0 E) = true := by
  have h0 : ¬ (XI r (.sub (.arg 49) (.int 6)) < (0 : Int)) := by omega
  have h1 : (0 : Int) < XI r (.arg 49) := by omega
  have b0 : xhid (-2147483648 ≤ XI r (.arg 0)) := XI_lo r (.arg 0)
  have d0 : xhid (XI r (.arg 0) < 2147483648) := XI_hi r (.arg 0)
  have b1 : xhid (-2147483648 ≤ XI r (.arg 1)) := XI_lo r (.arg 1)
  have d1 : xhid (XI r (.arg 1) < 2147483648) := XI_hi r (.arg 1)
  have b2 : xhid (-2147483648 ≤ XI r (.arg 2)) := XI_lo r (.arg 2)
  have d2 : xhid (XI r (.arg 2) < 2147483648) := XI_hi r (.arg 2)
  have b3 : xhid (-2147483648 ≤ XI r (.arg 3)) := XI_lo r (.arg 3)
  have d3 : xhid (XI r (.arg 3) < 2147483648) := XI_hi r (.arg 3)
  have b4 : xhid (-2147483648 ≤ XI r (.arg 4)) := XI_lo r (.arg 4)
  have d4 : xhid (XI r (.arg 4) < 2147483648) := XI_hi r (.arg 4)
  have b5 : xhid (-2147483648 ≤ XI r (.arg 5)) := XI_lo r (.arg 5)
  have d5 : xhid (XI r (.arg 5) < 2147483648) := XI_hi r (.arg 5)
  have c1 : xhid ((1 : Int) < XI r (.arg 49)) := ((by have z0 : ¬ (XI r (.sub (.arg 49) (.int 6)) < (0 : Int)) := h0; omega) : (1 : Int) < XI r (.arg 49))
  refine (Classical.em (XI r (.arg 1) < (0 : Int))).elim (fun (c2 : xhid (XI r (.arg 1) < (0 : Int))) => ?_) (fun (c2 : xhid (¬ (XI r (.arg 1) < (0 : Int)))) => ?_)
  ·
    have c3 : xhid ((1 : Int) < XI r (.arg 49)) := ((by have z0 : (1 : Int) < XI r (.arg 49) := c1; omega) : (1 : Int) < XI r (.arg 49))
    have c4 : xhid (XI r (.arg 1) < (0 : Int)) := ((by have z0 : XI r (.arg 1) < (0 : Int) := c2; have z1 : -2147483648 ≤ XI r (.arg 1) := b1; have z2 : XI r (.arg 1) < 2147483648 := d1; omega) : XI r (.arg 1) < (0 : Int))
    have c5 : xhid (XI r (.sub (.arg 49) (.int 6)) < (6 : Int)) := ((by omega) : XI r (.sub (.arg 49) (.int 6)) < (6 : Int))
    refine ⟨116, _, ?_, lf_3_0⟩
    refine xc_cons (xh_gt_F (XI_lit (by decide +kernel)) rfl h0) ?_
    refine xc_cons (xh_lt_T (XI_lit (by decide +kernel)) rfl h1) ?_
    refine xc_cons (xh_eq_T rfl (XI_lit (by decide +kernel)) hk) ?_
    refine xc_cons (xh_lt_T (XI_lit (by decide +kernel)) rfl c1) ?_
    refine xc_cons (xh_lt_T rfl (XI_lit (by decide +kernel)) c2) ?_
    refine xc_cons (xh_lt_T (XI_lit (by decide +kernel)) rfl c3) ?_
    refine xc_cons (xh_lt_T rfl (XI_lit (by decide +kernel)) c4) ?_
    refine xc_cons (xh_gt_T (XI_lit (by decide +kernel)) rfl c5) ?_
    exact xc_nil
  ·
    have c6 : xhid ((0 : Int) ≤ XI r (.arg 1)) := ((by have z0 : ¬ (XI r (.arg 1) < (0 : Int)) := c2; have z1 : -2147483648 ≤ XI r (.arg 1) := b1; have z2 : XI r (.arg 1) < 2147483648 := d1; omega) : (0 : Int) ≤ XI r (.arg 1))
    have c7 : xhid ((1 : Int) < XI r (.arg 49)) := ((by have z0 : (1 : Int) < XI r (.arg 49) := c1; omega) : (1 : Int) < XI r (.arg 49))
    have c8 : xhid (¬ (XI r (.arg 1) < (0 : Int))) := ((by have z0 : (0 : Int) ≤ XI r (.arg 1) := c6; have z1 : -2147483648 ≤ XI r (.arg 1) := b1; have z2 : XI r (.arg 1) < 2147483648 := d1; omega) : ¬ (XI r (.arg 1) < (0 : Int)))
    have c9 : xhid ((-1 : Int) < XI r (.arg 1)) := ((by have z0 : ¬ (XI r (.arg 1) < (0 : Int)) := c8; have z1 : -2147483648 ≤ XI r (.arg 1) := b1; have z2 : XI r (.arg 1) < 2147483648 := d1; omega) : (-1 : Int) < XI r (.arg 1))
    have c10 : xhid (XI r (.sub (.arg 49) (.int 6)) < (6 : Int)) := ((by omega) : XI r (.sub (.arg 49) (.int 6)) < (6 : Int))
    refine ⟨124, _, ?_, lf_3_1⟩
    refine xc_cons (xh_gt_F (XI_lit (by decide +kernel)) rfl h0) ?_
    refine xc_cons (xh_lt_T (XI_lit (by decide +kernel)) rfl h1) ?_
    refine xc_cons (xh_eq_T rfl (XI_lit (by decide +kernel)) hk) ?_
    refine xc_cons (xh_lt_T (XI_lit (by decide +kernel)) rfl c1) ?_
    refine xc_cons (xh_lt_F rfl (XI_lit (by decide +kernel)) c2) ?_
    refine xc_cons (xh_ge_T rfl (XI_lit (by decide +kernel)) c6) ?_
    refine xc_cons (xh_lt_T (XI_lit (by decide +kernel)) rfl c7) ?_
    refine xc_cons (xh_lt_F rfl (XI_lit (by decide +kernel)) c8) ?_
    refine xc_cons (xh_gt_T rfl (XI_lit (by decide +kernel)) c9) ?_
    refine xc_cons (xh_gt_T (XI_lit (by decide +kernel)) rfl c10) ?_
    exact xc_nil
