-- ===== products, quotients, rests
theorem i32_div {x y : Int32} (h0 : 0 ≤ x.toInt) (hn : 0 < y.toInt) : (x / y).toInt = x.toInt / y.toInt := by
  rw [Int32.toInt_div, Int.tdiv_eq_ediv_of_nonneg h0]
  have hm := bi_hi x
  have h4 : x.toInt / y.toInt ≤ x.toInt := Int.ediv_le_self _ h0
  have h5 : 0 ≤ x.toInt / y.toInt := Int.ediv_nonneg h0 (by omega)
  exact xbm32 (by omega) (by omega)
theorem i32_rem {x y : Int32} (h0 : 0 ≤ x.toInt) (hn : 0 < y.toInt) : (x - x / y * y).toInt = x.toInt % y.toInt := by
  have hd := i32_div h0 hn
  have hm := bi_hi x
  have h4 : x.toInt / y.toInt ≤ x.toInt := Int.ediv_le_self _ h0
  have h5 : 0 ≤ x.toInt / y.toInt := Int.ediv_nonneg h0 (by omega)
  have h6 : x.toInt / y.toInt * y.toInt = x.toInt - x.toInt % y.toInt := by rw [Int.emod_def, Int.mul_comm]; omega
  have h7 := Int.emod_nonneg x.toInt (show y.toInt ≠ 0 by omega)
  have h8 : x.toInt % y.toInt ≤ x.toInt := by
    rw [Int.emod_def]
    have : 0 ≤ y.toInt * (x.toInt / y.toInt) := Int.mul_nonneg (by omega) h5
    omega
  have hin : (x.toInt - x.toInt % y.toInt).bmod (2 ^ 32) = x.toInt - x.toInt % y.toInt := xbm32 (by omega) (by omega)
  rw [Int32.toInt_sub, Int32.toInt_mul, hd, h6, hin, show x.toInt - (x.toInt - x.toInt % y.toInt) = x.toInt % y.toInt by omega]
  exact xbm32 (by omega) (by omega)
/-- some int between two numbers -/
def bany (pc : Nat) (G : bE) (n : Nat) (la : bL) (s : List bV) (ov : bO) (l u : Int) : Option bQ := match decide (l = u) with
  | true => some (pc + 1, G, n, la, some (.inl (bcn l)) :: s, ov)
  | false => some (pc + 1, (n, l, u) :: G, n + 1, la, some (.inl (bvr n)) :: s, ov)
/-- surely not 0 -/
def bnz0 (G : bE) (g : bF) : Bool := match brg G g with
  | none => false
  | some r => decide (0 < r.1) || decide (r.2 < 0)
/-- a form cut by a number: what it divides, and the rest -/
def bdq (m : Int) (l : List (Nat × Int)) : List (Nat × Int) := match l with
  | [] => []
  | q :: t => match decide (q.2 % m = 0) with
    | true => (q.1, q.2 / m) :: bdq m t
    | false => bdq m t
def bdr (m : Int) (l : List (Nat × Int)) : List (Nat × Int) := match l with
  | [] => []
  | q :: t => match decide (q.2 % m = 0) with
    | true => bdr m t
    | false => q :: bdr m t
theorem bdqr (p : Nat → Int) (m : Int) (l : List (Nat × Int)) : bsm p l = m * bsm p (bdq m l) + bsm p (bdr m l) := by
  induction l with
  | nil => simp only [bdq, bdr, bsm, Int.mul_zero]; omega
  | cons q t ih =>
    have e0 : bsm p (q :: t) = q.2 * p q.1 + bsm p t := rfl
    rw [e0, ih]
    cases h : decide (q.2 % m = 0) with
    | true =>
      have e1 := Int.mul_ediv_cancel_of_emod_eq_zero (of_decide_eq_true h)
      simp only [bdq, bdr, h, bsm]
      rw [Int.mul_add, ← Int.mul_assoc, e1]
      omega
    | false =>
      simp only [bdq, bdr, h, bsm]
      omega
def bdqf (m : Int) (f : bF) : bF := (f.1 / m, bdq m f.2)
def bdrf (m : Int) (f : bF) : bF := (f.1 % m, bdr m f.2)
theorem bdqrf (p : Nat → Int) (m : Int) (f : bF) : bfv p f = m * bfv p (bdqf m f) + bfv p (bdrf m f) := by
  have e1 := bdqr p m f.2
  have e2 := Int.mul_ediv_add_emod f.1 m
  simp only [bfv, bdqf, bdrf, Int.mul_add]
  omega
theorem bdq_l {n : Nat} {m : Int} {f : bF} (h : blt n f = true) : blt n (bdqf m f) = true ∧ blt n (bdrf m f) = true := by
  obtain ⟨c, l⟩ := f
  unfold blt at h ⊢
  simp only [bdqf, bdrf] at h ⊢
  induction l with
  | nil => exact ⟨rfl, rfl⟩
  | cons q t ih =>
    simp only [List.all_cons, Bool.and_eq_true] at h
    have k := ih h.2
    cases hd : decide (q.2 % m = 0) with
    | true =>
      simp only [bdq, bdr, hd, List.all_cons, Bool.and_eq_true]
      exact ⟨⟨h.1, k.1⟩, k.2⟩
    | false =>
      simp only [bdq, bdr, hd, List.all_cons, Bool.and_eq_true]
      exact ⟨k.1, h.1, k.2⟩
/-- the rest is one, surely -/
def bdok (G : bE) (m : Int) (f : bF) : Bool := match brg G (bdrf m f) with
  | none => false
  | some r => decide (0 ≤ r.1) && decide (r.2 < m)
theorem bdok_ok {G : bE} {p : Nat → Int} (hG : bok G p) {m : Int} {f : bF} (hm : 0 < m) (h : bdok G m f = true) : bfv p f / m = bfv p (bdqf m f) ∧ bfv p f % m = bfv p (bdrf m f) := by
  unfold bdok at h
  cases hr : brg G (bdrf m f) with
  | none => rw [hr] at h; cases h
  | some r =>
    rw [hr] at h
    simp only [Bool.and_eq_true, decide_eq_true_eq] at h
    have k := brg_ok hG (a := r.1) (b := r.2) hr
    have e := bdqrf p m f
    have e1 : bfv p f = bfv p (bdrf m f) + m * bfv p (bdqf m f) := by omega
    constructor
    · rw [e1, Int.add_mul_ediv_left _ _ (by omega), Int.ediv_eq_zero_of_lt (by omega) (by omega)]
      omega
    · rw [e1, Int.add_mul_emod_self_left]
      exact Int.emod_eq_of_lt (by omega) (by omega)
def bsa (pc : Nat) (e : Instr × Nat × List Nat) (G : bE) (n : Nat) (la : bL) (sa : List bV) (ov : bO) : Option bQ := match e.1 with
  | .imul => match sa with
    | some (.inl g) :: some (.inl f) :: s => match g.2 with
      | [] => bari pc G n la s ov (bscl g.1 f)
      | _ => match f.2 with
        | [] => bari pc G n la s ov (bscl f.1 g)
        | _ => bany pc G n la s ov (-2147483648) 2147483647
    | _ => none
  | .idiv => match sa with
    | some (.inl g) :: some (.inl f) :: s => match bnz0 G g with
      | false => none
      | true => match brg G f with
        | none => none
        | some r => match g.2 with
          | [] => (match decide (0 ≤ r.1) && decide (0 < g.1) with
            | true => (match bdok G g.1 f with
              | true => some (pc + 1, G, n, la, some (.inl (bdqf g.1 f)) :: s, ov)
              | false => bany pc G n la s ov (r.1 / g.1) (r.2 / g.1))
            | false => bany pc G n la s ov (-2147483648) 2147483647)
          | _ => bany pc G n la s ov (-2147483648) 2147483647
    | _ => none
  | .irem => match sa with
    | some (.inl g) :: some (.inl f) :: s => match bnz0 G g with
      | false => none
      | true => match brg G f with
        | none => none
        | some r => match g.2 with
          | [] => (match decide (0 ≤ r.1) && decide (0 < g.1) with
            | true => (match bdok G g.1 f with
              | true => some (pc + 1, G, n, la, some (.inl (bdrf g.1 f)) :: s, ov)
              | false => match decide (r.2 < g.1) with
                | true => some (pc + 1, G, n, la, some (.inl f) :: s, ov)
                | false => match decide (r.1 / g.1 = r.2 / g.1) with
                  | true => some (pc + 1, G, n, la, some (.inl (bwr (-(r.1 / g.1 * g.1)) f)) :: s, ov)
                  | false => bany pc G n la s ov 0 (g.1 - 1))
            | false => bany pc G n la s ov (-2147483648) 2147483647)
          | _ => bany pc G n la s ov (-2147483648) 2147483647
    | _ => none
  | _ => none
section
variable {Z : List (Nat × Nat)} {I : Nat → Nat → Option bN} {W : bW} {p : Nat → Int} {mi pc : Nat} {e : Instr × Nat × List Nat} {G : bE} {n : Nat} {la : bL} {sa : List bV} {ov : bO} {lo : xL} {st : List Jvm.Term} {h : xH}
theorem bSt_any {l u : Int} {x : Int32} {s : List Jvm.Term} {q : bQ} (R : bR Z I p (G, n, la, sa, ov) lo s h) (h1 : l ≤ x.toInt) (h2 : x.toInt ≤ u) (hs : bany pc G n la sa ov l u = some q) (hx : ∀ kk : Nat → xL → List Jvm.Term → xH → List xB → Option xO, xsp mi pc e lo st h [] kk = xpu pc 1 lo s h [] (.int x) kk) : bSt Z I W p mi pc e n lo st h q := by
  unfold bany at hs
  cases hb : decide (l = u) with
  | true =>
    rw [hb] at hs
    cases hs
    have hlu := of_decide_eq_true hb
    exact bSt_push R rfl ⟨x, rfl, by rw [bcn_v]; omega⟩ hx
  | false =>
    rw [hb] at hs
    cases hs
    exact ⟨bup p n x.toInt, lo, .int x :: s, h, fun v hv => bup_ne (by omega), Nat.le_succ _, bR_push (bR_new R h1 h2) bvr_l ⟨x, rfl, bvr_v.symm⟩, bfr_rfl, fun kk => (hx kk).trans (by simp only [xpu, xfT_eq, xfN_eq])⟩
theorem bnz0_ok {g : bF} {y : Int32} (hG : bok G p) (h : bnz0 G g = true) (hy : y.toInt = bfv p g) : xnz (.int y) = true := by
  unfold bnz0 at h
  cases hr : brg G g with
  | none => rw [hr] at h; cases h
  | some r =>
    rw [hr] at h
    have h1 := brg_ok hG (a := r.1) (b := r.2) hr
    simp only [Bool.or_eq_true, decide_eq_true_eq] at h
    have h2 : ¬ y = 0 := by
      intro q
      rw [q] at hy
      have e0 : (0 : Int32).toInt = 0 := rfl
      omega
    simp only [xnz]
    exact decide_eq_true h2
theorem bcst_v {g : bF} (h : g.2 = []) : bfv p g = g.1 := by simp only [bfv, h, bsm]; omega
set_option maxHeartbeats 4000000 in
theorem bsa_ok {q : bQ} (R : bR Z I p (G, n, la, sa, ov) lo st h) (hs : bsa pc e G n la sa ov = some q) : bSt Z I W p mi pc e n lo st h q := by
  obtain ⟨i, ln, ax⟩ := e
  have r1 := R.1
  cases i with
  | imul =>
    simp only [bsa] at hs
    split at hs
    · obtain ⟨t, s, rfl⟩ := bR_top R
      obtain ⟨R1, hv, y, rfl, hy⟩ := bR_pop R
      obtain ⟨t, s, rfl⟩ := bR_top R1
      obtain ⟨R2, hw, x, rfl, hx⟩ := bR_pop R1
      have hxs : ∀ kk : Nat → xL → List Jvm.Term → xH → List xB → Option xO, xsp mi pc (.imul, ln, ax) lo (.int y :: .int x :: s) h [] kk = xpu pc 1 lo s h [] (.int (x * y)) kk := fun kk => by simp only [xsp, xI, Bool.and_self, cond_true, xml, xlit]
      split at hs
      · rename_i hg
        refine bSt_ari (x := x * y) R2 (blt_scl hw) ?_ hs hxs
        rw [bscl_ok, Int32.toInt_mul, hx, hy, bcst_v hg]
        exact congrArg (fun z => Int.bmod z (2 ^ 32)) (Int.mul_comm _ _)
      · split at hs
        · rename_i hg
          refine bSt_ari (x := x * y) R2 (blt_scl hv) ?_ hs hxs
          rw [bscl_ok, Int32.toInt_mul, hx, hy, bcst_v hg]
        · exact bSt_any R2 (bi_lo _) (bi_hi _) hs hxs
    · cases hs
  | idiv =>
    simp only [bsa] at hs
    split at hs
    · rename_i g f s0
      cases hz : bnz0 G g with
      | false => rw [hz] at hs; cases hs
      | true =>
      rw [hz] at hs
      simp only at hs
      cases hr : brg G f with
      | none => rw [hr] at hs; cases hs
      | some r =>
      rw [hr] at hs
      simp only at hs
      obtain ⟨t, s, rfl⟩ := bR_top R
      obtain ⟨R1, hv, y, rfl, hy⟩ := bR_pop R
      obtain ⟨t, s, rfl⟩ := bR_top R1
      obtain ⟨R2, hw, x, rfl, hx⟩ := bR_pop R1
      have hnz := bnz0_ok r1 hz hy
      have hxs : ∀ kk : Nat → xL → List Jvm.Term → xH → List xB → Option xO, xsp mi pc (.idiv, ln, ax) lo (.int y :: .int x :: s) h [] kk = xpu pc 1 lo s h [] (.int (x / y)) kk := fun kk => by simp only [xsp, xI, hnz, Bool.and_self, cond_true, xdi, xlit]
      split at hs
      · rename_i hg
        cases hb : (decide (0 ≤ r.1) && decide (0 < g.1)) with
        | false => rw [hb] at hs; exact bSt_any R2 (bi_lo _) (bi_hi _) hs hxs
        | true =>
          rw [hb] at hs
          simp only [Bool.and_eq_true, decide_eq_true_eq] at hb
          have h1 := brg_ok r1 (a := r.1) (b := r.2) hr
          rw [bcst_v hg] at hy
          have h2 := i32_div (x := x) (y := y) (by omega) (by omega)
          rw [hy] at h2
          simp only at hs
          cases hdk : bdok G g.1 f with
          | true =>
            rw [hdk] at hs
            cases hs
            have k := bdok_ok r1 hb.2 hdk
            exact bSt_push R2 (bdq_l hw).1 ⟨_, rfl, by rw [h2, hx]; exact k.1⟩ hxs
          | false =>
          rw [hdk] at hs
          refine bSt_any R2 ?_ ?_ hs hxs
          · rw [h2]
            exact Int.ediv_le_ediv hb.2 (by omega)
          · rw [h2]
            exact Int.ediv_le_ediv hb.2 (by omega)
      · exact bSt_any R2 (bi_lo _) (bi_hi _) hs hxs
    · cases hs
  | irem =>
    simp only [bsa] at hs
    split at hs
    · rename_i g f s0
      cases hz : bnz0 G g with
      | false => rw [hz] at hs; cases hs
      | true =>
      rw [hz] at hs
      simp only at hs
      cases hr : brg G f with
      | none => rw [hr] at hs; cases hs
      | some r =>
      rw [hr] at hs
      simp only at hs
      obtain ⟨t, s, rfl⟩ := bR_top R
      obtain ⟨R1, hv, y, rfl, hy⟩ := bR_pop R
      obtain ⟨t, s, rfl⟩ := bR_top R1
      obtain ⟨R2, hw, x, rfl, hx⟩ := bR_pop R1
      have hnz := bnz0_ok r1 hz hy
      have hxs : ∀ kk : Nat → xL → List Jvm.Term → xH → List xB → Option xO, xsp mi pc (.irem, ln, ax) lo (.int y :: .int x :: s) h [] kk = xpu pc 1 lo s h [] (.int (x - x / y * y)) kk := fun kk => by simp only [xsp, xI, hnz, Bool.and_self, cond_true, xrm, xlit]
      split at hs
      · rename_i hg
        cases hb : (decide (0 ≤ r.1) && decide (0 < g.1)) with
        | false => rw [hb] at hs; exact bSt_any R2 (bi_lo _) (bi_hi _) hs hxs
        | true =>
          rw [hb] at hs
          simp only [Bool.and_eq_true, decide_eq_true_eq] at hb
          have h1 := brg_ok r1 (a := r.1) (b := r.2) hr
          rw [bcst_v hg] at hy
          have h2 := i32_rem (x := x) (y := y) (by omega) (by omega)
          rw [hy] at h2
          have h3 := Int.emod_nonneg x.toInt (show g.1 ≠ 0 by omega)
          have h4 := Int.emod_lt_of_pos x.toInt hb.2
          simp only at hs
          cases hdk : bdok G g.1 f with
          | true =>
            rw [hdk] at hs
            cases hs
            have k := bdok_ok r1 hb.2 hdk
            exact bSt_push R2 (bdq_l hw).2 ⟨_, rfl, by rw [h2, hx]; exact k.2⟩ hxs
          | false =>
          rw [hdk] at hs
          simp only at hs
          cases hc : decide (r.2 < g.1) with
          | true =>
            rw [hc] at hs
            cases hs
            have hlt := of_decide_eq_true hc
            have h5 : x.toInt % g.1 = x.toInt := Int.emod_eq_of_lt (by omega) (by omega)
            exact bSt_push R2 hw ⟨_, rfl, by rw [h2, h5, hx]⟩ hxs
          | false =>
            rw [hc] at hs
            simp only at hs
            cases hc0 : decide (r.1 / g.1 = r.2 / g.1) with
            | true =>
              rw [hc0] at hs
              cases hs
              have hc1 := of_decide_eq_true hc0
              have e1 : r.1 / g.1 ≤ x.toInt / g.1 := Int.ediv_le_ediv hb.2 (by omega)
              have e2 : x.toInt / g.1 ≤ r.2 / g.1 := Int.ediv_le_ediv hb.2 (by omega)
              have e3 : x.toInt / g.1 = r.1 / g.1 := Int.le_antisymm (hc1 ▸ e2) e1
              have e4 : x.toInt % g.1 = x.toInt - g.1 * (x.toInt / g.1) := Int.emod_def _ _
              refine bSt_push R2 (show blt n (bwr (-(r.1 / g.1 * g.1)) f) = true from hw) ⟨_, rfl, ?_⟩ hxs
              rw [h2, bwr_ok, ← hx, e4, e3, Int.mul_comm g.1 (r.1 / g.1)]
              exact Int.sub_eq_add_neg
            | false =>
              rw [hc0] at hs
              exact bSt_any R2 (by omega) (by omega) hs hxs
      · exact bSt_any R2 (bi_lo _) (bi_hi _) hs hxs
    · cases hs
  | _ => cases hs
end
