/-! THE CLAIM OUT OF ONE WALK OF THE LAW'S BODY. Your part is whole_start (and what it stands on); all else here is the same for every law, but numbers. -/
def R_law : String := "GorgeRocksLaw"
def lw_P (b : Addr) (xs : List Int32) (args : Array Value) (s : State) : Prop := args = #[.ref b] ∧ s.IntsAt b xs ∧ xs.length ≤ 384 ∧ (Jvm.Cond.and given_1 narrow_1).before args s = true
def lw_Q (_ : Array Value) (s : State) (o : Outcome) (t : State) : Prop := o = .returned (some (.int 1)) ∧ Framed s o t [] 600000 7302250
def lw_Z (below : List Frame) (a : Array Value) (s : State) : State → Prop := fun t => ∃ o, t.status = .running ∧ Ended t below o ∧ lw_Q a s o t
/-- the law's own end, with 1 on the stack, nothing written that was there before, its room as the claim has it -/
theorem lw_ret {p : Program} {l : Launch} {e : Env} {s : State} {m : MethodId} {below : List Frame} {meth : Method} {c : Code} {b : Nat} (hx : p.tables.exec = Jvm.exec) (hb : c.code = code) (hr : meth.sig.returnType = ret) (hlocks : meth.locks = false) {pc : Nat} {H : Heap} {ls : Array Slot} (hdg : decode code pc = .ok (.ireturn, 1)) : W p l e room_1 s m #[Value.ref b] below meth c H [] 600000 7302250 (lw_Z below #[Value.ref b] s) (F0 m pc ls [.int 1]) := by
  intro T hT X
  obtain ⟨fs, hret, hrun, hended, hW, hframe⟩ := X.leave (v := some (.int 1)) (hlocks := hlocks) (fun h => by rw [hr] at h; cases h)
  have hmeth' : T.vm.method? m = some meth := X.method'
  refine ⟨T.setFrames fs, ?_, .returned (some (.int 1)), hrun, hended, rfl, ⟨_, rfl⟩, hW, hframe⟩
  jvm_step X.here [X.here.top, hx, hb, hdg, hmeth', hr, ret, narrow_b1]
  (try refine ⟨rfl, ?_⟩); (try refine ⟨rfl, ?_⟩)
  first | (intro acts; rw [hret _ acts rfl rfl rfl]) | rw [hret _ _ rfl rfl rfl]
  exact Steps.refl _
/-- what holds at the law's entry: the machine, the code, the tables' words (any of lw_tbl by 'hts w (by decide +kernel)'), the script of L ints xs at the cell b, what the Statement gives of the start (any of its parts by flat_of_before) -/
def lw_At (p : Program) (s : State) (m : MethodId) (meth : Method) (c : Code) (b L : Nat) (xs : Nat → Int32) : Prop :=
  p.tables.exec = Jvm.exec ∧ c.code = code ∧ meth.sig.returnType = ret ∧ c.maxLocals = 4 ∧ s.vm.findClass R_law = some m.cls ∧ (∀ w ∈ lw_tbl, w.before #[Value.ref b] s = true) ∧ va_X b L xs s s.heap ∧ b < s.heap.size ∧ meth.locks = false ∧ (Jvm.Cond.and given_1 narrow_1).before #[Value.ref b] s = true


/-- the unknowns of a run: the script's ints, its length, its cell, the String constants, their bytes, the static arrays -/
def xrho (b L : Nat) (xs : Nat → Int32) (sa va za : Nat → Nat) : Nat → Value := fun i => if i < 49 then .int (xs i) else if i = 49 then .int (Int32.ofNat L) else if i < 100 then .long 0 else if i = 100 then .ref b else if i < 120 then .ref (sa (i - 101)) else if i < 150 then .ref (va (i - 120)) else if i < 200 then .ref (za (i - 150)) else .int (xs (i - 200))
theorem xrho_ok (b L : Nat) (xs : Nat → Int32) (sa va za : Nat → Nat) : xRr (xrho b L xs sa va za) := by
  have key : ∀ i : Nat, xiv i = false → 50 ≤ i ∧ i < 200 := by
    intro i h
    simp only [xiv, Bool.or_eq_false_iff] at h
    refine ⟨?_, ?_⟩
    · rcases Nat.lt_or_ge i 50 with q | q
      · rw [Nat.ble_eq_true_of_le (show i ≤ 49 by omega)] at h
        exact absurd h.1 (by decide)
      · exact q
    · rcases Nat.lt_or_ge i 200 with q | q
      · exact q
      · rw [Nat.ble_eq_true_of_le q] at h
        exact absurd h.2 (by decide)
  refine ⟨fun i h => ?_, fun i h1 h2 => ?_, fun i h1 h2 => ?_⟩
  · simp only [xiv, Bool.or_eq_true] at h
    unfold xrho
    rcases h with h | h
    · have := Nat.le_of_ble_eq_true h
      by_cases e : i < 49
      · rw [if_pos e]; exact ⟨_, rfl⟩
      · rw [if_neg e, if_pos (by omega)]; exact ⟨_, rfl⟩
    · have := Nat.le_of_ble_eq_true h
      rw [if_neg (by omega), if_neg (by omega), if_neg (by omega), if_neg (by omega), if_neg (by omega), if_neg (by omega), if_neg (by omega)]
      exact ⟨_, rfl⟩
  · have k := key i h1
    have h2 := Nat.le_of_ble_eq_true h2
    unfold xrho
    rw [if_neg (by omega), if_neg (by omega), if_pos (by omega)]
    exact ⟨_, rfl⟩
  · have k := key i h1
    have h2 : ¬ i ≤ 99 := fun q => by rw [Nat.ble_eq_true_of_le q] at h2; cases h2
    unfold xrho
    rw [if_neg (by omega), if_neg (by omega), if_neg (by omega)]
    by_cases e : i = 100
    · rw [if_pos e]; exact ⟨_, rfl⟩
    · rw [if_neg e]
      by_cases e1 : i < 120
      · rw [if_pos e1]; exact ⟨_, rfl⟩
      · rw [if_neg e1]
        by_cases e2 : i < 150
        · rw [if_pos e2]; exact ⟨_, rfl⟩
        · rw [if_neg e2, if_pos k.2]; exact ⟨_, rfl⟩

theorem xarr_int {s : State} {args : Array Value} (h : (Cond.arrayClass .int).before args s = true) : ∃ cA : ClassId, ArrOfT s cA .int ∧ va_RA s cA .int := by
  obtain ⟨cA, kA, comp, h1, h2, h3⟩ := Cond.arrayClass_spec h
  exact ⟨cA, fun n z => ⟨fun k h => by simp [arrV] at h, kA, h2, comp, h3⟩, h1⟩
theorem xarr_ref {s : State} {C : String} (h : va_AO C s) : ∃ cA : ClassId, ArrOfT s cA (.object C) ∧ va_RA s cA (.object C) := by
  obtain ⟨comp, c, k, h1, h2, h3, h4, h5⟩ := Cond.arrayOver_spec h
  exact ⟨c, fun n z => ⟨fun k h => by simp [arrV] at h, k, h3, comp, h4⟩, k, comp, h3, h4, h1, h5⟩

/-- a String constant at the start -/
theorem xstr_of {args : Array Value} {s : State} {A : Nat → Prop} {own : String} {k n : Nat} {g : Nat → Int32} (hn : n < 2 ^ 31) (hex : (Cond.exactly (.string own k) "java/lang/String").before args s = true) (hco : (Cond.eq (.field (.string own k) "java/lang/String" "coder" "B") (.int 0)).before args s = true) (har : (Cond.arrayOf (.field (.string own k) "java/lang/String" "value" "[B") .byte).before args s = true) (hle : (Cond.eq (.length (.field (.string own k) "java/lang/String" "value" "[B")) (.int (Int32.ofNat n))).before args s = true) (hel : ∀ j : Nat, j < n → (Cond.eq (.elem (.field (.string own k) "java/lang/String" "value" "[B") (.int (Int32.ofNat j))) (.int (g j))).before args s = true) (hA : ∀ a : Nat, a < s.heap.size → ¬ A a) : ∃ a v : Nat, (Term.string own k).eval args s none [] s = some (.ref a) ∧ va_O "java/lang/String" a A s s.heap ∧ va_OF "java/lang/String" "coder" "B" (.int 0) a A s s.heap ∧ va_OF "java/lang/String" "value" "[B" (.ref v) a A s s.heap ∧ va_T .byte v n (fun j => .int (g j)) A s s.heap := by
  obtain ⟨a, c, cA, kA, q1, q2, q3, q4, q5, q6, -⟩ := Cond.exactly_spec (args := args) (first := s) (o := none) (s := s) (idx := []) (t := .string own k) (cls := "java/lang/String") hex
  obtain ⟨t, ht, hT⟩ := va_Tof (f := fun j => .int (g j)) (A := A) hn har (va_eqt hle) (fun j hj => va_eqt (hel j hj)) hA
  exact ⟨a, t, q1, ⟨cA, q3, q5, by rw [q6]; exact q2, hA a (Array.getElem?_eq_some_iff.mp q3).1⟩, vk_OFof q1 (va_eqt hco) hA, vk_OFof q1 ht hA, hT⟩
/-- a static array at the start -/
theorem xsta_of {args : Array Value} {s : State} {A : Nat → Prop} {C n : String} {N : Nat} {g : Nat → Int32} (hn : N < 2 ^ 31) (hl : (Cond.laysStatic C n "[I").before args s = true) (hini : (Cond.initialized C).before args s = true) (har : (Cond.arrayOf (.static C n "[I") .int).before args s = true) (hle : (Cond.eq (.length (.static C n "[I")) (.int (Int32.ofNat N))).before args s = true) (hel : ∀ j : Nat, j < N → (Cond.eq (.elem (.static C n "[I") (.int (Int32.ofNat j))) (.int (g j))).before args s = true) (hA : ∀ a : Nat, a < s.heap.size → ¬ A a) : ∃ t : Nat, va_Z C n "[I" (.ref t) A s s.heap ∧ va_T .int t N (fun j => .int (g j)) A s s.heap := by
  obtain ⟨t, ht, hT⟩ := va_Tof (f := fun j => .int (g j)) (A := A) hn har (va_eqt hle) (fun j hj => va_eqt (hel j hj)) hA
  exact ⟨t, va_Zof hl hini ht hA, hT⟩

set_option maxHeartbeats 8000000 in
set_option maxRecDepth 100000 in
/-- the law's world at its entry -/
theorem xstart {s : State} {m : MethodId} {p : Program} {meth : Method} {c : Code} {b L : Nat} {xs : Nat → Int32} (hL : L ≤ 384) (C0 : lw_At p s m meth c b L xs) :
    ∃ (dC : Nat → ClassId) (dI : Nat → Nat → Nat) (dA : Nat → ClassId) (sa va za : Nat → Nat), xCx p room_1 s m #[Value.ref b] meth c (xrho b L xs sa va za) (dC, dI) dA (fun q => s.heap.size ≤ q) s.heap xlaw := by
  obtain ⟨hx, hb, hr, hml, hown, hts, hX, hbl, hlocks, hgv⟩ := id C0
  have htU : ∀ w ∈ xU, w.before #[Value.ref b] s = true := fun w h => hts w (List.mem_filter.mp h).1
  obtain ⟨c0, i0, hK0⟩ := u_known (C := RX0) (T := TX0) (N := 8) (n := 8) htU xin0 (htU (.instantiable RX0 8) (xw (p := 319) (by decide +kernel) rfl))
  obtain ⟨c1, i1, hK1⟩ := u_known (C := RX1) (T := TX1) (N := 3) (n := 3) htU xin1 (htU (.instantiable RX1 3) (xw (p := 282) (by decide +kernel) rfl))
  obtain ⟨c2, i2, hK2⟩ := u_known (C := RX2) (T := TX2) (N := 3) (n := 3) htU xin2 (htU (.instantiable RX2 3) (xw (p := 141) (by decide +kernel) rfl))
  obtain ⟨c3, i3, hK3⟩ := u_known (C := RX3) (T := TX3) (N := 3) (n := 3) htU xin3 (htU (.instantiable RX3 3) (xw (p := 300) (by decide +kernel) rfl))
  obtain ⟨c4, i4, hK4⟩ := u_known (C := RX4) (T := TX4) (N := 4) (n := 4) htU xin4 (htU (.instantiable RX4 4) (xw (p := 258) (by decide +kernel) rfl))
  obtain ⟨c5, i5, hK5⟩ := u_known (C := RX5) (T := TX5) (N := 3) (n := 3) htU xin5 (htU (.instantiable RX5 3) (xw (p := 159) (by decide +kernel) rfl))
  obtain ⟨c6, i6, hK6⟩ := u_known (C := RX6) (T := TX6) (N := 2) (n := 2) htU xin6 (htU (.instantiable RX6 2) (xw (p := 110) (by decide +kernel) rfl))
  obtain ⟨c7, i7, hK7⟩ := u_known (C := RX7) (T := TX7) (N := 3) (n := 3) htU xin7 (htU (.instantiable RX7 3) (xw (p := 385) (by decide +kernel) rfl))
  obtain ⟨c8, i8, hK8⟩ := u_known (C := RX8) (T := TX8) (N := 5) (n := 5) htU xin8 (htU (.instantiable RX8 5) (xw (p := 356) (by decide +kernel) rfl))
  obtain ⟨c9, i9, hK9⟩ := u_known (C := RX9) (T := TX9) (N := 2) (n := 2) htU xin9 (htU (.instantiable RX9 2) (xw (p := 181) (by decide +kernel) rfl))
  obtain ⟨c10, i10, hK10⟩ := u_known (C := RX10) (T := TX10) (N := 15) (n := 15) htU xin10 (htU (.instantiable RX10 15) (xw (p := 99) (by decide +kernel) rfl))
  obtain ⟨c11, i11, hK11⟩ := u_known (C := RX11) (T := TX11) (N := 15) (n := 15) htU xin11 (htU (.instantiable RX11 15) (xw (p := 91) (by decide +kernel) rfl))
  obtain ⟨c12, i12, hK12⟩ := u_known (C := RX12) (T := TX12) (N := 26) (n := 26) htU xin12 (htU (.instantiable RX12 26) (xw (p := 1057) (by decide +kernel) rfl))
  have hAO : ∀ kk : Nat, Nat.ble 21 kk = true → Nat.ble kk 24 = true → va_AO (xkc kk) s := by
    intro kk h1 h2
    have h1 := Nat.le_of_ble_eq_true h1
    have h2 := Nat.le_of_ble_eq_true h2
    rcases (show kk = 21 ∨ kk = 22 ∨ kk = 23 ∨ kk = 24 by omega) with rfl | rfl | rfl | rfl
    · exact hts (.arrayOver (.object RX6)) (List.mem_of_getElem? (i := 105) (by decide +kernel))
    · exact hts (.arrayOver (.object RX5)) (List.mem_of_getElem? (i := 107) (by decide +kernel))
    · exact hts (.arrayOver (.object RX9)) (List.mem_of_getElem? (i := 109) (by decide +kernel))
    · exact hts (.arrayOver (.object RX7)) (List.mem_of_getElem? (i := 382) (by decide +kernel))
  obtain ⟨a0, g0⟩ := xarr_int (hts (.arrayClass .int) (List.mem_of_getElem? (i := 139) (by decide +kernel)))
  obtain ⟨a1, g1⟩ := xarr_ref (hAO 21 rfl rfl)
  obtain ⟨a2, g2⟩ := xarr_ref (hAO 22 rfl rfl)
  obtain ⟨a3, g3⟩ := xarr_ref (hAO 23 rfl rfl)
  obtain ⟨a4, g4⟩ := xarr_ref (hAO 24 rfl rfl)
  have hflat := flat_of_before _ hgv
  have hA : ∀ a : Nat, a < s.heap.size → ¬ (fun q => s.heap.size ≤ q) a := fun a h => Nat.not_le.mpr h
  obtain ⟨s0, v0, e0, o0⟩ := xstr_of (args := #[Value.ref b]) (s := s) (A := fun q => s.heap.size ≤ q) (own := "GorgeRocks$Reader") (k := 23) (n := 4) (g := xchr "sinm") (by decide) (hflat (.exactly (.string "GorgeRocks$Reader" 23) "java/lang/String") (by decide +kernel)) (hflat (.eq (.field (.string "GorgeRocks$Reader" 23) "java/lang/String" "coder" "B") (.int 0)) (by decide +kernel)) (hflat (.arrayOf (.field (.string "GorgeRocks$Reader" 23) "java/lang/String" "value" "[B") .byte) (by decide +kernel)) (hflat (.eq (.length (.field (.string "GorgeRocks$Reader" 23) "java/lang/String" "value" "[B")) (.int (Int32.ofNat 4))) (by decide +kernel)) (fun j hj => match j, hj with | 0, _ => hflat (.eq (.elem (.field (.string "GorgeRocks$Reader" 23) "java/lang/String" "value" "[B") (.int (Int32.ofNat 0))) (.int (xchr "sinm" 0))) (by decide +kernel) | 1, _ => hflat (.eq (.elem (.field (.string "GorgeRocks$Reader" 23) "java/lang/String" "value" "[B") (.int (Int32.ofNat 1))) (.int (xchr "sinm" 1))) (by decide +kernel) | 2, _ => hflat (.eq (.elem (.field (.string "GorgeRocks$Reader" 23) "java/lang/String" "value" "[B") (.int (Int32.ofNat 2))) (.int (xchr "sinm" 2))) (by decide +kernel) | 3, _ => hflat (.eq (.elem (.field (.string "GorgeRocks$Reader" 23) "java/lang/String" "value" "[B") (.int (Int32.ofNat 3))) (.int (xchr "sinm" 3))) (by decide +kernel) | j + 4, hj => absurd hj (by omega)) hA
  obtain ⟨s1, v1, e1, o1⟩ := xstr_of (args := #[Value.ref b]) (s := s) (A := fun q => s.heap.size ≤ q) (own := "GorgeRocks") (k := 181) (n := 4) (g := xchr "sinm") (by decide) (hflat (.exactly (.string "GorgeRocks" 181) "java/lang/String") (by decide +kernel)) (hflat (.eq (.field (.string "GorgeRocks" 181) "java/lang/String" "coder" "B") (.int 0)) (by decide +kernel)) (hflat (.arrayOf (.field (.string "GorgeRocks" 181) "java/lang/String" "value" "[B") .byte) (by decide +kernel)) (hflat (.eq (.length (.field (.string "GorgeRocks" 181) "java/lang/String" "value" "[B")) (.int (Int32.ofNat 4))) (by decide +kernel)) (fun j hj => match j, hj with | 0, _ => hflat (.eq (.elem (.field (.string "GorgeRocks" 181) "java/lang/String" "value" "[B") (.int (Int32.ofNat 0))) (.int (xchr "sinm" 0))) (by decide +kernel) | 1, _ => hflat (.eq (.elem (.field (.string "GorgeRocks" 181) "java/lang/String" "value" "[B") (.int (Int32.ofNat 1))) (.int (xchr "sinm" 1))) (by decide +kernel) | 2, _ => hflat (.eq (.elem (.field (.string "GorgeRocks" 181) "java/lang/String" "value" "[B") (.int (Int32.ofNat 2))) (.int (xchr "sinm" 2))) (by decide +kernel) | 3, _ => hflat (.eq (.elem (.field (.string "GorgeRocks" 181) "java/lang/String" "value" "[B") (.int (Int32.ofNat 3))) (.int (xchr "sinm" 3))) (by decide +kernel) | j + 4, hj => absurd hj (by omega)) hA
  obtain ⟨s2, v2, e2, o2⟩ := xstr_of (args := #[Value.ref b]) (s := s) (A := fun q => s.heap.size ≤ q) (own := "GorgeRocks") (k := 183) (n := 4) (g := xchr "ohbt") (by decide) (hflat (.exactly (.string "GorgeRocks" 183) "java/lang/String") (by decide +kernel)) (hflat (.eq (.field (.string "GorgeRocks" 183) "java/lang/String" "coder" "B") (.int 0)) (by decide +kernel)) (hflat (.arrayOf (.field (.string "GorgeRocks" 183) "java/lang/String" "value" "[B") .byte) (by decide +kernel)) (hflat (.eq (.length (.field (.string "GorgeRocks" 183) "java/lang/String" "value" "[B")) (.int (Int32.ofNat 4))) (by decide +kernel)) (fun j hj => match j, hj with | 0, _ => hflat (.eq (.elem (.field (.string "GorgeRocks" 183) "java/lang/String" "value" "[B") (.int (Int32.ofNat 0))) (.int (xchr "ohbt" 0))) (by decide +kernel) | 1, _ => hflat (.eq (.elem (.field (.string "GorgeRocks" 183) "java/lang/String" "value" "[B") (.int (Int32.ofNat 1))) (.int (xchr "ohbt" 1))) (by decide +kernel) | 2, _ => hflat (.eq (.elem (.field (.string "GorgeRocks" 183) "java/lang/String" "value" "[B") (.int (Int32.ofNat 2))) (.int (xchr "ohbt" 2))) (by decide +kernel) | 3, _ => hflat (.eq (.elem (.field (.string "GorgeRocks" 183) "java/lang/String" "value" "[B") (.int (Int32.ofNat 3))) (.int (xchr "ohbt" 3))) (by decide +kernel) | j + 4, hj => absurd hj (by omega)) hA
  obtain ⟨z0, w0, y0⟩ := xsta_of (args := #[Value.ref b]) (s := s) (A := fun q => s.heap.size ≤ q) (C := "GorgeRocks") (n := "ABOVE") (N := 7) (g := (fun k => Int32.ofInt (([-1, 0, 1, 0, 0, 4, 1] : List Int).getD k 0))) (by decide) (hts (.laysStatic "GorgeRocks" "ABOVE" "[I") (List.mem_of_getElem? (i := 543) (by decide +kernel))) (hts (.initialized "GorgeRocks") (List.mem_of_getElem? (i := 69) (by decide +kernel))) (hflat (.arrayOf (.static "GorgeRocks" "ABOVE" "[I") .int) (by decide +kernel)) (hflat (.eq (.length (.static "GorgeRocks" "ABOVE" "[I")) (.int (Int32.ofNat 7))) (by decide +kernel)) (fun j hj => match j, hj with | 0, _ => hflat (.eq (.elem (.static "GorgeRocks" "ABOVE" "[I") (.int (Int32.ofNat 0))) (.int (Int32.ofInt (([-1, 0, 1, 0, 0, 4, 1] : List Int).getD 0 0)))) (by decide +kernel) | 1, _ => hflat (.eq (.elem (.static "GorgeRocks" "ABOVE" "[I") (.int (Int32.ofNat 1))) (.int (Int32.ofInt (([-1, 0, 1, 0, 0, 4, 1] : List Int).getD 1 0)))) (by decide +kernel) | 2, _ => hflat (.eq (.elem (.static "GorgeRocks" "ABOVE" "[I") (.int (Int32.ofNat 2))) (.int (Int32.ofInt (([-1, 0, 1, 0, 0, 4, 1] : List Int).getD 2 0)))) (by decide +kernel) | 3, _ => hflat (.eq (.elem (.static "GorgeRocks" "ABOVE" "[I") (.int (Int32.ofNat 3))) (.int (Int32.ofInt (([-1, 0, 1, 0, 0, 4, 1] : List Int).getD 3 0)))) (by decide +kernel) | 4, _ => hflat (.eq (.elem (.static "GorgeRocks" "ABOVE" "[I") (.int (Int32.ofNat 4))) (.int (Int32.ofInt (([-1, 0, 1, 0, 0, 4, 1] : List Int).getD 4 0)))) (by decide +kernel) | 5, _ => hflat (.eq (.elem (.static "GorgeRocks" "ABOVE" "[I") (.int (Int32.ofNat 5))) (.int (Int32.ofInt (([-1, 0, 1, 0, 0, 4, 1] : List Int).getD 5 0)))) (by decide +kernel) | 6, _ => hflat (.eq (.elem (.static "GorgeRocks" "ABOVE" "[I") (.int (Int32.ofNat 6))) (.int (Int32.ofInt (([-1, 0, 1, 0, 0, 4, 1] : List Int).getD 6 0)))) (by decide +kernel) | j + 7, hj => absurd hj (by omega)) hA
  obtain ⟨z1, w1, y1⟩ := xsta_of (args := #[Value.ref b]) (s := s) (A := fun q => s.heap.size ≤ q) (C := "GorgeRocks$Speaker") (n := "BODIES") (N := 28) (g := (fun k => Int32.ofInt (([10, 11, 12, 13, 20, 0, 0, 21, 0, 30, 0, 0, 0, 0, 40, 0, 50, 0, 51, 0, 0, 60, 0, 0, 70, 0, 0, 71] : List Int).getD k 0))) (by decide) (hts (.laysStatic "GorgeRocks$Speaker" "BODIES" "[I") (List.mem_of_getElem? (i := 972) (by decide +kernel))) (hts (.initialized "GorgeRocks$Speaker") (List.mem_of_getElem? (i := 80) (by decide +kernel))) (hflat (.arrayOf (.static "GorgeRocks$Speaker" "BODIES" "[I") .int) (by decide +kernel)) (hflat (.eq (.length (.static "GorgeRocks$Speaker" "BODIES" "[I")) (.int (Int32.ofNat 28))) (by decide +kernel)) (fun j hj => match j, hj with | 0, _ => hflat (.eq (.elem (.static "GorgeRocks$Speaker" "BODIES" "[I") (.int (Int32.ofNat 0))) (.int (Int32.ofInt (([10, 11, 12, 13, 20, 0, 0, 21, 0, 30, 0, 0, 0, 0, 40, 0, 50, 0, 51, 0, 0, 60, 0, 0, 70, 0, 0, 71] : List Int).getD 0 0)))) (by decide +kernel) | 1, _ => hflat (.eq (.elem (.static "GorgeRocks$Speaker" "BODIES" "[I") (.int (Int32.ofNat 1))) (.int (Int32.ofInt (([10, 11, 12, 13, 20, 0, 0, 21, 0, 30, 0, 0, 0, 0, 40, 0, 50, 0, 51, 0, 0, 60, 0, 0, 70, 0, 0, 71] : List Int).getD 1 0)))) (by decide +kernel) | 2, _ => hflat (.eq (.elem (.static "GorgeRocks$Speaker" "BODIES" "[I") (.int (Int32.ofNat 2))) (.int (Int32.ofInt (([10, 11, 12, 13, 20, 0, 0, 21, 0, 30, 0, 0, 0, 0, 40, 0, 50, 0, 51, 0, 0, 60, 0, 0, 70, 0, 0, 71] : List Int).getD 2 0)))) (by decide +kernel) | 3, _ => hflat (.eq (.elem (.static "GorgeRocks$Speaker" "BODIES" "[I") (.int (Int32.ofNat 3))) (.int (Int32.ofInt (([10, 11, 12, 13, 20, 0, 0, 21, 0, 30, 0, 0, 0, 0, 40, 0, 50, 0, 51, 0, 0, 60, 0, 0, 70, 0, 0, 71] : List Int).getD 3 0)))) (by decide +kernel) | 4, _ => hflat (.eq (.elem (.static "GorgeRocks$Speaker" "BODIES" "[I") (.int (Int32.ofNat 4))) (.int (Int32.ofInt (([10, 11, 12, 13, 20, 0, 0, 21, 0, 30, 0, 0, 0, 0, 40, 0, 50, 0, 51, 0, 0, 60, 0, 0, 70, 0, 0, 71] : List Int).getD 4 0)))) (by decide +kernel) | 5, _ => hflat (.eq (.elem (.static "GorgeRocks$Speaker" "BODIES" "[I") (.int (Int32.ofNat 5))) (.int (Int32.ofInt (([10, 11, 12, 13, 20, 0, 0, 21, 0, 30, 0, 0, 0, 0, 40, 0, 50, 0, 51, 0, 0, 60, 0, 0, 70, 0, 0, 71] : List Int).getD 5 0)))) (by decide +kernel) | 6, _ => hflat (.eq (.elem (.static "GorgeRocks$Speaker" "BODIES" "[I") (.int (Int32.ofNat 6))) (.int (Int32.ofInt (([10, 11, 12, 13, 20, 0, 0, 21, 0, 30, 0, 0, 0, 0, 40, 0, 50, 0, 51, 0, 0, 60, 0, 0, 70, 0, 0, 71] : List Int).getD 6 0)))) (by decide +kernel) | 7, _ => hflat (.eq (.elem (.static "GorgeRocks$Speaker" "BODIES" "[I") (.int (Int32.ofNat 7))) (.int (Int32.ofInt (([10, 11, 12, 13, 20, 0, 0, 21, 0, 30, 0, 0, 0, 0, 40, 0, 50, 0, 51, 0, 0, 60, 0, 0, 70, 0, 0, 71] : List Int).getD 7 0)))) (by decide +kernel) | 8, _ => hflat (.eq (.elem (.static "GorgeRocks$Speaker" "BODIES" "[I") (.int (Int32.ofNat 8))) (.int (Int32.ofInt (([10, 11, 12, 13, 20, 0, 0, 21, 0, 30, 0, 0, 0, 0, 40, 0, 50, 0, 51, 0, 0, 60, 0, 0, 70, 0, 0, 71] : List Int).getD 8 0)))) (by decide +kernel) | 9, _ => hflat (.eq (.elem (.static "GorgeRocks$Speaker" "BODIES" "[I") (.int (Int32.ofNat 9))) (.int (Int32.ofInt (([10, 11, 12, 13, 20, 0, 0, 21, 0, 30, 0, 0, 0, 0, 40, 0, 50, 0, 51, 0, 0, 60, 0, 0, 70, 0, 0, 71] : List Int).getD 9 0)))) (by decide +kernel) | 10, _ => hflat (.eq (.elem (.static "GorgeRocks$Speaker" "BODIES" "[I") (.int (Int32.ofNat 10))) (.int (Int32.ofInt (([10, 11, 12, 13, 20, 0, 0, 21, 0, 30, 0, 0, 0, 0, 40, 0, 50, 0, 51, 0, 0, 60, 0, 0, 70, 0, 0, 71] : List Int).getD 10 0)))) (by decide +kernel) | 11, _ => hflat (.eq (.elem (.static "GorgeRocks$Speaker" "BODIES" "[I") (.int (Int32.ofNat 11))) (.int (Int32.ofInt (([10, 11, 12, 13, 20, 0, 0, 21, 0, 30, 0, 0, 0, 0, 40, 0, 50, 0, 51, 0, 0, 60, 0, 0, 70, 0, 0, 71] : List Int).getD 11 0)))) (by decide +kernel) | 12, _ => hflat (.eq (.elem (.static "GorgeRocks$Speaker" "BODIES" "[I") (.int (Int32.ofNat 12))) (.int (Int32.ofInt (([10, 11, 12, 13, 20, 0, 0, 21, 0, 30, 0, 0, 0, 0, 40, 0, 50, 0, 51, 0, 0, 60, 0, 0, 70, 0, 0, 71] : List Int).getD 12 0)))) (by decide +kernel) | 13, _ => hflat (.eq (.elem (.static "GorgeRocks$Speaker" "BODIES" "[I") (.int (Int32.ofNat 13))) (.int (Int32.ofInt (([10, 11, 12, 13, 20, 0, 0, 21, 0, 30, 0, 0, 0, 0, 40, 0, 50, 0, 51, 0, 0, 60, 0, 0, 70, 0, 0, 71] : List Int).getD 13 0)))) (by decide +kernel) | 14, _ => hflat (.eq (.elem (.static "GorgeRocks$Speaker" "BODIES" "[I") (.int (Int32.ofNat 14))) (.int (Int32.ofInt (([10, 11, 12, 13, 20, 0, 0, 21, 0, 30, 0, 0, 0, 0, 40, 0, 50, 0, 51, 0, 0, 60, 0, 0, 70, 0, 0, 71] : List Int).getD 14 0)))) (by decide +kernel) | 15, _ => hflat (.eq (.elem (.static "GorgeRocks$Speaker" "BODIES" "[I") (.int (Int32.ofNat 15))) (.int (Int32.ofInt (([10, 11, 12, 13, 20, 0, 0, 21, 0, 30, 0, 0, 0, 0, 40, 0, 50, 0, 51, 0, 0, 60, 0, 0, 70, 0, 0, 71] : List Int).getD 15 0)))) (by decide +kernel) | 16, _ => hflat (.eq (.elem (.static "GorgeRocks$Speaker" "BODIES" "[I") (.int (Int32.ofNat 16))) (.int (Int32.ofInt (([10, 11, 12, 13, 20, 0, 0, 21, 0, 30, 0, 0, 0, 0, 40, 0, 50, 0, 51, 0, 0, 60, 0, 0, 70, 0, 0, 71] : List Int).getD 16 0)))) (by decide +kernel) | 17, _ => hflat (.eq (.elem (.static "GorgeRocks$Speaker" "BODIES" "[I") (.int (Int32.ofNat 17))) (.int (Int32.ofInt (([10, 11, 12, 13, 20, 0, 0, 21, 0, 30, 0, 0, 0, 0, 40, 0, 50, 0, 51, 0, 0, 60, 0, 0, 70, 0, 0, 71] : List Int).getD 17 0)))) (by decide +kernel) | 18, _ => hflat (.eq (.elem (.static "GorgeRocks$Speaker" "BODIES" "[I") (.int (Int32.ofNat 18))) (.int (Int32.ofInt (([10, 11, 12, 13, 20, 0, 0, 21, 0, 30, 0, 0, 0, 0, 40, 0, 50, 0, 51, 0, 0, 60, 0, 0, 70, 0, 0, 71] : List Int).getD 18 0)))) (by decide +kernel) | 19, _ => hflat (.eq (.elem (.static "GorgeRocks$Speaker" "BODIES" "[I") (.int (Int32.ofNat 19))) (.int (Int32.ofInt (([10, 11, 12, 13, 20, 0, 0, 21, 0, 30, 0, 0, 0, 0, 40, 0, 50, 0, 51, 0, 0, 60, 0, 0, 70, 0, 0, 71] : List Int).getD 19 0)))) (by decide +kernel) | 20, _ => hflat (.eq (.elem (.static "GorgeRocks$Speaker" "BODIES" "[I") (.int (Int32.ofNat 20))) (.int (Int32.ofInt (([10, 11, 12, 13, 20, 0, 0, 21, 0, 30, 0, 0, 0, 0, 40, 0, 50, 0, 51, 0, 0, 60, 0, 0, 70, 0, 0, 71] : List Int).getD 20 0)))) (by decide +kernel) | 21, _ => hflat (.eq (.elem (.static "GorgeRocks$Speaker" "BODIES" "[I") (.int (Int32.ofNat 21))) (.int (Int32.ofInt (([10, 11, 12, 13, 20, 0, 0, 21, 0, 30, 0, 0, 0, 0, 40, 0, 50, 0, 51, 0, 0, 60, 0, 0, 70, 0, 0, 71] : List Int).getD 21 0)))) (by decide +kernel) | 22, _ => hflat (.eq (.elem (.static "GorgeRocks$Speaker" "BODIES" "[I") (.int (Int32.ofNat 22))) (.int (Int32.ofInt (([10, 11, 12, 13, 20, 0, 0, 21, 0, 30, 0, 0, 0, 0, 40, 0, 50, 0, 51, 0, 0, 60, 0, 0, 70, 0, 0, 71] : List Int).getD 22 0)))) (by decide +kernel) | 23, _ => hflat (.eq (.elem (.static "GorgeRocks$Speaker" "BODIES" "[I") (.int (Int32.ofNat 23))) (.int (Int32.ofInt (([10, 11, 12, 13, 20, 0, 0, 21, 0, 30, 0, 0, 0, 0, 40, 0, 50, 0, 51, 0, 0, 60, 0, 0, 70, 0, 0, 71] : List Int).getD 23 0)))) (by decide +kernel) | 24, _ => hflat (.eq (.elem (.static "GorgeRocks$Speaker" "BODIES" "[I") (.int (Int32.ofNat 24))) (.int (Int32.ofInt (([10, 11, 12, 13, 20, 0, 0, 21, 0, 30, 0, 0, 0, 0, 40, 0, 50, 0, 51, 0, 0, 60, 0, 0, 70, 0, 0, 71] : List Int).getD 24 0)))) (by decide +kernel) | 25, _ => hflat (.eq (.elem (.static "GorgeRocks$Speaker" "BODIES" "[I") (.int (Int32.ofNat 25))) (.int (Int32.ofInt (([10, 11, 12, 13, 20, 0, 0, 21, 0, 30, 0, 0, 0, 0, 40, 0, 50, 0, 51, 0, 0, 60, 0, 0, 70, 0, 0, 71] : List Int).getD 25 0)))) (by decide +kernel) | 26, _ => hflat (.eq (.elem (.static "GorgeRocks$Speaker" "BODIES" "[I") (.int (Int32.ofNat 26))) (.int (Int32.ofInt (([10, 11, 12, 13, 20, 0, 0, 21, 0, 30, 0, 0, 0, 0, 40, 0, 50, 0, 51, 0, 0, 60, 0, 0, 70, 0, 0, 71] : List Int).getD 26 0)))) (by decide +kernel) | 27, _ => hflat (.eq (.elem (.static "GorgeRocks$Speaker" "BODIES" "[I") (.int (Int32.ofNat 27))) (.int (Int32.ofInt (([10, 11, 12, 13, 20, 0, 0, 21, 0, 30, 0, 0, 0, 0, 40, 0, 50, 0, 51, 0, 0, 60, 0, 0, 70, 0, 0, 71] : List Int).getD 27 0)))) (by decide +kernel) | j + 28, hj => absurd hj (by omega)) hA
  have hcs : va_Z "java/lang/String" "COMPACT_STRINGS" "Z" (.int 1) (fun q => s.heap.size ≤ q) s s.heap := va_Zof (hts (.laysStatic "java/lang/String" "COMPACT_STRINGS" "Z") (List.mem_of_getElem? (i := 606) (by decide +kernel))) (hts (.initialized "java/lang/String") (List.mem_of_getElem? (i := 83) (by decide +kernel))) (va_eqi (hflat (.eq (.static "java/lang/String" "COMPACT_STRINGS" "Z") (.int 1)) (by decide +kernel))) hA
  refine ⟨fun k => if k = 0 then c0 else if k = 1 then c1 else if k = 2 then c2 else if k = 3 then c3 else if k = 4 then c4 else if k = 5 then c5 else if k = 6 then c6 else if k = 7 then c7 else if k = 8 then c8 else if k = 9 then c9 else if k = 10 then c10 else if k = 11 then c11 else c12, fun k => if k = 0 then i0 else if k = 1 then i1 else if k = 2 then i2 else if k = 3 then i3 else if k = 4 then i4 else if k = 5 then i5 else if k = 6 then i6 else if k = 7 then i7 else if k = 8 then i8 else if k = 9 then i9 else if k = 10 then i10 else if k = 11 then i11 else i12, fun k => if k = 0 then a0 else if k = 1 then a1 else if k = 2 then a2 else if k = 3 then a3 else a4, fun j => if j = 0 then s0 else if j = 1 then s1 else s2, fun j => if j = 0 then v0 else if j = 1 then v1 else v2, fun j => if j = 0 then z0 else z1, ?_⟩
  refine ⟨hx, hb, hml, htU, ⟨fun k q hq => ?_, fun k q hq => ?_⟩, ⟨fun q hq => ?_, hAO, fun j q hq => ?_, fun q hq z hz => ?_⟩, hown, xrho_ok b L xs _ _ _, fun q h => h, fun h => absurd h (by decide +kernel), by show 1 ≤ 2048; decide, by show 64 ≤ 84000; decide, fun _ => ⟨b, L, xs, rfl, rfl, hX, hbl, Nat.not_le.mpr hbl, by omega, fun j hj => if_pos hj, fun j hj => ?_⟩, ⟨fun j q hq => ?_, fun j q hq => ?_, hcs⟩, rfl⟩
  · match k, hq with
    | 0, hq => cases hq; exact hK0
    | 1, hq => cases hq; exact hK1
    | 2, hq => cases hq; exact hK2
    | 3, hq => cases hq; exact hK3
    | 4, hq => cases hq; exact hK4
    | 5, hq => cases hq; exact hK5
    | 6, hq => cases hq; exact hK6
    | 7, hq => cases hq; exact hK7
    | 8, hq => cases hq; exact hK8
    | 9, hq => cases hq; exact hK9
    | 10, hq => cases hq; exact hK10
    | 11, hq => cases hq; exact hK11
    | 12, hq => cases hq; exact hK12
    | k + 13, hq => simp [vwCl] at hq
  · match k, hq with
    | 0, hq => cases hq; exact g0
    | 1, hq => cases hq; exact g1
    | 2, hq => cases hq; exact g2
    | 3, hq => cases hq; exact g3
    | 4, hq => cases hq; exact g4
    | k + 5, hq => simp [xtys] at hq
  · simp only [xnest, List.mem_cons, List.not_mem_nil, or_false] at hq
    rcases hq with rfl | rfl | rfl | rfl | rfl | rfl | rfl | rfl | rfl | rfl | rfl | rfl | rfl
    · exact va_Nw.of rfl (hts (.methodLinkNest "GorgeRocks$World" 75 ⟨"GorgeRocks$Rock", "<init>", "()V"⟩ "GorgeRocks") (List.mem_of_getElem? (i := 160) (by decide +kernel)))
    · exact va_Nw.of rfl (hts (.methodLinkNest "GorgeRocks$World" 76 ⟨"GorgeRocks$Text", "<init>", "()V"⟩ "GorgeRocks") (List.mem_of_getElem? (i := 182) (by decide +kernel)))
    · exact va_Nw.of rfl (hts (.methodLinkNest "GorgeRocks" 21 ⟨"GorgeRocks$Reader", "<init>", "()V"⟩ "GorgeRocks") (List.mem_of_getElem? (i := 259) (by decide +kernel)))
    · exact va_Nw.of rfl (hts (.methodLinkNest "GorgeRocks" 28 ⟨"GorgeRocks$Grammar", "<init>", "()V"⟩ "GorgeRocks") (List.mem_of_getElem? (i := 283) (by decide +kernel)))
    · exact va_Nw.of rfl (hts (.methodLinkNest "GorgeRocks" 42 ⟨"GorgeRocks$Deal", "<init>", "()V"⟩ "GorgeRocks") (List.mem_of_getElem? (i := 320) (by decide +kernel)))
    · exact va_Nw.of rfl (hts (.methodLinkNest "GorgeRocks" 49 ⟨"GorgeRocks$Speaker", "<init>", "()V"⟩ "GorgeRocks") (List.mem_of_getElem? (i := 357) (by decide +kernel)))
    · exact va_Nw.of rfl (hts (.methodLinkNest "GorgeRocks" 90 ⟨"GorgeRocks$Sheet", "<init>", "()V"⟩ "GorgeRocks") (List.mem_of_getElem? (i := 386) (by decide +kernel)))
    · exact va_Nw.of rfl (hts (.methodLinkNest "GorgeRocks$Row" 36 ⟨"GorgeRocks", "contraryOf", "(I)I"⟩ "GorgeRocks") (List.mem_of_getElem? (i := 505) (by decide +kernel)))
    · exact va_Nw.of rfl (hts (.methodLinkNest "GorgeRocks$Row" 42 ⟨"GorgeRocks", "isNumber", "(I)Z"⟩ "GorgeRocks") (List.mem_of_getElem? (i := 727) (by decide +kernel)))
    · exact va_Nw.of rfl (hts (.methodLinkNest "GorgeRocks$World" 135 ⟨"GorgeRocks", "soundOr60", "(I)I"⟩ "GorgeRocks") (List.mem_of_getElem? (i := 757) (by decide +kernel)))
    · exact va_Nw.of rfl (hts (.methodLinkNest "GorgeRocks$Grammar" 34 ⟨"GorgeRocks", "isNumber", "(I)Z"⟩ "GorgeRocks") (List.mem_of_getElem? (i := 859) (by decide +kernel)))
    · exact va_Nw.of rfl (hts (.methodLinkNest "GorgeRocks$Deal" 70 ⟨"GorgeRocks", "isNumber", "(I)Z"⟩ "GorgeRocks") (List.mem_of_getElem? (i := 943) (by decide +kernel)))
    · exact va_Nw.of rfl (hts (.methodLinkNest "GorgeRocks$Speaker" 64 ⟨"GorgeRocks", "isKind", "(I)Z"⟩ "GorgeRocks") (List.mem_of_getElem? (i := 970) (by decide +kernel)))
  · match j, hq with
    | 0, hq => cases hq; exact ⟨s0, rfl, vk_R.of (hts (.stringRef "GorgeRocks$Reader" 23 "sinm") (List.mem_of_getElem? (i := 265) (by decide +kernel))) (by first | exact e0 | (rw [Term.string_eval_of_vm (args := #[Value.ref b]) rfl]; exact e0))⟩
    | 1, hq => cases hq; exact ⟨s1, rfl, vk_R.of (hts (.stringRef "GorgeRocks" 181 "sinm") (List.mem_of_getElem? (i := 566) (by decide +kernel))) (by first | exact e1 | (rw [Term.string_eval_of_vm (args := #[Value.ref b]) rfl]; exact e1))⟩
    | 2, hq => cases hq; exact ⟨s2, rfl, vk_R.of (hts (.stringRef "GorgeRocks" 183 "ohbt") (List.mem_of_getElem? (i := 567) (by decide +kernel))) (by first | exact e2 | (rw [Term.string_eval_of_vm (args := #[Value.ref b]) rfl]; exact e2))⟩
    | j + 3, hq => simp [xstr] at hq
  · simp only [xnf, List.mem_cons, List.not_mem_nil, or_false] at hq
    subst hq
    cases hz
    exact va_Nw.of rfl (hts (.fieldLinkNest "GorgeRocks$Speaker" 57 "GorgeRocks" "ABOVE" "[I" "GorgeRocks") (List.mem_of_getElem? (i := 973) (by decide +kernel)))
  · show xrho b L xs _ _ _ (200 + j) = _
    unfold xrho
    rw [if_neg (by omega), if_neg (by omega), if_neg (by omega), if_neg (by omega), if_neg (by omega), if_neg (by omega), if_neg (by omega), Nat.add_sub_cancel_left]
  · match j, hq with
    | 0, hq => cases hq; exact ⟨z0, rfl, w0, y0⟩
    | 1, hq => cases hq; exact ⟨z1, rfl, w1, y1⟩
    | j + 2, hq => simp [xstat] at hq
  · match j, hq with
    | 0, hq => cases hq; exact ⟨s0, v0, rfl, rfl, o0.1, o0.2.1, o0.2.2.1, by
        have w9 := o0.2.2.2
        rw [show (4 : Nat) = "sinm".toList.length by decide +kernel] at w9
        exact w9⟩
    | 1, hq => cases hq; exact ⟨s1, v1, rfl, rfl, o1.1, o1.2.1, o1.2.2.1, by
        have w9 := o1.2.2.2
        rw [show (4 : Nat) = "sinm".toList.length by decide +kernel] at w9
        exact w9⟩
    | 2, hq => cases hq; exact ⟨s2, v2, rfl, rfl, o2.1, o2.2.1, o2.2.2.1, by
        have w9 := o2.2.2.2
        rw [show (4 : Nat) = "ohbt".toList.length by decide +kernel] at w9
        exact w9⟩
    | j + 3, hq => simp [xstr] at hq

/-- THE LAW, from its entry -/
theorem whole_start {p : Program} {e : Env} {s : State} {m : MethodId} {below : List Frame} {meth : Method} {c : Code} (l : Launch) (hflags : l.flags = flags0) {b L : Nat} {xs : Nat → Int32} (hL : L ≤ 384) (C0 : lw_At p s m meth c b L xs) : W p l e room_1 s m #[Value.ref b] below meth c s.heap [] 0 0 (lw_Z below #[Value.ref b] s) (entryFrame m ([Value.ref b] : List Value).toArray 4) := by
  obtain ⟨dC, dI, dA, sa, va, za, G⟩ := xstart hL C0
  obtain ⟨hx, hb, hr, hml, hown, hts, hX, hbl, hlocks, hgv⟩ := id C0
  have hrr := xrho_ok b L xs sa va za
  obtain ⟨h', f1, f2, S⟩ := lw_all xtok hrr rfl (by omega)
  have hl := lv_entry ([.ref b]) (n := 4) (Nat.le_of_ble_eq_true rfl)
  rw [lg_entry_eq]
  have hC := S.2.2 (fun q h => absurd h List.not_mem_nil) p l e room_1 s m #[Value.ref b] below meth c (lw_Z below #[Value.ref b] s) (dC, dI) dA (fun q => s.heap.size ≤ q) 0 0 (fun _ => 0) G (by show 1001 ≤ 2048; decide) (by show 64 * 1001 ≤ 84000; decide) (by show h'.length - 0 ≤ 600000; omega) (by show xhz h' - 0 ≤ 7302250; omega) (by
    intro pcR ad H locs ls hR hn hz hag hP hD hS
    rcases hR with ⟨h, -⟩ | ⟨t, h, -, hd⟩ | ⟨t, h, h2, -⟩
    · cases h
    · cases h
      refine va_forget (fun q hq => hS.2.2 q hq) (W.widen (k := 600000) (n := 7302250) (by show h'.length - 0 ≤ 600000; omega) (by show xhz h' - 0 ≤ 7302250; omega) ?_)
      exact lw_ret hx hb hr hlocks hd
    · cases h
      exact absurd h2 (by decide))
  exact hC (Nat.zero_le _) (Nat.zero_le _) rfl (fun _ => 0) s.heap [] _ (fun i hi => absurd hi (Nat.not_lt_zero i)) (fun k q h => by simp [xwv] at h) ⟨fun i j p q h => by simp [xwv] at h, fun k q h => by simp [xwv] at h⟩ va_S.rf hl

-- ===== YOUR PART ENDS =====
set_option maxHeartbeats 4000000 in
theorem lw_walk (l : Launch) (hflags : l.flags = flags0) (b : Addr) (xs : List Int32) : MetFree l x (headSpec (Jvm.Cond.code x code maxLocals ret :: tables_1) room_1) (lw_P b xs) (fun _ _ _ _ _ => True) lw_Q := by
  refine MetFree.of_bodyS (code := code) (maxLocals := maxLocals) (ret := ret) (by decide) ?_ ?_
  · intro args s m h hn
    obtain ⟨meth, c, h1, h2, h3, h4, h5, h6, -, -⟩ := Cond.code_spec hn (atoms_spec (ws := Jvm.Cond.code x code maxLocals ret :: tables_1) h _ List.mem_cons_self)
    exact ⟨meth, c, h1, h2, h3, h4, h5, h6⟩
  · intro p e s m args below meth c s₁ B hml0 hP _
    obtain ⟨rfl, hx, hbd, hgv⟩ := hP
    obtain ⟨scr, harrAt, hlist, hof, hsmall⟩ := hx
    obtain ⟨hcb, hkn, -, -⟩ := State.arrayAt?_spec harrAt
    have hown : s.vm.findClass R_law = some m.cls := findClass_of_methodNamed B.named
    have hts0 : ∀ c ∈ (Jvm.Cond.code x code maxLocals ret :: tables_1), c.before #[Value.ref b] s = true := atoms_spec (ws := Jvm.Cond.code x code maxLocals ret :: tables_1) B.pre
    have hts : ∀ w ∈ lw_tbl, w.before #[Value.ref b] s = true := k2_hts_sels lw_privs (fun w hw => hts0 w (List.mem_cons_of_mem _ hw)) lw_privs_ok
    have hml : c.maxLocals = 4 := B.maxLocals_eq (hts0 _ List.mem_cons_self)
    have X₀ : Stand p l e room_1 s m #[Value.ref b] below meth c s₁ [] 0 0 := Stand.of_body B
    have hh0 : s₁.heap = s.heap := by rw [B.state]; rfl
    have hsz : scr.slots.size = xs.length := by rw [← Array.length_toList, hlist, List.length_map]
    have hval : ∀ j : Nat, j < xs.length → scr.slots[j]? = some (.int (xs.getD j 0)) := fun j hj => by
      rw [← Array.getElem?_toList, hlist]
      simp [hj]
    have hbl : b < s.heap.size := (Array.getElem?_eq_some_iff.mp hcb).1
    have hX : va_X b xs.length (fun j => xs.getD j 0) s s.heap := ⟨scr, hcb, hof, hkn, hsz, hval⟩
    have K : W p l e room_1 s m #[Value.ref b] below meth c s₁.heap [] 0 0 (lw_Z below #[Value.ref b] s) (entryFrame m ([Value.ref b] : List Value).toArray 4) := by
      rw [hh0]
      exact whole_start l hflags hbd ⟨B.exec, B.bytes, B.returns, hml, hown, hts, hX, hbl, B.notSynchronized, hgv⟩
    obtain ⟨t, a1, o, b1, b2, b3⟩ := K s₁ rfl X₀
    exact ⟨t, o, a1, b1, b2, b3⟩
theorem lw_pre_spec {args : Array Value} {s : State} (h : (Jvm.Cond.and given_1 narrow_1).before args s = true) (hr : rest_1_c.before args s = true) : ∃ (b : Addr) (xs : List Int32), lw_P b xs args s := by
  have hs := flat_of_before _ h
  have hq := flat_of_before _ hr
  have hc : (Cond.count 1).before args s = true := hs _ (by decide +kernel)
  have harr : (Cond.arrayOf (.arg 0) .int).before args s = true := hs _ (by decide +kernel)
  have hle : (Cond.le (.length (.arg 0)) (.int 384)).before args s = true := hs _ (by decide +kernel)
  have hlen : (Cond.isInt (.length (.arg 0))).before args s = true := hq _ (by decide +kernel)
  have hall : (Cond.all (.arg 0) (.isInt (.elem (.arg 0) (.index 0)))).before args s = true := hq _ (by decide +kernel)
  obtain ⟨b, xs, hb, hx⟩ := State.ints_of_pre rfl harr hlen hall
  have hsm : xs.length < 2 ^ 31 := hx.choose_spec.2.2.2
  have hev : (Term.length (.arg 0)).eval args s none [] s = some (.int xs.length.toInt32) := hx.length_eval hb
  have hv := Cond.le_ints hev (show (Term.int 384).eval args s none [] s = some (.int 384) from rfl)
  have hd : xs.length.toInt32 ≤ 384 := by
    simpa [Cond.before, Cond.holds, hv] using hle
  have hN : xs.length ≤ 384 := (Int32.ofNat_le_ofNat hsm (by decide)).mp (show Int32.ofNat xs.length ≤ Int32.ofNat 384 from hd)
  exact ⟨b, xs, Cond.one_arg hc (show args[0]? = some (.ref b) from hb), hx, hN, h⟩
theorem lw_comes (l : Launch) (hflags : l.flags = flags0) : Comes l x (Jvm.Cond.code x code maxLocals ret :: tables_1) room_1 (fun tb e args s => Calls_1 tb e args s ∧ rest_1 tb e args s ∧ Pre_1 tb e args s)
    (fun _ _ args s o t => lw_Q args s o t) := by
  intro p e ha hc hk s m args below hf hfit hheap happ hpre
  obtain ⟨b, xs, hP⟩ := lw_pre_spec hpre.2.2 hpre.2.1
  obtain ⟨k, o, h1, h2, h3, hQ⟩ := lw_walk l hflags b xs p e ha hc hk s m args below hf ((Spec.applies_iff_loose hf).mp happ).1 hP trivial
  exact ⟨k, o, h1, h2, h3, hQ⟩
theorem lw_frame {s t : State} {o : Outcome} {args : Array Value} (h : Framed s o t [] 600000 7302250) :
    Framed s o t (fieldLocs frame_1_writes args s ++ arrayLocs frame_1_arrays args s ++ staticLocs frame_1_statics s) 600000 7302250 := h
theorem lw_limb (L : Cond) (hL : ∀ (args : Array Value) (s t : State), L.after args s (.returned (some (.int 1))) t = true) :
    ArmFor flags0 classFile x code maxLocals ret World_1 tables_1 room_1 Calls_1 rest_1 Pre_1
      (fun tb e a s o t => postC L tb e a s o t ∧ Framed s o t (fieldLocs frame_1_writes a s ++ arrayLocs frame_1_arrays a s ++ staticLocs frame_1_statics s) 600000 7302250) := by
  intro l hflags _ _ p e ha hc hk s m args below hf hfit hheap happ hpre
  obtain ⟨k, o, h1, h2, h3, rfl, hF⟩ := lw_comes l hflags p e ha hc hk s m args below hf hfit hheap happ hpre
  exact ⟨k, _, h1, h2, h3, hL args s _, lw_frame hF⟩
theorem i_vc : Claimed_1_1 ∧ Claimed_1_2 := ⟨lw_limb limb_1_1 (fun args s t => by simp [limb_1_1, Cond.after, Cond.holds, Cond.value]), lw_limb limb_1_2 (fun args s t => Cond.after_iff.mpr (by
  first | (rw [show limb_1_2 = Cond.eq .result (.int 1) from rfl, Cond.eq_ints (x := 1) (y := 1) rfl rfl]; simp; done) | (simp [limb_1_2, Cond.value, Term.eval]; done)))⟩

