/-! THE CLAIM OUT OF ONE WALK OF THE LAW'S BODY. Your part is whole_start (and what it stands on); all else here is the same for every law, but numbers. -/
def R_law : String := "GorgeRocksLaw"
def lw_P (b : Addr) (xs : List Int32) (args : Array Value) (s : State) : Prop := args = #[.ref b] ∧ s.IntsAt b xs ∧ xs.length ≤ 6 ∧ (Jvm.Cond.and given_1 narrow_1).before args s = true
def lw_Q (_ : Array Value) (s : State) (o : Outcome) (t : State) : Prop := o = .returned (some (.int 1)) ∧ Framed s o t [] 600000 7302250
def lw_Z (below : List Frame) (a : Array Value) (s : State) : State → Prop := fun t => ∃ o, t.status = .running ∧ Ended t below o ∧ lw_Q a s o t
/-- the law's own end, with 1 on the stack, nothing written that was there before, its room as the claim has it -/
theorem lw_ret {p : Program} {l : Launch} {e : Env} {s : State} {m : MethodId} {below : List Frame} {meth : Method} {c : Code} {b : Nat} (hx : p.tables.exec = Jvm.exec) (hb : c.code = code) (hr : meth.sig.returnType = ret) (hlocks : meth.locks = false) {pc : Nat} {H : Heap} {ls : Array Slot} (hdg : decode code pc = .ok (.ireturn, 1)) : W p l e room_1 s m #[Value.ref b] below meth c H [] 600000 7302250 (lw_Z below #[Value.ref b] s) (F0 m pc ls [.int 1]) := by
  intro T hT X
  obtain ⟨fs, hret, hrun, hended, hW, hframe⟩ := X.leave (v := some (.int 1)) (hlocks := hlocks) (fun h => by rw [hr] at h; cases h)
  have hmeth' : T.vm.method? m = some meth := X.method'
  refine ⟨T.setFrames fs, ?_, .returned (some (.int 1)), hrun, hended, rfl, ⟨_, rfl⟩, hW, hframe⟩
  jvm_step X.here [X.here.top, hx, hb, hdg, hmeth', hr, ret, narrow_b1]
  (try refine ⟨rfl, ?_⟩); (try refine ⟨rfl, ?_⟩)
  first | (intro acts; rw [hret _ acts rfl rfl rfl]) | rw [hret _ _ rfl rfl rfl]
  exact Steps.refl _
/-- what holds at the law's entry: the machine, the code, the tables' words (any of lw_tbl by 'hts w (by decide +kernel)'), the script of L ints xs at the cell b, what the Statement gives of the start (any of its parts by flat_of_before) -/
def lw_At (p : Program) (s : State) (m : MethodId) (meth : Method) (c : Code) (b L : Nat) (xs : Nat → Int32) : Prop :=
  p.tables.exec = Jvm.exec ∧ c.code = code ∧ meth.sig.returnType = ret ∧ c.maxLocals = 4 ∧ s.vm.findClass R_law = some m.cls ∧ (∀ w ∈ lw_tbl, w.before #[Value.ref b] s = true) ∧ va_X b L xs s s.heap ∧ b < s.heap.size ∧ meth.locks = false ∧ (Jvm.Cond.and given_1 narrow_1).before #[Value.ref b] s = true

/-- the unknowns of a run: the script's ints, its length, its cell, the String constants -/
def xrho (b L : Nat) (xs : Nat → Int32) (sa : Nat → Nat) : Nat → Value := fun i => if i < 49 then .int (xs i) else if i = 49 then .int (Int32.ofNat L) else if i < 100 then .long 0 else if i = 100 then .ref b else .ref (sa (i - 101))
theorem xrho_ok (b L : Nat) (xs : Nat → Int32) (sa : Nat → Nat) : xRr (xrho b L xs sa) := by
  refine ⟨fun i h => ?_, fun i h1 h2 => ?_, fun i h => ?_⟩
  · have := Nat.le_of_ble_eq_true h
    unfold xrho
    by_cases e : i < 49
    · rw [if_pos e]; exact ⟨_, rfl⟩
    · rw [if_neg e, if_pos (by omega)]; exact ⟨_, rfl⟩
  · have h2 := Nat.le_of_ble_eq_true h2
    have h1 : ¬ i ≤ 49 := fun q => by rw [Nat.ble_eq_true_of_le q] at h1; cases h1
    unfold xrho
    rw [if_neg (by omega), if_neg (by omega), if_pos (by omega)]
    exact ⟨_, rfl⟩
  · have h1 : ¬ i ≤ 99 := fun q => by rw [Nat.ble_eq_true_of_le q] at h; cases h
    unfold xrho
    rw [if_neg (by omega), if_neg (by omega), if_neg (by omega)]
    by_cases e : i = 100
    · rw [if_pos e]; exact ⟨_, rfl⟩
    · rw [if_neg e]; exact ⟨_, rfl⟩
theorem xarr_int {s : State} {args : Array Value} (h : (Cond.arrayClass .int).before args s = true) : ∃ cA : ClassId, ArrOfT s cA .int ∧ va_RA s cA .int := by
  obtain ⟨cA, kA, comp, h1, h2, h3⟩ := Cond.arrayClass_spec h
  exact ⟨cA, fun n z => ⟨fun k h => by simp [arrV] at h, kA, h2, comp, h3⟩, h1⟩
theorem xarr_ref {s : State} {C : String} (h : va_AO C s) : ∃ cA : ClassId, ArrOfT s cA (.object C) ∧ va_RA s cA (.object C) := by
  obtain ⟨comp, c, k, h1, h2, h3, h4, h5⟩ := Cond.arrayOver_spec h
  exact ⟨c, fun n z => ⟨fun k h => by simp [arrV] at h, k, h3, comp, h4⟩, k, comp, h3, h4, h1, h5⟩
set_option maxHeartbeats 8000000 in
set_option maxRecDepth 100000 in
/-- the law's world at its entry -/
theorem xstart {s : State} {m : MethodId} {p : Program} {meth : Method} {c : Code} {b L : Nat} {xs : Nat → Int32} (hL : L ≤ 6) (C0 : lw_At p s m meth c b L xs) :
    ∃ (dC : Nat → ClassId) (dI : Nat → Nat → Nat) (dA : Nat → ClassId) (sa : Nat → Nat), xCx p room_1 s m #[Value.ref b] meth c (xrho b L xs sa) (dC, dI) dA (fun q => s.heap.size ≤ q) s.heap xlaw := by
  obtain ⟨hx, hb, hr, hml, hown, hts, hX, hbl, hlocks, hgv⟩ := id C0
  have htU : ∀ w ∈ xU, w.before #[Value.ref b] s = true := fun w h => hts w (List.mem_filter.mp h).1
  obtain ⟨c0, i0, hK0⟩ := u_known (C := RX0) (T := TX0) (N := 8) (n := 8) htU xin0 (htU (.instantiable RX0 8) (xw (p := 319) (by decide +kernel) rfl))
  obtain ⟨c1, i1, hK1⟩ := u_known (C := RX1) (T := TX1) (N := 3) (n := 3) htU xin1 (htU (.instantiable RX1 3) (xw (p := 282) (by decide +kernel) rfl))
  obtain ⟨c2, i2, hK2⟩ := u_known (C := RX2) (T := TX2) (N := 3) (n := 3) htU xin2 (htU (.instantiable RX2 3) (xw (p := 141) (by decide +kernel) rfl))
  obtain ⟨c3, i3, hK3⟩ := u_known (C := RX3) (T := TX3) (N := 3) (n := 3) htU xin3 (htU (.instantiable RX3 3) (xw (p := 300) (by decide +kernel) rfl))
  obtain ⟨c4, i4, hK4⟩ := u_known (C := RX4) (T := TX4) (N := 4) (n := 4) htU xin4 (htU (.instantiable RX4 4) (xw (p := 258) (by decide +kernel) rfl))
  obtain ⟨c5, i5, hK5⟩ := u_known (C := RX5) (T := TX5) (N := 3) (n := 3) htU xin5 (htU (.instantiable RX5 3) (xw (p := 159) (by decide +kernel) rfl))
  obtain ⟨c6, i6, hK6⟩ := u_known (C := RX6) (T := TX6) (N := 2) (n := 2) htU xin6 (htU (.instantiable RX6 2) (xw (p := 110) (by decide +kernel) rfl))
  obtain ⟨c7, i7, hK7⟩ := u_known (C := RX7) (T := TX7) (N := 3) (n := 3) htU xin7 (htU (.instantiable RX7 3) (xw (p := 385) (by decide +kernel) rfl))
  obtain ⟨c8, i8, hK8⟩ := u_known (C := RX8) (T := TX8) (N := 5) (n := 5) htU xin8 (htU (.instantiable RX8 5) (xw (p := 356) (by decide +kernel) rfl))
  obtain ⟨c9, i9, hK9⟩ := u_known (C := RX9) (T := TX9) (N := 2) (n := 2) htU xin9 (htU (.instantiable RX9 2) (xw (p := 181) (by decide +kernel) rfl))
  obtain ⟨c10, i10, hK10⟩ := u_known (C := RX10) (T := TX10) (N := 15) (n := 15) htU xin10 (htU (.instantiable RX10 15) (xw (p := 99) (by decide +kernel) rfl))
  obtain ⟨c11, i11, hK11⟩ := u_known (C := RX11) (T := TX11) (N := 15) (n := 15) htU xin11 (htU (.instantiable RX11 15) (xw (p := 91) (by decide +kernel) rfl))
  obtain ⟨c12, i12, hK12⟩ := u_known (C := RX12) (T := TX12) (N := 26) (n := 26) htU xin12 (htU (.instantiable RX12 26) (xw (p := 1057) (by decide +kernel) rfl))
  have hAO : ∀ kk : Nat, Nat.ble 21 kk = true → Nat.ble kk 24 = true → va_AO (xkc kk) s := by
    intro kk h1 h2
    have h1 := Nat.le_of_ble_eq_true h1
    have h2 := Nat.le_of_ble_eq_true h2
    rcases (show kk = 21 ∨ kk = 22 ∨ kk = 23 ∨ kk = 24 by omega) with rfl | rfl | rfl | rfl
    · exact hts (.arrayOver (.object RX6)) (List.mem_of_getElem? (i := 105) (by decide +kernel))
    · exact hts (.arrayOver (.object RX5)) (List.mem_of_getElem? (i := 107) (by decide +kernel))
    · exact hts (.arrayOver (.object RX9)) (List.mem_of_getElem? (i := 109) (by decide +kernel))
    · exact hts (.arrayOver (.object RX7)) (List.mem_of_getElem? (i := 382) (by decide +kernel))
  obtain ⟨a0, g0⟩ := xarr_int (hts (.arrayClass .int) (List.mem_of_getElem? (i := 139) (by decide +kernel)))
  obtain ⟨a1, g1⟩ := xarr_ref (hAO 21 rfl rfl)
  obtain ⟨a2, g2⟩ := xarr_ref (hAO 22 rfl rfl)
  obtain ⟨a3, g3⟩ := xarr_ref (hAO 23 rfl rfl)
  obtain ⟨a4, g4⟩ := xarr_ref (hAO 24 rfl rfl)
  have hflat := flat_of_before _ hgv
  obtain ⟨s0, -, -, -, e0, -⟩ := Cond.exactly_spec (args := #[Value.ref b]) (first := s) (o := none) (s := s) (idx := []) (t := .string "GorgeRocks$Reader" 23) (cls := "java/lang/String") (hflat (.exactly (.string "GorgeRocks$Reader" 23) "java/lang/String") (by decide +kernel))
  obtain ⟨s1, -, -, -, e1, -⟩ := Cond.exactly_spec (args := #[Value.ref b]) (first := s) (o := none) (s := s) (idx := []) (t := .string "GorgeRocks" 181) (cls := "java/lang/String") (hflat (.exactly (.string "GorgeRocks" 181) "java/lang/String") (by decide +kernel))
  obtain ⟨s2, -, -, -, e2, -⟩ := Cond.exactly_spec (args := #[Value.ref b]) (first := s) (o := none) (s := s) (idx := []) (t := .string "GorgeRocks" 183) (cls := "java/lang/String") (hflat (.exactly (.string "GorgeRocks" 183) "java/lang/String") (by decide +kernel))
  refine ⟨fun k => if k = 0 then c0 else if k = 1 then c1 else if k = 2 then c2 else if k = 3 then c3 else if k = 4 then c4 else if k = 5 then c5 else if k = 6 then c6 else if k = 7 then c7 else if k = 8 then c8 else if k = 9 then c9 else if k = 10 then c10 else if k = 11 then c11 else c12, fun k => if k = 0 then i0 else if k = 1 then i1 else if k = 2 then i2 else if k = 3 then i3 else if k = 4 then i4 else if k = 5 then i5 else if k = 6 then i6 else if k = 7 then i7 else if k = 8 then i8 else if k = 9 then i9 else if k = 10 then i10 else if k = 11 then i11 else i12, fun k => if k = 0 then a0 else if k = 1 then a1 else if k = 2 then a2 else if k = 3 then a3 else a4, fun j => if j = 0 then s0 else if j = 1 then s1 else s2, ?_⟩
  refine ⟨hx, hb, hml, htU, ⟨fun k q hq => ?_, fun k q hq => ?_⟩, ⟨fun q hq => ?_, hAO, fun j q hq => ?_⟩, hown, xrho_ok b L xs _, fun q h => h, fun h => absurd h (by decide +kernel), by show 1 ≤ 2048; decide, by show 64 ≤ 84000; decide, fun _ => ⟨b, L, xs, rfl, rfl, hX, hbl, Nat.not_le.mpr hbl, by omega, fun j hj => if_pos hj⟩⟩
  · match k, hq with
    | 0, hq => cases hq; exact hK0
    | 1, hq => cases hq; exact hK1
    | 2, hq => cases hq; exact hK2
    | 3, hq => cases hq; exact hK3
    | 4, hq => cases hq; exact hK4
    | 5, hq => cases hq; exact hK5
    | 6, hq => cases hq; exact hK6
    | 7, hq => cases hq; exact hK7
    | 8, hq => cases hq; exact hK8
    | 9, hq => cases hq; exact hK9
    | 10, hq => cases hq; exact hK10
    | 11, hq => cases hq; exact hK11
    | 12, hq => cases hq; exact hK12
    | k + 13, hq => simp [vwCl] at hq
  · match k, hq with
    | 0, hq => cases hq; exact g0
    | 1, hq => cases hq; exact g1
    | 2, hq => cases hq; exact g2
    | 3, hq => cases hq; exact g3
    | 4, hq => cases hq; exact g4
    | k + 5, hq => simp [xtys] at hq
  · simp only [xnest, List.mem_cons, List.not_mem_nil, or_false] at hq
    rcases hq with rfl | rfl | rfl | rfl | rfl | rfl | rfl | rfl | rfl | rfl | rfl | rfl | rfl
    · exact va_Nw.of rfl (hts (.methodLinkNest "GorgeRocks$World" 75 ⟨"GorgeRocks$Rock", "<init>", "()V"⟩ "GorgeRocks") (List.mem_of_getElem? (i := 160) (by decide +kernel)))
    · exact va_Nw.of rfl (hts (.methodLinkNest "GorgeRocks$World" 76 ⟨"GorgeRocks$Text", "<init>", "()V"⟩ "GorgeRocks") (List.mem_of_getElem? (i := 182) (by decide +kernel)))
    · exact va_Nw.of rfl (hts (.methodLinkNest "GorgeRocks" 21 ⟨"GorgeRocks$Reader", "<init>", "()V"⟩ "GorgeRocks") (List.mem_of_getElem? (i := 259) (by decide +kernel)))
    · exact va_Nw.of rfl (hts (.methodLinkNest "GorgeRocks" 28 ⟨"GorgeRocks$Grammar", "<init>", "()V"⟩ "GorgeRocks") (List.mem_of_getElem? (i := 283) (by decide +kernel)))
    · exact va_Nw.of rfl (hts (.methodLinkNest "GorgeRocks" 42 ⟨"GorgeRocks$Deal", "<init>", "()V"⟩ "GorgeRocks") (List.mem_of_getElem? (i := 320) (by decide +kernel)))
    · exact va_Nw.of rfl (hts (.methodLinkNest "GorgeRocks" 49 ⟨"GorgeRocks$Speaker", "<init>", "()V"⟩ "GorgeRocks") (List.mem_of_getElem? (i := 357) (by decide +kernel)))
    · exact va_Nw.of rfl (hts (.methodLinkNest "GorgeRocks" 90 ⟨"GorgeRocks$Sheet", "<init>", "()V"⟩ "GorgeRocks") (List.mem_of_getElem? (i := 386) (by decide +kernel)))
    · exact va_Nw.of rfl (hts (.methodLinkNest "GorgeRocks$Row" 36 ⟨"GorgeRocks", "contraryOf", "(I)I"⟩ "GorgeRocks") (List.mem_of_getElem? (i := 505) (by decide +kernel)))
    · exact va_Nw.of rfl (hts (.methodLinkNest "GorgeRocks$Row" 42 ⟨"GorgeRocks", "isNumber", "(I)Z"⟩ "GorgeRocks") (List.mem_of_getElem? (i := 727) (by decide +kernel)))
    · exact va_Nw.of rfl (hts (.methodLinkNest "GorgeRocks$World" 135 ⟨"GorgeRocks", "soundOr60", "(I)I"⟩ "GorgeRocks") (List.mem_of_getElem? (i := 757) (by decide +kernel)))
    · exact va_Nw.of rfl (hts (.methodLinkNest "GorgeRocks$Grammar" 34 ⟨"GorgeRocks", "isNumber", "(I)Z"⟩ "GorgeRocks") (List.mem_of_getElem? (i := 859) (by decide +kernel)))
    · exact va_Nw.of rfl (hts (.methodLinkNest "GorgeRocks$Deal" 70 ⟨"GorgeRocks", "isNumber", "(I)Z"⟩ "GorgeRocks") (List.mem_of_getElem? (i := 943) (by decide +kernel)))
    · exact va_Nw.of rfl (hts (.methodLinkNest "GorgeRocks$Speaker" 64 ⟨"GorgeRocks", "isKind", "(I)Z"⟩ "GorgeRocks") (List.mem_of_getElem? (i := 970) (by decide +kernel)))
  · match j, hq with
    | 0, hq => cases hq; exact ⟨s0, rfl, vk_R.of (hts (.stringRef "GorgeRocks$Reader" 23 "sinm") (List.mem_of_getElem? (i := 265) (by decide +kernel))) (by first | exact e0 | (rw [Term.string_eval_of_vm (args := #[Value.ref b]) rfl]; exact e0))⟩
    | 1, hq => cases hq; exact ⟨s1, rfl, vk_R.of (hts (.stringRef "GorgeRocks" 181 "sinm") (List.mem_of_getElem? (i := 566) (by decide +kernel))) (by first | exact e1 | (rw [Term.string_eval_of_vm (args := #[Value.ref b]) rfl]; exact e1))⟩
    | 2, hq => cases hq; exact ⟨s2, rfl, vk_R.of (hts (.stringRef "GorgeRocks" 183 "ohbt") (List.mem_of_getElem? (i := 567) (by decide +kernel))) (by first | exact e2 | (rw [Term.string_eval_of_vm (args := #[Value.ref b]) rfl]; exact e2))⟩
    | j + 3, hq => simp [xstr] at hq
/-- an evaluation that ends with 1, within the room -/
def xfin (o : Option xO) : Bool := match o with
  | none => false
  | some q => (match q.1 with
    | none => false
    | some t => xeT t (.int 1)) && (Nat.ble q.2.1.length 2000 && Nat.ble (xhz q.2.1) 20000)
set_option maxHeartbeats 8000000 in
/-- THE LAW, by an evaluation of it from its loop on -/
theorem xtop {p : Program} {e : Env} {s : State} {m : MethodId} {below : List Frame} {meth : Method} {c : Code} (l : Launch) {b L : Nat} {xs : Nat → Int32} (hL : L ≤ 6) (C0 : lw_At p s m meth c b L xs) (hcov : ∀ sa : Nat → Nat, ∃ (f : Nat) (E : List xB), (∀ q ∈ E, xhold (xrho b L xs sa) q) ∧ xfin (xev f 20 xlaw 18 xlo0 [] xh0 E) = true) : W p l e room_1 s m #[Value.ref b] below meth c s.heap [] 0 0 (lw_Z below #[Value.ref b] s) (entryFrame m ([Value.ref b] : List Value).toArray 4) := by
  obtain ⟨dC, dI, dA, sa, hG⟩ := xstart hL C0
  have G := hG
  obtain ⟨hx, hb, hr, hml, hown, hts, hX, hbl, hlocks, hgv⟩ := id C0
  obtain ⟨f, E, hE, hf⟩ := hcov sa
  cases ho : xev f 20 xlaw 18 xlo0 [] xh0 E with
  | none => rw [ho] at hf; cases hf
  | some o =>
  rw [ho] at hf
  simp only [xfin, Bool.and_eq_true] at hf
  obtain ⟨hf1, hf2, hf3⟩ := hf
  have hf2 := Nat.le_of_ble_eq_true hf2
  have hf3 := Nat.le_of_ble_eq_true hf3
  have hS := xev_sound xtok (xrho_ok b L xs sa) _ _ _ _ _ _ _ _ _ ho
  have hP := xgo_sound xtok (xrho_ok b L xs sa) _ _ _ _ _ _ _ _ _ _ (xeZ_eq xpre)
  have hl := lv_entry ([.ref b]) (n := 4) (Nat.le_of_ble_eq_true rfl)
  rw [lg_entry_eq]
  have hC := hP.2.2 (fun q h => absurd h List.not_mem_nil) p l e room_1 s m #[Value.ref b] below meth c (lw_Z below #[Value.ref b] s) (dC, dI) dA (fun q => s.heap.size ≤ q) 0 0 (fun _ => 0) G (by show 21 ≤ 2048; decide) (by show 64 * 21 ≤ 84000; decide) (by show _ ≤ 600000; have := hS.1; simp only; omega) (by show _ ≤ 7302250; have := hS.2.1; simp only; omega) (fun _ => hS.2.2 hE p l e room_1 s m #[Value.ref b] below meth c (lw_Z below #[Value.ref b] s) (dC, dI) dA (fun q => s.heap.size ≤ q) 0 0 (fun _ => 0) G (by show 21 ≤ 2048; decide) (by show 64 * 21 ≤ 84000; decide) (by show _ ≤ 600000; omega) (by show _ ≤ 7302250; omega) (by
    intro pcR ad H locs ls hR hn hz hag hP hD hS
    cases hv : o.1 with
    | none => rw [hv] at hf1; cases hf1
    | some t =>
    rw [hv] at hf1
    have ht := xeT_eq hf1
    subst ht
    rw [hv] at hR
    rcases hR with ⟨h, -⟩ | ⟨t, h, -, hd⟩ | ⟨t, h, h2, -⟩
    · cases h
    · refine va_forget (fun q hq => hS.2.2 q hq) (W.widen (k := 600000) (n := 7302250) (by omega) (by omega) ?_)
      exact lw_ret hx hb hr hlocks hd
    · cases h
      exact absurd h2 (by decide)))
  exact hC (Nat.zero_le _) (Nat.zero_le _) rfl (fun _ => 0) s.heap [] _ (fun i hi => absurd hi (Nat.not_lt_zero i)) (fun k q h => by simp [xwv] at h) ⟨fun i j p q h => by simp [xwv] at h, fun k q h => by simp [xwv] at h⟩ va_S.rf hl
