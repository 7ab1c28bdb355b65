-- ===== String.indexOf of a String constant: the JDK's own code, walked
theorem jgood {y : MethodName} {cc : ByteArray} {n pl : Nat} {ret : Option FieldType} (hcw : lw_tbl[pl]? = some (.code y cc n ret)) : GoodIn xU (.code y cc n ret :: xU) := by
  intro w hw
  have hin : w ∈ xU := by
    rcases List.mem_cons.mp hw with rfl | h
    · exact xw hcw rfl
    · exact h
  exact ⟨hin, good_of_word (List.mem_filter.mp hin).2⟩
theorem xws_good (cm : Nat) (hcw : lw_tbl[xcp cm]? = some (.code (xy cm) (xb cm) (xm cm) (xr cm))) : GoodIn xU (xws cm) := by
  intro w hw
  have hin : w ∈ xU := by
    rcases List.mem_cons.mp hw with rfl | h
    · exact xw hcw rfl
    · exact h
  exact ⟨hin, good_of_word (List.mem_filter.mp hin).2⟩
theorem xmap_ag {r : Nat → Value} {ad ad' : Nat → Nat} {n : Nat} {st : List Jvm.Term} (hag : ∀ i, i < n → ad' i = ad i) (h : st.all (xidx n) = true) : st.map (xdv r ad') = st.map (xdv r ad) :=
  List.map_congr_left (fun t ht => xdv_congr hag t (xidx_lt (List.all_eq_true.mp h t ht)))
theorem xlo_ag {r : Nat → Value} {ad ad' : Nat → Nat} {n : Nat} {lo : xL} (hag : ∀ i, i < n → ad' i = ad i) (h : lo.all (fun q => xidx n q.2) = true) : lo.map (fun z => (z.1, xdv r ad' z.2)) = lo.map (fun z => (z.1, xdv r ad z.2)) :=
  List.map_congr_left (fun z hz => by rw [xdv_congr hag z.2 (xidx_lt (List.all_eq_true.mp h z hz))])
section
variable {p : Program} {l : Launch} {e : Env} {R : Room} {s : State} {m : MethodId} {args : Array Value} {below : List Frame} {meth : Method} {c : Code} {Q : State → Prop} {r : Nat → Value} {D : va_G} {dA : Nat → ClassId} {A : Nat → Prop} {mi pc : Nat}
theorem xpreS {av : List Value} {h : xH} {ad : Nat → Nat} {H : Heap} {B : Nat → Prop} {locs : List Loc} (hK : va_K D vwCl (xtys dA) s) (hNw : xNw r s) (hP : va_P D vwCl (xwv r ad dA h) H) (hD : va_D B (xwv r ad dA h)) (hSt : xSt r A s s.heap) (hS : va_S A s.heap H locs) (hA1 : ∀ q, va_A (xwv r ad dA h) H.size q → A q) : PreS s H (va_Pc av (xB0 r D dA h ad H.size)) av :=
  ⟨fun a U g mk q => ⟨q.1, q.2.1, q.2.2.1, va_K.moved (u := U) (U := U.calling g mk a) (Vm.Alike.refl U.vm) q.2.2.2.1, xNw.same (u := U) (U := U.calling g mk a) rfl q.2.2.2.2.1, q.2.2.2.2.2.1, xSt.moved (u := U) (U := U.calling g mk a) (Vm.Alike.refl U.vm) q.2.2.2.2.2.2⟩, fun U hU hW => ⟨rfl, by rw [hU], by rw [hU]; exact hP, va_K.moved hW.alike hK, hNw.moved hW, hD.weaken (fun _ _ _ _ => trivial), by rw [hU]; exact xSt.moved hW.alike ((hSt.kept hS.2.1).narrow hA1)⟩⟩
end
def jCx (p : Program) (s : State) (m : MethodId) (args : Array Value) (c : Code) (cc : ByteArray) (nL : Nat) (own : String) (r : Nat → Value) (D : va_G) (dA : Nat → ClassId) (A : Nat → Prop) : Prop := p.tables.exec = Jvm.exec ∧ c.code = cc ∧ c.maxLocals = nL ∧ s.vm.findClass own = some m.cls ∧ (∀ w ∈ xU, w.before args s = true) ∧ va_K D vwCl (xtys dA) s ∧ xNw r s ∧ xSt r A s s.heap ∧ (∀ q, s.heap.size ≤ q → A q)
/-- a method of the JDK's that leaves the world as it is and answers so -/
def jM (l : Launch) (r : Nat → Value) (D : va_G) (dA : Nat → ClassId) (h : xH) (d : Nat) (y : MethodName) (cc : ByteArray) (n : Nat) (ret : Option FieldType) (av : List Value) (v : Int32) : Prop := ∀ (ad : Nat → Nat) (sz : Nat), Met l y (.code y cc n ret :: xU) (xroom d 0 0) (va_Pc av (xB0 r D dA h ad sz)) (xQ r D dA (some (.int v)) h h ad sz) 0 0 (va_A (xwv r ad dA h) sz)
section
variable {l : Launch} {r : Nat → Value} {D : va_G} {dA : Nat → ClassId} {h : xH} {d d' : Nat} {y : MethodName} {cc bytes : ByteArray} {n nL maxL : Nat} {ret : Option FieldType} {av : List Value} {v : Int32}
theorem jmet {ty : FieldType} (hpl : plainName y.cls = true) (hret : ret = some ty) (hn : narrow ty (.int v) = .int v) (hsz : (lg_sl av).length ≤ n)
    (walk : ∀ (p : Program) (e : Env) (s : State) (m : MethodId) (below : List Frame) (meth : Method) (c : Code) (Q : State → Prop) (A : Nat → Prop) (ad : Nat → Nat), jCx p s m av.toArray c cc n y.cls r D dA A →
      (∀ (ad1 : Nat → Nat) (H : Heap) (locs : List Loc) (ls : Array Slot) (pcR : Nat), (∀ i, i < h.length → ad1 i = ad i) → va_P D vwCl (xwv r ad1 dA h) H → va_D A (xwv r ad1 dA h) → va_S A s.heap H locs → decode cc pcR = .ok (.ireturn, 1) → W p l e (xroom d 0 0) s m av.toArray below meth c H locs 0 0 Q (F0 m pcR ls [.int v])) →
      ∀ ls : Array Slot, lv_has ls n (lv_args 0 av) → va_P D vwCl (xwv r ad dA h) s.heap → va_D A (xwv r ad dA h) → va_S A s.heap s.heap [] → W p l e (xroom d 0 0) s m av.toArray below meth c s.heap [] 0 0 Q (F0 m 0 ls [])) : jM l r D dA h d y cc n ret av v := by
  intro ad sz
  refine Met.ofW (cc := cc) (maxL := n) (ret := ret) hpl rfl ?_
  intro p e s m args below meth c s₁ B hml hv
  obtain ⟨rfl, hsz', hP, hK, hNw, hD0, hSt⟩ := hv
  have hts := atoms_spec (ws := .code y cc n ret :: xU) B.pre
  have hown : s.vm.findClass y.cls = some m.cls := findClass_of_methodNamed B.named
  have hlk := B.notSynchronized
  have hr1 := B.returns
  subst hsz'
  have hl := lv_entry av (n := n) hsz
  rw [lg_entry_eq]
  exact walk p e s m below meth c _ (va_A (xwv r ad dA h) s.heap.size) ad ⟨B.exec, B.bytes, hml, hown, fun w hw => hts w (List.mem_cons_of_mem _ hw), hK, hNw, hSt, fun q hq => Or.inr hq⟩
    (fun ad1 H locs ls pcR hag hP hD hS hd => W.zret B.exec B.bytes (by rw [hr1, hret]) hn (fun t ht hW => ⟨⟨ad1, rfl, hag, by rw [ht]; exact hP, hD⟩, hS.F ht⟩) hS.2.2 hd hlk) _ hl hP hD0.self va_S.rf
end
section
variable {p : Program} {l : Launch} {e : Env} {s : State} {m : MethodId} {args : Array Value} {below : List Frame} {meth : Method} {c : Code} {Q : State → Prop} {r : Nat → Value} {D : va_G} {dA : Nat → ClassId} {A : Nat → Prop} {h : xH} {cc bytes : ByteArray} {nL maxL n idx pc pl d d' : Nat} {own : String} {y : MethodName} {ret : Option FieldType} {As rest : List Value} {v : Int32} {ad : Nat → Nat} {H : Heap} {locs : List Loc} {ls : Array Slot} {R : Room}
theorem jfree (hD : va_D A (xwv r ad dA h)) (hS : va_S A s.heap H locs) (hA : ∀ q, s.heap.size ≤ q → A q) : ∀ q, va_A (xwv r ad dA h) H.size q → A q := by
  intro q hq
  rcases hq with ⟨k, e, hk⟩ | hq
  · exact hD.2 k (q, e) hk
  · exact hA q (Nat.le_trans hS.1 hq)
theorem jcallS (C : jCx p s m args c cc nL own r D dA A) (hP : va_P D vwCl (xwv r ad dA h) H) (hD : va_D A (xwv r ad dA h)) (hS : va_S A s.heap H locs) (hR : d' + 2 ≤ R.frames ∧ 64 * (d' + 2) ≤ R.locals) (hM : jM l r D dA h d' y bytes maxL ret As v) (hcw : lw_tbl[pl]? = some (.code y bytes maxL ret)) (hlink : (Cond.methodLink own idx y).before args s = true) (hstat : (Cond.static y).before args s = true) (hini : (Cond.initialized y.cls).before args s = true) (hn : y.cls ≠ "java/lang/invoke/MethodHandle" ∧ y.cls ≠ "java/lang/invoke/VarHandle" ∧ (parseMethodDescriptor y.desc).map (fun d => d.parameters.length) = some n) (hlen : As.length = n) (hm20 : maxL ≤ 20) (hls : ls.size = nL) (hW : (rest.map fun v => v.category).sum ≤ 8) (hdg : decode cc pc = .ok (.invokestatic idx, 3)) {cells slots : Nat} (hcs : cells ≤ R.cells ∧ slots ≤ R.slots)
    (kk : ∀ (ad1 : Nat → Nat) (H1 : Heap) (locs1 : List Loc), (∀ i, i < h.length → ad1 i = ad i) → va_P D vwCl (xwv r ad1 dA h) H1 → va_D A (xwv r ad1 dA h) → va_S A s.heap H1 locs1 → W p l e R s m args below meth c H1 locs1 cells slots Q (F0 m (pc + 3) ls (.int v :: rest))) : W p l e R s m args below meth c H locs cells slots Q (F0 m pc ls (As.reverse ++ rest)) := by
  obtain ⟨hx, hb, hml, hown, hts, hK, hNw, hSt, hA⟩ := C
  have hA1 := jfree hD hS hA
  have hpS := xpreS (av := As) (r := r) hK hNw hP hD hSt hS hA1
  have hcb := callB_of (mc := 0) (ms := 0) n hts (jgood hcw) rfl rfl rfl hini hlink ⟨hn.1, hn.2.1, hn.2.2⟩ (show (xroom d' 0 0).frames + 1 ≤ R.frames ∧ 8 + (maxL + 11) + (xroom d' 0 0).locals ≤ R.locals from ⟨hR.1, by show 8 + (maxL + 11) + 64 * (d' + 1) ≤ R.locals; omega⟩)
  exact xcont (v := some (.int v)) (va_runS (As := As) ⟨hx, hb, hml, hown, hts⟩ (hM ad H.size) ⟨hcb, hstat⟩ hpS rfl hlen hls rfl (lv_room hW) hdg hcs) hS hA1 hA1 kk
theorem jcallV (C : jCx p s m args c cc nL own r D dA A) (hP : va_P D vwCl (xwv r ad dA h) H) (hD : va_D A (xwv r ad dA h)) (hS : va_S A s.heap H locs) (hR : d' + 2 ≤ R.frames ∧ 64 * (d' + 2) ≤ R.locals) {b : Nat} (hM : jM l r D dA h d' y bytes maxL ret (.ref b :: As) v) (hcw : lw_tbl[pl]? = some (.code y bytes maxL ret)) (hlink : (Cond.methodLink own idx y).before args s = true) (hinst : (Cond.instanceMethod y).before args s = true) (hini : (Cond.initialized y.cls).before args s = true) (hsel : (Cond.selects y.cls y y).before args s = true) (hO : va_O y.cls b A s s.heap) (hn : y.cls ≠ "java/lang/invoke/MethodHandle" ∧ y.cls ≠ "java/lang/invoke/VarHandle" ∧ (parseMethodDescriptor y.desc).map (fun d => d.parameters.length) = some n) (hlen : As.length = n) (hm20 : maxL ≤ 20) (hls : ls.size = nL) (hW : (rest.map fun v => v.category).sum ≤ 8) (hdg : decode cc pc = .ok (.invokevirtual idx, 3)) {cells slots : Nat} (hcs : cells ≤ R.cells ∧ slots ≤ R.slots)
    (kk : ∀ (ad1 : Nat → Nat) (H1 : Heap) (locs1 : List Loc), (∀ i, i < h.length → ad1 i = ad i) → va_P D vwCl (xwv r ad1 dA h) H1 → va_D A (xwv r ad1 dA h) → va_S A s.heap H1 locs1 → W p l e R s m args below meth c H1 locs1 cells slots Q (F0 m (pc + 3) ls (.int v :: rest))) : W p l e R s m args below meth c H locs cells slots Q (F0 m pc ls (As.reverse ++ .ref b :: rest)) := by
  obtain ⟨hx, hb, hml, hown, hts, hK, hNw, hSt, hA⟩ := C
  have hA1 := jfree hD hS hA
  have hpS := xpreS (av := .ref b :: As) (r := r) hK hNw hP hD hSt hS hA1
  have hrc : ∃ cell : Cell, H[b]? = some cell ∧ cell.vm.isStatics = false ∧ s.vm.findClass y.cls = some cell.cls := by
    obtain ⟨cell, h1, h2, h3, -⟩ := hO.kept hS.2.1
    exact ⟨cell, h1, h2, h3⟩
  have hcb := callB_of (mc := 0) (ms := 0) n hts (jgood hcw) rfl rfl rfl hini hlink ⟨hn.1, hn.2.1, hn.2.2⟩ (show (xroom d' 0 0).frames + 1 ≤ R.frames ∧ 8 + (maxL + 11) + (xroom d' 0 0).locals ≤ R.locals from ⟨hR.1, by show 8 + (maxL + 11) + 64 * (d' + 1) ≤ R.locals; omega⟩)
  exact xcont (v := some (.int v)) (va_runV (As := As) ⟨hx, hb, hml, hown, hts⟩ (hM ad H.size) ⟨hcb, hinst, hsel⟩ ⟨hpS.1, hrc, hpS.2⟩ rfl hlen hls rfl (lv_room hW) hdg hcs) hS hA1 hA1 kk
theorem jstr {A : Nat → Prop} {H : Heap} {j a vb : Nat} {q : Nat × Nat × String} (hSt : xSt r A s H) (hq : xstr[j]? = some q) (ha : r (101 + j) = .ref a) (hv : r (120 + j) = .ref vb) : va_O "java/lang/String" a A s H ∧ va_OF "java/lang/String" "coder" "B" (.int 0) a A s H ∧ va_OF "java/lang/String" "value" "[B" (.ref vb) a A s H ∧ va_T .byte vb q.2.2.toList.length (fun k => .int (xchr q.2.2 k)) A s H := by
  obtain ⟨a', v', h1, h2, h3⟩ := hSt.2.1 j q hq
  rw [ha] at h1
  rw [hv] at h2
  cases h1
  cases h2
  exact h3
end
section
variable {l : Launch} {r : Nat → Value} {D : va_G} {dA : Nat → ClassId} {h : xH} {d j a vb : Nat} {q : Nat × Nat × String}
theorem j_coder (hq : xstr[j]? = some q) (ha : r (101 + j) = .ref a) (hv : r (120 + j) = .ref vb) : jM l r D dA h d yJ0_coder_7d493 cJ0_coder_7d493 1 (some .byte) [.ref a] 0 := by
  refine jmet (ty := .byte) (by decide) rfl rfl (Nat.le_of_ble_eq_true rfl) ?_
  intro p e s m below meth c Q A ad C K ls hl hP hD hS
  have hx := C.1
  have hb := C.2.1
  obtain ⟨hO, hco, hva, hT⟩ := jstr C.2.2.2.2.2.2.2.1 hq ha hv
  refine va_gets hx hb C.2.2.2.2.2.2.2.1.2.2 hS C.2.2.2.1 (C.2.2.2.2.1 _ (xw (p := 605) (by decide +kernel) rfl)) (fun x hx => hx) (show decode cJ0_coder_7d493 0 = .ok (.getstatic 38, 3) by decide +kernel) ?_
  refine lv_if_eq hx hb (show decode cJ0_coder_7d493 3 = .ok (.ifCond .eq 10, 3) by decide +kernel) (tgt := 13) rfl (fun q => absurd q (by decide)) (fun _ => ?_)
  refine lv_aload_n hx hb (show decode cJ0_coder_7d493 6 = .ok (.aload_n 0, 1) by decide +kernel) rfl (lv_at hl 0 rfl) ?_
  refine vk_getf hx hb hco hS C.2.2.2.1 (C.2.2.2.2.1 _ (xw (p := 1546) (by decide +kernel) rfl)) (fun x hx => hx) (show decode cJ0_coder_7d493 7 = .ok (.getfield 15, 3) by decide +kernel) ?_
  refine lv_goto hx hb (show decode cJ0_coder_7d493 10 = .ok (.goto 4, 3) by decide +kernel) (tgt := 14) rfl ?_
  exact K ad _ _ _ 14 (fun _ _ => rfl) hP hD hS (by decide +kernel)
theorem j_latin (hq : xstr[j]? = some q) (ha : r (101 + j) = .ref a) (hv : r (120 + j) = .ref vb) : jM l r D dA h d yJ0_isLatin1_aae02 cJ0_isLatin1_aae02 1 (some .boolean) [.ref a] 1 := by
  refine jmet (ty := .boolean) (by decide) rfl rfl (Nat.le_of_ble_eq_true rfl) ?_
  intro p e s m below meth c Q A ad C K ls hl hP hD hS
  have hx := C.1
  have hb := C.2.1
  obtain ⟨hO, hco, hva, hT⟩ := jstr C.2.2.2.2.2.2.2.1 hq ha hv
  refine va_gets hx hb C.2.2.2.2.2.2.2.1.2.2 hS C.2.2.2.1 (C.2.2.2.2.1 _ (xw (p := 605) (by decide +kernel) rfl)) (fun x hx => hx) (show decode cJ0_isLatin1_aae02 0 = .ok (.getstatic 38, 3) by decide +kernel) ?_
  refine lv_if_eq hx hb (show decode cJ0_isLatin1_aae02 3 = .ok (.ifCond .eq 14, 3) by decide +kernel) (tgt := 17) rfl (fun q => absurd q (by decide)) (fun _ => ?_)
  refine lv_aload_n hx hb (show decode cJ0_isLatin1_aae02 6 = .ok (.aload_n 0, 1) by decide +kernel) rfl (lv_at hl 0 rfl) ?_
  refine vk_getf hx hb hco hS C.2.2.2.1 (C.2.2.2.2.1 _ (xw (p := 1546) (by decide +kernel) rfl)) (fun x hx => hx) (show decode cJ0_isLatin1_aae02 7 = .ok (.getfield 15, 3) by decide +kernel) ?_
  refine lv_if_ne hx hb (show decode cJ0_isLatin1_aae02 10 = .ok (.ifCond .ne 7, 3) by decide +kernel) (tgt := 17) rfl (fun q => absurd rfl q) (fun _ => ?_)
  refine lv_iconst hx hb (show decode cJ0_isLatin1_aae02 13 = .ok (.iconst 1, 1) by decide +kernel) rfl ?_
  refine lv_goto hx hb (show decode cJ0_isLatin1_aae02 14 = .ok (.goto 4, 3) by decide +kernel) (tgt := 18) rfl ?_
  exact K ad _ _ _ 18 (fun _ _ => rfl) hP hD hS (by decide +kernel)
theorem j_len (hq : xstr[j]? = some q) (h4 : q.2.2.toList.length = 4) (ha : r (101 + j) = .ref a) (hv : r (120 + j) = .ref vb) : jM l r D dA h (d + 1) yJ0_length_8abf5 cJ0_length_8abf5 1 (some .int) [.ref a] 4 := by
  refine jmet (ty := .int) (by decide) rfl rfl (Nat.le_of_ble_eq_true rfl) ?_
  intro p e s m below meth c Q A ad C K ls hl hP hD hS
  have hx := C.1
  have hb := C.2.1
  obtain ⟨hO, hco, hva, hT⟩ := jstr C.2.2.2.2.2.2.2.1 hq ha hv
  rw [h4] at hT
  refine lv_aload_n hx hb (show decode cJ0_length_8abf5 0 = .ok (.aload_n 0, 1) by decide +kernel) rfl (lv_at hl 0 rfl) ?_
  refine vk_getf hx hb hva hS C.2.2.2.1 (C.2.2.2.2.1 _ (xw (p := 1547) (by decide +kernel) rfl)) (fun x hx => hx) (show decode cJ0_length_8abf5 1 = .ok (.getfield 9, 3) by decide +kernel) ?_
  refine va_tlen hx hb hT hS (v := 4) (by decide) (show decode cJ0_length_8abf5 4 = .ok (.arraylength, 1) by decide +kernel) ?_
  refine lv_aload_n hx hb (show decode cJ0_length_8abf5 5 = .ok (.aload_n 0, 1) by decide +kernel) rfl (lv_at hl 0 rfl) ?_
  refine jcallV (n := 0) (As := []) (rest := [.int 4]) (d' := d) C hP hD hS ⟨Nat.le_refl _, Nat.le_refl _⟩ (j_coder hq ha hv) (pl := 614) (by decide +kernel) (C.2.2.2.2.1 _ (xw (p := 611) (by decide +kernel) rfl)) (C.2.2.2.2.1 _ (xw (p := 612) (by decide +kernel) rfl)) (C.2.2.2.2.1 _ (xw (p := 83) (by decide +kernel) rfl)) (C.2.2.2.2.1 _ (xw (p := 613) (by decide +kernel) rfl)) hO ⟨by decide, by decide, by decide +kernel⟩ rfl (by decide) hl.1 (Nat.le_of_ble_eq_true rfl) (show decode cJ0_length_8abf5 6 = .ok (.invokevirtual 335, 3) by decide +kernel) ⟨Nat.le_refl _, Nat.le_refl _⟩ ?_
  intro ad1 H1 locs1 hag hP1 hD1 hS1
  refine lv_ishr hx hb (show decode cJ0_length_8abf5 9 = .ok (.ishr, 1) by decide +kernel) ?_
  exact K ad1 _ _ _ 10 hag hP1 hD1 hS1 (by decide +kernel)
theorem jce_b {c : Int32} : narrow .boolean (.int (jce c)) = .int (jce c) := by
  unfold jce
  split
  · rfl
  · split <;> rfl
theorem j_can {x : Int32} : jM l r D dA h d yJ1_canEncode_9a6ad cJ1_canEncode_9a6ad 1 (some .boolean) [.int x] (jce x) := by
  refine jmet (ty := .boolean) (by decide) rfl jce_b (Nat.le_of_ble_eq_true rfl) ?_
  intro p e s m below meth c Q A ad C K ls hl hP hD hS
  have hx := C.1
  have hb := C.2.1
  refine lv_iload_n hx hb (show decode cJ1_canEncode_9a6ad 0 = .ok (.iload_n 0, 1) by decide +kernel) rfl (lv_at hl 0 rfl) ?_
  have out : ∀ ls, jce x = 0 → W p l e (xroom d 0 0) s m [Value.int x].toArray below meth c s.heap [] 0 0 Q (F0 m 15 ls []) := by
    intro ls e0
    refine lv_iconst hx hb (show decode cJ1_canEncode_9a6ad 15 = .ok (.iconst 0, 1) by decide +kernel) (v := 0) rfl ?_
    have K1 := K ad s.heap [] ls 16 (fun _ _ => rfl) hP hD hS (by decide +kernel)
    rw [e0] at K1
    exact K1
  refine lv_if_lt hx hb (show decode cJ1_canEncode_9a6ad 1 = .ok (.ifCond .lt 14, 3) by decide +kernel) (tgt := 15) rfl (fun q => out ls (by unfold jce; rw [if_pos q])) (fun q0 => ?_)
  refine lv_iload_n hx hb (show decode cJ1_canEncode_9a6ad 4 = .ok (.iload_n 0, 1) by decide +kernel) rfl (lv_at hl 0 rfl) ?_
  refine lv_sipush hx hb (show decode cJ1_canEncode_9a6ad 5 = .ok (.sipush 255, 3) by decide +kernel) (v := 255) rfl ?_
  refine lv_icmp_gt hx hb (show decode cJ1_canEncode_9a6ad 8 = .ok (.if_icmp .gt 7, 3) by decide +kernel) (tgt := 15) rfl (fun q => out ls (by unfold jce; rw [if_neg q0, if_pos q])) (fun q1 => ?_)
  refine lv_iconst hx hb (show decode cJ1_canEncode_9a6ad 11 = .ok (.iconst 1, 1) by decide +kernel) (v := 1) rfl ?_
  refine lv_goto hx hb (show decode cJ1_canEncode_9a6ad 12 = .ok (.goto 4, 3) by decide +kernel) (tgt := 16) rfl ?_
  have K1 := K ad s.heap [] ls 16 (fun _ _ => rfl) hP hD hS (by decide +kernel)
  have e1 : jce x = 1 := by unfold jce; rw [if_neg q0, if_neg q1]
  rw [e1] at K1
  exact K1
theorem j_ixc {x : Int32} (hq : xstr[j]? = some q) (h4 : q.2.2.toList.length = 4) (ha : r (101 + j) = .ref a) (hv : r (120 + j) = .ref vb) : jM l r D dA h d yJ1_indexOfChar_4cfef cJ1_indexOfChar_4cfef 6 (some .int) [.ref vb, .int x, .int 0, .int 4] (jlp q.2.2 x.toInt8.toInt32 4 0) := by
  refine jmet (ty := .int) (by decide) rfl rfl (Nat.le_of_ble_eq_true rfl) ?_
  intro p e s m below meth c Q A ad C K ls hl hP hD hS
  have hx := C.1
  have hb := C.2.1
  obtain ⟨hO, hco, hva, hT⟩ := jstr C.2.2.2.2.2.2.2.1 hq ha hv
  rw [h4] at hT
  have loop : ∀ (n k : Nat), n + k = 4 → jlp q.2.2 x.toInt8.toInt32 n k = jlp q.2.2 x.toInt8.toInt32 4 0 → ∀ ls : Array Slot, lv_has ls 6 [(5, Value.int (Int32.ofNat k)), (4, .int x.toInt8.toInt32), (0, .ref vb), (1, .int x), (2, .int 0), (3, .int 4)] → W p l e (xroom d 0 0) s m [Value.ref vb, .int x, .int 0, .int 4].toArray below meth c s.heap [] 0 0 Q (F0 m 7 ls []) := by
    intro n
    induction n with
    | zero =>
      intro k hk he ls hl
      have e4 : k = 4 := by omega
      subst e4
      refine lv_iload hx hb (show decode cJ1_indexOfChar_4cfef 7 = .ok (.iload 5, 2) by decide +kernel) (lv_at hl 0 rfl) ?_
      refine lv_iload_n hx hb (show decode cJ1_indexOfChar_4cfef 9 = .ok (.iload_n 3, 1) by decide +kernel) rfl (lv_at hl 5 rfl) ?_
      refine lv_icmp_ge hx hb (show decode cJ1_indexOfChar_4cfef 10 = .ok (.if_icmp .ge 21, 3) by decide +kernel) (tgt := 31) rfl (fun _ => ?_) (fun q => absurd (by decide) q)
      refine lv_iconst hx hb (show decode cJ1_indexOfChar_4cfef 31 = .ok (.iconst (-1), 1) by decide +kernel) (v := -1) rfl ?_
      have K1 := K ad s.heap [] ls 32 (fun _ _ => rfl) hP hD hS (by decide +kernel)
      rw [← he] at K1
      exact K1
    | succ n ih =>
      intro k hk he ls hl
      have hk4 : k < 4 := by omega
      refine lv_iload hx hb (show decode cJ1_indexOfChar_4cfef 7 = .ok (.iload 5, 2) by decide +kernel) (lv_at hl 0 rfl) ?_
      refine lv_iload_n hx hb (show decode cJ1_indexOfChar_4cfef 9 = .ok (.iload_n 3, 1) by decide +kernel) rfl (lv_at hl 5 rfl) ?_
      refine lv_icmp_ge hx hb (show decode cJ1_indexOfChar_4cfef 10 = .ok (.if_icmp .ge 21, 3) by decide +kernel) (tgt := 31) rfl (fun q => absurd q (by
        have : ∀ k, k < 4 → ¬ (4 : Int32) ≤ Int32.ofNat k := by decide
        exact this k hk4)) (fun _ => ?_)
      refine lv_aload_n hx hb (show decode cJ1_indexOfChar_4cfef 13 = .ok (.aload_n 0, 1) by decide +kernel) rfl (lv_at hl 2 rfl) ?_
      refine lv_iload hx hb (show decode cJ1_indexOfChar_4cfef 14 = .ok (.iload 5, 2) by decide +kernel) (lv_at hl 0 rfl) ?_
      have hcl : (Int32.ofNat k).toNatClampNeg = k := by
        have : ∀ k, k < 4 → (Int32.ofNat k).toNatClampNeg = k := by decide
        exact this k hk4
      refine va_tb hx hb hT hS (vp_in_iff.mpr ⟨by
        have : ∀ k, k < 4 → 0 ≤ (Int32.ofNat k).toInt := by decide
        exact this k hk4, by
        have : ∀ k, k < 4 → (Int32.ofNat k).toInt < ((4 : Nat) : Int) := by decide
        exact this k hk4⟩) (v := .int (xchr q.2.2 k)) (by show Value.int _ = _; rw [hcl]) (show decode cJ1_indexOfChar_4cfef 16 = .ok (.baload, 1) by decide +kernel) ?_
      refine lv_iload hx hb (show decode cJ1_indexOfChar_4cfef 17 = .ok (.iload 4, 2) by decide +kernel) (lv_at hl 1 rfl) ?_
      have e5 : jlp q.2.2 x.toInt8.toInt32 (n + 1) k = if xchr q.2.2 k = x.toInt8.toInt32 then Int32.ofNat k else jlp q.2.2 x.toInt8.toInt32 n (k + 1) := rfl
      rw [e5] at he
      refine lv_icmp_ne hx hb (show decode cJ1_indexOfChar_4cfef 19 = .ok (.if_icmp .ne 6, 3) by decide +kernel) (tgt := 25) rfl (fun hne => ?_) (fun heq => ?_)
      · rw [if_neg hne] at he
        refine lv_iinc hx hb (show decode cJ1_indexOfChar_4cfef 25 = .ok (.iinc 5 1, 3) by decide +kernel) hl (k := 0) rfl (v := Int32.ofNat (k + 1)) (by
          have : ∀ k, k < 4 → Int32.ofNat k + Int32.ofInt 1 = Int32.ofNat (k + 1) := by decide
          exact this k hk4) (by decide) rfl (fun ls' hl' => ?_)
        refine lv_goto hx hb (show decode cJ1_indexOfChar_4cfef 28 = .ok (.goto (-21), 3) by decide +kernel) (tgt := 7) rfl ?_
        exact ih (k + 1) (by omega) he ls' hl'
      · rw [if_pos heq] at he
        refine lv_iload hx hb (show decode cJ1_indexOfChar_4cfef 22 = .ok (.iload 5, 2) by decide +kernel) (lv_at hl 0 rfl) ?_
        have K1 := K ad s.heap [] ls 24 (fun _ _ => rfl) hP hD hS (by decide +kernel)
        rw [← he] at K1
        exact K1
  refine lv_iload_n hx hb (show decode cJ1_indexOfChar_4cfef 0 = .ok (.iload_n 1, 1) by decide +kernel) rfl (lv_at hl 1 rfl) ?_
  refine lv_i2b hx hb (show decode cJ1_indexOfChar_4cfef 1 = .ok (.i2b, 1) by decide +kernel) rfl ?_
  refine lv_istore hx hb (show decode cJ1_indexOfChar_4cfef 2 = .ok (.istore 4, 2) by decide +kernel) hl (by decide) rfl (fun ls1 hl1 => ?_)
  refine lv_iload_n hx hb (show decode cJ1_indexOfChar_4cfef 4 = .ok (.iload_n 2, 1) by decide +kernel) rfl (lv_at hl1 3 rfl) ?_
  refine lv_istore hx hb (show decode cJ1_indexOfChar_4cfef 5 = .ok (.istore 5, 2) by decide +kernel) hl1 (by decide) rfl (fun ls2 hl2 => ?_)
  exact loop 4 0 rfl rfl ls2 hl2
theorem j_ix4 {x : Int32} (hq : xstr[j]? = some q) (h4 : q.2.2.toList.length = 4) (ha : r (101 + j) = .ref a) (hv : r (120 + j) = .ref vb) : jM l r D dA h (d + 1) yJ1_indexOf_4cfef cJ1_indexOf_4cfef 4 (some .int) [.ref vb, .int x, .int 0, .int 4] (jix q.2.2 x) := by
  refine jmet (ty := .int) (by decide) rfl rfl (Nat.le_of_ble_eq_true rfl) ?_
  intro p e s m below meth c Q A ad C K ls hl hP hD hS
  have hx := C.1
  have hb := C.2.1
  obtain ⟨hO, hco, hva, hT⟩ := jstr C.2.2.2.2.2.2.2.1 hq ha hv
  rw [h4] at hT
  refine lv_iload_n hx hb (show decode cJ1_indexOf_4cfef 0 = .ok (.iload_n 1, 1) by decide +kernel) rfl (lv_at hl 1 rfl) ?_
  refine jcallS (n := 1) (As := [.int x]) (rest := []) (d' := d) C hP hD hS ⟨Nat.le_refl _, Nat.le_refl _⟩ j_can (pl := 620) (by decide +kernel) (C.2.2.2.2.1 _ (xw (p := 618) (by decide +kernel) rfl)) (C.2.2.2.2.1 _ (xw (p := 619) (by decide +kernel) rfl)) (C.2.2.2.2.1 _ (xw (p := 84) (by decide +kernel) rfl)) ⟨by decide, by decide, by decide +kernel⟩ rfl (by decide) hl.1 (Nat.le_of_ble_eq_true rfl) (show decode cJ1_indexOf_4cfef 1 = .ok (.invokestatic 88, 3) by decide +kernel) ⟨Nat.le_refl _, Nat.le_refl _⟩ ?_
  intro ad1 H1 locs1 hag hP1 hD1 hS1
  refine lv_if_ne hx hb (show decode cJ1_indexOf_4cfef 4 = .ok (.ifCond .ne 5, 3) by decide +kernel) (tgt := 9) rfl (fun hne => ?_) (fun heq => ?_)
  · refine lv_iload_n hx hb (show decode cJ1_indexOf_4cfef 9 = .ok (.iload_n 2, 1) by decide +kernel) rfl (lv_at hl 2 rfl) ?_
    refine lv_iconst hx hb (show decode cJ1_indexOf_4cfef 10 = .ok (.iconst 0, 1) by decide +kernel) (v := 0) rfl ?_
    refine va_mmax hx hb (C.2.2.1.trans hl.1.symm) C.2.2.2.1 (C.2.2.2.2.1 _ (xw (p := 621) (by decide +kernel) rfl)) (C.2.2.2.2.1 _ (xw (p := 116) (by decide +kernel) rfl)) (C.2.2.2.2.1 _ (xw (p := 72) (by decide +kernel) rfl)) (C.2.2.2.2.1 _ (xw (p := 117) (by decide +kernel) rfl)) (by show 1 ≤ d + 1 + 1; omega) (by show _ + 13 ≤ 64 * (d + 1 + 1); simp; omega) (Nat.le_refl _) (Nat.le_refl _) (show decode cJ1_indexOf_4cfef 11 = .ok (.invokestatic 92, 3) by decide +kernel) ?_
    refine lv_istore_n hx hb (show decode cJ1_indexOf_4cfef 14 = .ok (.istore_n 2, 1) by decide +kernel) rfl hl (by decide) rfl (fun ls1 hl1 => ?_)
    refine lv_iload_n hx hb (show decode cJ1_indexOf_4cfef 15 = .ok (.iload_n 3, 1) by decide +kernel) rfl (lv_at hl1 3 rfl) ?_
    refine lv_aload_n hx hb (show decode cJ1_indexOf_4cfef 16 = .ok (.aload_n 0, 1) by decide +kernel) rfl (lv_at hl1 1 rfl) ?_
    refine va_tlen hx hb hT hS1 (v := 4) (by decide) (show decode cJ1_indexOf_4cfef 17 = .ok (.arraylength, 1) by decide +kernel) ?_
    refine va_mmin hx hb (C.2.2.1.trans hl1.1.symm) C.2.2.2.1 (C.2.2.2.2.1 _ (xw (p := 622) (by decide +kernel) rfl)) (C.2.2.2.2.1 _ (xw (p := 623) (by decide +kernel) rfl)) (C.2.2.2.2.1 _ (xw (p := 72) (by decide +kernel) rfl)) (C.2.2.2.2.1 _ (xw (p := 624) (by decide +kernel) rfl)) (by show 1 ≤ d + 1 + 1; omega) (by show _ + 13 ≤ 64 * (d + 1 + 1); simp; omega) (Nat.le_refl _) (Nat.le_refl _) (show decode cJ1_indexOf_4cfef 18 = .ok (.invokestatic 38, 3) by decide +kernel) ?_
    refine lv_istore_n hx hb (show decode cJ1_indexOf_4cfef 21 = .ok (.istore_n 3, 1) by decide +kernel) rfl hl1 (by decide) rfl (fun ls2 hl2 => ?_)
    refine lv_iload_n hx hb (show decode cJ1_indexOf_4cfef 22 = .ok (.iload_n 2, 1) by decide +kernel) rfl (lv_at hl2 1 rfl) ?_
    refine lv_iload_n hx hb (show decode cJ1_indexOf_4cfef 23 = .ok (.iload_n 3, 1) by decide +kernel) rfl (lv_at hl2 0 rfl) ?_
    refine lv_icmp_lt hx hb (show decode cJ1_indexOf_4cfef 24 = .ok (.if_icmp .lt 5, 3) by decide +kernel) (tgt := 29) rfl (fun _ => ?_) (fun q => absurd (by decide) q)
    refine lv_aload_n hx hb (show decode cJ1_indexOf_4cfef 29 = .ok (.aload_n 0, 1) by decide +kernel) rfl (lv_at hl2 2 rfl) ?_
    refine lv_iload_n hx hb (show decode cJ1_indexOf_4cfef 30 = .ok (.iload_n 1, 1) by decide +kernel) rfl (lv_at hl2 3 rfl) ?_
    refine lv_iload_n hx hb (show decode cJ1_indexOf_4cfef 31 = .ok (.iload_n 2, 1) by decide +kernel) rfl (lv_at hl2 1 rfl) ?_
    refine lv_iload_n hx hb (show decode cJ1_indexOf_4cfef 32 = .ok (.iload_n 3, 1) by decide +kernel) rfl (lv_at hl2 0 rfl) ?_
    refine jcallS (n := 4) (As := [.ref vb, .int x, .int 0, .int 4]) (rest := []) (d' := d) C hP1 hD1 hS1 ⟨Nat.le_refl _, Nat.le_refl _⟩ (j_ixc hq h4 ha hv) (pl := 627) (by decide +kernel) (C.2.2.2.2.1 _ (xw (p := 625) (by decide +kernel) rfl)) (C.2.2.2.2.1 _ (xw (p := 626) (by decide +kernel) rfl)) (C.2.2.2.2.1 _ (xw (p := 84) (by decide +kernel) rfl)) ⟨by decide, by decide, by decide +kernel⟩ rfl (by decide) hl2.1 (Nat.le_of_ble_eq_true rfl) (show decode cJ1_indexOf_4cfef 33 = .ok (.invokestatic 95, 3) by decide +kernel) ⟨Nat.le_refl _, Nat.le_refl _⟩ ?_
    intro ad2 H2 locs2 hag2 hP2 hD2 hS2
    have K1 := K ad2 H2 locs2 ls2 36 (fun i hi => (hag2 i hi).trans (hag i hi)) hP2 hD2 hS2 (by decide +kernel)
    have e1 : jix q.2.2 x = jlp q.2.2 x.toInt8.toInt32 4 0 := by unfold jix; rw [if_neg hne]
    rw [e1] at K1
    exact K1
  · refine lv_iconst hx hb (show decode cJ1_indexOf_4cfef 7 = .ok (.iconst (-1), 1) by decide +kernel) (v := -1) rfl ?_
    have K1 := K ad1 H1 locs1 ls 8 hag hP1 hD1 hS1 (by decide +kernel)
    have e1 : jix q.2.2 x = -1 := by unfold jix; rw [if_pos heq]
    rw [e1] at K1
    exact K1
theorem j_ix2 {x : Int32} (hq : xstr[j]? = some q) (h4 : q.2.2.toList.length = 4) (ha : r (101 + j) = .ref a) (hv : r (120 + j) = .ref vb) : jM l r D dA h (d + 2) yJ0_indexOf_7cf53 cJ0_indexOf_7cf53 3 (some .int) [.ref a, .int x, .int 0] (jix q.2.2 x) := by
  refine jmet (ty := .int) (by decide) rfl rfl (Nat.le_of_ble_eq_true rfl) ?_
  intro p e s m below meth c Q A ad C K ls hl hP hD hS
  have hx := C.1
  have hb := C.2.1
  obtain ⟨hO, hco, hva, hT⟩ := jstr C.2.2.2.2.2.2.2.1 hq ha hv
  have hR0 : (d + 1) + 2 ≤ (xroom (d + 2) 0 0).frames ∧ 64 * ((d + 1) + 2) ≤ (xroom (d + 2) 0 0).locals := ⟨Nat.le_refl _, Nat.le_refl _⟩
  refine lv_aload_n hx hb (show decode cJ0_indexOf_7cf53 0 = .ok (.aload_n 0, 1) by decide +kernel) rfl (lv_at hl 0 rfl) ?_
  refine jcallV (n := 0) (As := []) (rest := []) (d' := d + 1) C hP hD hS hR0 (j_latin hq ha hv) (pl := 604) (by decide +kernel) (C.2.2.2.2.1 _ (xw (p := 601) (by decide +kernel) rfl)) (C.2.2.2.2.1 _ (xw (p := 602) (by decide +kernel) rfl)) (C.2.2.2.2.1 _ (xw (p := 83) (by decide +kernel) rfl)) (C.2.2.2.2.1 _ (xw (p := 603) (by decide +kernel) rfl)) hO ⟨by decide, by decide, by decide +kernel⟩ rfl (by decide) hl.1 (Nat.le_of_ble_eq_true rfl) (show decode cJ0_indexOf_7cf53 1 = .ok (.invokevirtual 492, 3) by decide +kernel) ⟨Nat.le_refl _, Nat.le_refl _⟩ ?_
  intro ad1 H1 locs1 hag1 hP1 hD1 hS1
  refine lv_if_eq hx hb (show decode cJ0_indexOf_7cf53 4 = .ok (.ifCond .eq 19, 3) by decide +kernel) (tgt := 23) rfl (fun q => absurd q (by decide)) (fun _ => ?_)
  refine lv_aload_n hx hb (show decode cJ0_indexOf_7cf53 7 = .ok (.aload_n 0, 1) by decide +kernel) rfl (lv_at hl 0 rfl) ?_
  refine vk_getf hx hb hva hS1 C.2.2.2.1 (C.2.2.2.2.1 _ (xw (p := 1547) (by decide +kernel) rfl)) (fun x hx => hx) (show decode cJ0_indexOf_7cf53 8 = .ok (.getfield 9, 3) by decide +kernel) ?_
  refine lv_iload_n hx hb (show decode cJ0_indexOf_7cf53 11 = .ok (.iload_n 1, 1) by decide +kernel) rfl (lv_at hl 1 rfl) ?_
  refine lv_iload_n hx hb (show decode cJ0_indexOf_7cf53 12 = .ok (.iload_n 2, 1) by decide +kernel) rfl (lv_at hl 2 rfl) ?_
  refine lv_aload_n hx hb (show decode cJ0_indexOf_7cf53 13 = .ok (.aload_n 0, 1) by decide +kernel) rfl (lv_at hl 0 rfl) ?_
  refine jcallV (n := 0) (As := []) (rest := [.int 0, .int x, .ref vb]) (d' := d + 1) C hP1 hD1 hS1 hR0 (j_len hq h4 ha hv) (pl := 610) (by decide +kernel) (C.2.2.2.2.1 _ (xw (p := 607) (by decide +kernel) rfl)) (C.2.2.2.2.1 _ (xw (p := 608) (by decide +kernel) rfl)) (C.2.2.2.2.1 _ (xw (p := 83) (by decide +kernel) rfl)) (C.2.2.2.2.1 _ (xw (p := 609) (by decide +kernel) rfl)) hO ⟨by decide, by decide, by decide +kernel⟩ rfl (by decide) hl.1 (Nat.le_of_ble_eq_true rfl) (show decode cJ0_indexOf_7cf53 14 = .ok (.invokevirtual 505, 3) by decide +kernel) ⟨Nat.le_refl _, Nat.le_refl _⟩ ?_
  intro ad2 H2 locs2 hag2 hP2 hD2 hS2
  refine jcallS (n := 4) (As := [.ref vb, .int x, .int 0, .int 4]) (rest := []) (d' := d + 1) C hP2 hD2 hS2 hR0 (j_ix4 hq h4 ha hv) (pl := 617) (by decide +kernel) (C.2.2.2.2.1 _ (xw (p := 615) (by decide +kernel) rfl)) (C.2.2.2.2.1 _ (xw (p := 616) (by decide +kernel) rfl)) (C.2.2.2.2.1 _ (xw (p := 84) (by decide +kernel) rfl)) ⟨by decide, by decide, by decide +kernel⟩ rfl (by decide) hl.1 (Nat.le_of_ble_eq_true rfl) (show decode cJ0_indexOf_7cf53 17 = .ok (.invokestatic 637, 3) by decide +kernel) ⟨Nat.le_refl _, Nat.le_refl _⟩ ?_
  intro ad3 H3 locs3 hag3 hP3 hD3 hS3
  refine lv_goto hx hb (show decode cJ0_indexOf_7cf53 20 = .ok (.goto 16, 3) by decide +kernel) (tgt := 36) rfl ?_
  exact K ad3 H3 locs3 ls 36 (fun i hi => (hag3 i hi).trans ((hag2 i hi).trans (hag1 i hi))) hP3 hD3 hS3 (by decide +kernel)
theorem j_ix1 {x : Int32} (hq : xstr[j]? = some q) (h4 : q.2.2.toList.length = 4) (ha : r (101 + j) = .ref a) (hv : r (120 + j) = .ref vb) : jM l r D dA h (d + 3) yJ0_indexOf_0f7a4 cJ0_indexOf_0f7a4 2 (some .int) [.ref a, .int x] (jix q.2.2 x) := by
  refine jmet (ty := .int) (by decide) rfl rfl (Nat.le_of_ble_eq_true rfl) ?_
  intro p e s m below meth c Q A ad C K ls hl hP hD hS
  have hx := C.1
  have hb := C.2.1
  obtain ⟨hO, hco, hva, hT⟩ := jstr C.2.2.2.2.2.2.2.1 hq ha hv
  refine lv_aload_n hx hb (show decode cJ0_indexOf_0f7a4 0 = .ok (.aload_n 0, 1) by decide +kernel) rfl (lv_at hl 0 rfl) ?_
  refine lv_iload_n hx hb (show decode cJ0_indexOf_0f7a4 1 = .ok (.iload_n 1, 1) by decide +kernel) rfl (lv_at hl 1 rfl) ?_
  refine lv_iconst hx hb (show decode cJ0_indexOf_0f7a4 2 = .ok (.iconst 0, 1) by decide +kernel) (v := 0) rfl ?_
  refine jcallV (n := 2) (As := [.int x, .int 0]) (rest := []) (d' := d + 2) C hP hD hS ⟨Nat.le_refl _, Nat.le_refl _⟩ (j_ix2 hq h4 ha hv) (pl := 600) (by decide +kernel) (C.2.2.2.2.1 _ (xw (p := 597) (by decide +kernel) rfl)) (C.2.2.2.2.1 _ (xw (p := 598) (by decide +kernel) rfl)) (C.2.2.2.2.1 _ (xw (p := 83) (by decide +kernel) rfl)) (C.2.2.2.2.1 _ (xw (p := 599) (by decide +kernel) rfl)) hO ⟨by decide, by decide, by decide +kernel⟩ rfl (by decide) hl.1 (Nat.le_of_ble_eq_true rfl) (show decode cJ0_indexOf_0f7a4 3 = .ok (.invokevirtual 633, 3) by decide +kernel) ⟨Nat.le_refl _, Nat.le_refl _⟩ ?_
  intro ad1 H1 locs1 hag1 hP1 hD1 hS1
  exact K ad1 H1 locs1 ls 6 hag1 hP1 hD1 hS1 (by decide +kernel)
end
section
variable {p : Program} {l : Launch} {e : Env} {R : Room} {s : State} {m : MethodId} {args : Array Value} {below : List Frame} {meth : Method} {c : Code} {Q : State → Prop} {r : Nat → Value} {D : va_G} {dA : Nat → ClassId} {A : Nat → Prop} {n0 z0 : Nat} {ad0 : Nat → Nat} {mi pc : Nat} {lo : xL} {h : xH}
theorem xstr4 : ∀ q ∈ xstr, q.2.2.toList.length = 4 := by decide +kernel
theorem xs_indexOf (G : xCx p R s m args meth c r D dA A s.heap mi) {idx ln : Nat} {a0 a1 a2 a3 a4 a5 z : Nat} {x : Int32} {q : Nat × Nat × String} {st : List Jvm.Term} (hd : decode (xb mi) pc = .ok (.invokevirtual idx, 3)) (ha : xau mi (.invokevirtual idx) ln [a0, a1, a2, a3, a4, a5] = true) (hz : Nat.ble 101 z = true) (hq : xstr[z - 101]? = some q) (hcc : xcc h.length lo st = true) (hR : 5 ≤ R.frames ∧ 64 * 5 ≤ R.locals) (hC : h.length - n0 ≤ R.cells) (hSl : xhz h - z0 ≤ R.slots)
    (K : xCf p l e R s m args below meth c Q r D dA A s.heap n0 z0 ad0 (xm mi) (pc + 3) lo (.int (jix q.2.2 x) :: st) h) : xCf p l e R s m args below meth c Q r D dA A s.heap n0 z0 ad0 (xm mi) pc lo (.int x :: .arg z :: st) h := by
  obtain ⟨hx, hb, hml, hts, hK, hNw, hown, hr, hA, hin, hRf, hRl, hSc⟩ := G
  simp only [xau, Bool.and_eq_true, decide_eq_true_eq] at ha
  obtain ⟨-, u1, u2, u3, u4, u5⟩ := ha
  intro hn hz0 hw ad H locs ls hag hP hD hS hl
  simp only [xcc, Bool.and_eq_true] at hcc
  obtain ⟨h6, hst, hc1, hc2⟩ := hcc
  have h6 := Nat.le_of_ble_eq_true h6
  have hz1 := Nat.le_of_ble_eq_true hz
  obtain ⟨a, vb, r1, r2, hO, -⟩ := hSc.2.1.2.1 _ q hq
  have r1' : r z = .ref a := by
    rw [← r1]
    congr 1
    omega
  have hst1 : (Value.int x :: r z :: st.map (xdv r ad)) = [Value.int x].reverse ++ .ref a :: st.map (xdv r ad) := by rw [r1']; rfl
  show W p l e R s m args below meth c H locs (h.length - n0) (xhz h - z0) Q (F0 m pc ls (Value.int x :: r z :: st.map (xdv r ad)))
  rw [hst1]
  refine jcallV (n := 1) (As := [.int x]) (rest := st.map (xdv r ad)) (d' := 3) (ad := ad) (nL := xm mi) (own := xRn (xo mi)) ⟨hx, hb, hml, hown, hts, hK, hNw, hSc.2.1, hA⟩ hP hD hS ⟨hR.1, hR.2⟩ (j_ix1 (d := 0) hq (xstr4 q (List.mem_of_getElem? hq)) r1 r2) u5 (hts _ (xw u1 rfl)) (hts _ (xw u2 rfl)) (hts _ (xw u3 rfl)) (hts _ (xw u4 rfl)) hO ⟨by decide, by decide, by decide +kernel⟩ rfl (by decide) hl.1 (by rw [xsum hr ad hst]; omega) hd ⟨hC, hSl⟩ ?_
  intro ad1 H1 locs1 hag1 hP1 hD1 hS1
  have K1 := K hn hz0 hw ad1 H1 locs1 ls (fun i hi => (hag1 i (Nat.lt_of_lt_of_le hi hn)).trans (hag i hi)) hP1 hD1 hS1 (by rw [xlo_ag hag1 hc1]; exact hl)
  have e1 : (Jvm.Term.int (jix q.2.2 x) :: st).map (xdv r ad1) = .int (jix q.2.2 x) :: st.map (xdv r ad) := by
    rw [List.map_cons, xmap_ag hag1 hc2]
    rfl
  rw [e1] at K1
  exact K1
end
