-- ===== what a step of the evaluator says of the machine
def xtys (dA : Nat → ClassId) : List (ClassId × FieldType) := [(dA 0, .int), (dA 1, .object RX6), (dA 2, .object RX5), (dA 3, .object RX9), (dA 4, .object RX7)]
/-- what the tables say beside xU: nest mates' links, the classes of arrays of ours -/
def xNw (r : Nat → Value) (U : State) : Prop := (∀ q ∈ xnest, va_Nw (.methodLinkNest (xRn q.1) q.2.1 (xy q.2.2) xhost) U) ∧ (∀ kk : Nat, Nat.ble 21 kk = true → Nat.ble kk 24 = true → va_AO (xkc kk) U) ∧ (∀ (j : Nat) (q : Nat × Nat × String), xstr[j]? = some q → ∃ a : Nat, r (101 + j) = .ref a ∧ vk_R (xRn q.1) q.2.1 q.2.2 a U) ∧ ∀ q ∈ xnf, ∀ z : String × String × String × List Int, xstat[q.2.2]? = some z → va_Nw (.fieldLinkNest (xRn q.1) q.2.1 z.1 z.2.1 z.2.2.1 xhost) U
/-- the law's script: the cell r 100, of length r 49, its ints r 0, r 1 .. and r 200, r 201 .. -/
def xSc (r : Nat → Value) (s : State) (A : Nat → Prop) (H0 : Heap) : Prop := ∃ (b L : Nat) (xs : Nat → Int32), r 100 = .ref b ∧ r 49 = .int (Int32.ofNat L) ∧ va_X b L xs s H0 ∧ b < H0.size ∧ ¬ A b ∧ L < 2 ^ 31 ∧ (∀ j : Nat, j < 49 → r j = .int (xs j)) ∧ ∀ j : Nat, j < L → r (200 + j) = .int (xs j)
/-- the char at a place of a text -/
def xchr (tx : String) (k : Nat) : Int32 := Int32.ofNat ((tx.toList.getD k ' ').toNat)
/-- what lies outside the world's cells: static arrays (r 150 ..), String constants (r 101 ..) -/
def xSt (r : Nat → Value) (A : Nat → Prop) (U : State) (H : Heap) : Prop := (∀ (j : Nat) (q : String × String × String × List Int), xstat[j]? = some q → ∃ t : Nat, r (150 + j) = .ref t ∧ va_Z q.1 q.2.1 q.2.2.1 (.ref t) A U H ∧ va_T .int t q.2.2.2.length (fun k => .int (Int32.ofInt (q.2.2.2.getD k 0))) A U H) ∧ (∀ (j : Nat) (q : Nat × Nat × String), xstr[j]? = some q → ∃ a v : Nat, r (101 + j) = .ref a ∧ r (120 + j) = .ref v ∧ va_O "java/lang/String" a A U H ∧ va_OF "java/lang/String" "coder" "B" (.int 0) a A U H ∧ va_OF "java/lang/String" "value" "[B" (.ref v) a A U H ∧ va_T .byte v q.2.2.toList.length (fun k => .int (xchr q.2.2 k)) A U H) ∧ va_Z "java/lang/String" "COMPACT_STRINGS" "Z" (.int 1) A U H
theorem xSt.moved {r : Nat → Value} {A : Nat → Prop} {u U : State} {H : Heap} (hvm : u.vm.Alike U.vm) (h : xSt r A u H) : xSt r A U H :=
  ⟨fun j q hq => by
    obtain ⟨t, h1, h2, h3⟩ := h.1 j q hq
    exact ⟨t, h1, h2.moved hvm, h3.moved hvm⟩, fun j q hq => by
    obtain ⟨a, v, h1, h0, h2, h3, h4, h5⟩ := h.2.1 j q hq
    exact ⟨a, v, h1, h0, va_O.moved hvm h2, va_OF.moved hvm h3, va_OF.moved hvm h4, h5.moved hvm⟩, h.2.2.moved hvm⟩
theorem xSt.kept {r : Nat → Value} {A : Nat → Prop} {U : State} {H H1 : Heap} (h : xSt r A U H) (hq : ∀ a : Nat, a < H.size → ¬ A a → H1[a]? = H[a]?) : xSt r A U H1 :=
  ⟨fun j q hz => by
    obtain ⟨t, h1, h2, h3⟩ := h.1 j q hz
    exact ⟨t, h1, h2.kept hq, h3.kept hq⟩, fun j q hz => by
    obtain ⟨a, v, h1, h0, h2, h3, h4, h5⟩ := h.2.1 j q hz
    exact ⟨a, v, h1, h0, h2.kept hq, h3.kept hq, h4.kept hq, h5.kept hq⟩, h.2.2.kept hq⟩
theorem xSt.narrow {r : Nat → Value} {A B : Nat → Prop} {U : State} {H : Heap} (h : xSt r A U H) (hAB : ∀ q, B q → A q) : xSt r B U H :=
  ⟨fun j q hz => by
    obtain ⟨t, h1, h2, h3⟩ := h.1 j q hz
    exact ⟨t, h1, h2.narrow hAB, h3.narrow hAB⟩, fun j q hz => by
    obtain ⟨a, v, h1, h0, h2, h3, h4, h5⟩ := h.2.1 j q hz
    exact ⟨a, v, h1, h0, h2.narrow hAB, h3.narrow hAB, h4.narrow hAB, h5.narrow hAB⟩, h.2.2.narrow hAB⟩
def xCf (p : Program) (l : Launch) (e : Env) (R : Room) (s : State) (m : MethodId) (args : Array Value) (below : List Frame) (meth : Method) (c : Code) (Q : State → Prop) (r : Nat → Value) (D : va_G) (dA : Nat → ClassId) (A : Nat → Prop) (H0 : Heap) (n0 z0 : Nat) (ad0 : Nat → Nat) (nL : Nat) (pc : Nat) (lo : xL) (st : List Jvm.Term) (h : xH) : Prop :=
  n0 ≤ h.length → z0 ≤ xhz h → xhw h → ∀ (ad : Nat → Nat) (H : Heap) (locs : List Loc) (ls : Array Slot), (∀ i, i < n0 → ad i = ad0 i) → va_P D vwCl (xwv r ad dA h) H → va_D A (xwv r ad dA h) → va_S A H0 H locs → lv_has ls nL (lo.map (fun q => (q.1, xdv r ad q.2))) → W p l e R s m args below meth c H locs (h.length - n0) (xhz h - z0) Q (F0 m pc ls (st.map (xdv r ad)))
def xCx (p : Program) (R : Room) (s : State) (m : MethodId) (args : Array Value) (meth : Method) (c : Code) (r : Nat → Value) (D : va_G) (dA : Nat → ClassId) (A : Nat → Prop) (H0 : Heap) (mi : Nat) : Prop :=
  p.tables.exec = Jvm.exec ∧ c.code = xb mi ∧ c.maxLocals = xm mi ∧ (∀ w ∈ xU, w.before args s = true) ∧ va_K D vwCl (xtys dA) s ∧ xNw r s ∧ s.vm.findClass (xRn (xo mi)) = some m.cls ∧ xRr r ∧ (∀ q, H0.size ≤ q → A q) ∧ (xisInit mi = true → meth.name = "<init>") ∧ 1 ≤ R.frames ∧ 64 ≤ R.locals ∧ ((mi = xlaw → xSc r s A H0) ∧ (xSt r A s H0 ∧ H0 = s.heap))
section
variable {p : Program} {l : Launch} {e : Env} {R : Room} {s : State} {m : MethodId} {args : Array Value} {below : List Frame} {meth : Method} {c : Code} {Q : State → Prop} {r : Nat → Value} {D : va_G} {dA : Nat → ClassId} {A : Nat → Prop} {H0 : Heap} {n0 z0 : Nat} {ad0 : Nat → Nat} {mi pc : Nat} {lo : xL} {st : List Jvm.Term} {h : xH} {E : List xB} {β : Type} {res : β} {k : Nat → xL → List Jvm.Term → xH → List xB → Option β}
def xR1 (p : Program) (l : Launch) (e : Env) (R : Room) (s : State) (m : MethodId) (args : Array Value) (below : List Frame) (meth : Method) (c : Code) (Q : State → Prop) (r : Nat → Value) (D : va_G) (dA : Nat → ClassId) (A : Nat → Prop) (H0 : Heap) (n0 z0 : Nat) (ad0 : Nat → Nat) (nL : Nat) (pc : Nat) (lo : xL) (st : List Jvm.Term) (h : xH) (E : List xB) (β : Type) (k : Nat → xL → List Jvm.Term → xH → List xB → Option β) (res : β) : Prop :=
  ∃ pc' lo' st' h' E', k pc' lo' st' h' E' = some res ∧ ((∀ q ∈ E, xhold r q) → ∀ q ∈ E', xhold r q) ∧ h.length ≤ h'.length ∧ xhz h ≤ xhz h' ∧ (h'.length - n0 ≤ R.cells → xhz h' - z0 ≤ R.slots → (∀ q ∈ E, xhold r q) → xCf p l e R s m args below meth c Q r D dA A H0 n0 z0 ad0 nL pc' lo' st' h' → xCf p l e R s m args below meth c Q r D dA A H0 n0 z0 ad0 nL pc lo st h)
/-- the heap stays: only stack, locals, place -/
theorem xR1_same {pc' : Nat} {lo' : xL} {st' : List Jvm.Term} {E' : List xB} (hk : k pc' lo' st' h E' = some res) (hE : (∀ q ∈ E, xhold r q) → ∀ q ∈ E', xhold r q)
    (hW : (∀ q ∈ E, xhold r q) → ∀ (ad : Nat → Nat) (H : Heap) (locs : List Loc) (ls : Array Slot) (cl sl : Nat), va_P D vwCl (xwv r ad dA h) H → lv_has ls (xm mi) (lo.map (fun q => (q.1, xdv r ad q.2))) → (∀ ls', lv_has ls' (xm mi) (lo'.map (fun q => (q.1, xdv r ad q.2))) → W p l e R s m args below meth c H locs cl sl Q (F0 m pc' ls' (st'.map (xdv r ad)))) → W p l e R s m args below meth c H locs cl sl Q (F0 m pc ls (st.map (xdv r ad)))) :
    xR1 p l e R s m args below meth c Q r D dA A H0 n0 z0 ad0 (xm mi) pc lo st h E β k res :=
  ⟨pc', lo', st', h, E', hk, hE, Nat.le_refl _, Nat.le_refl _, fun _ _ hh C hn hz hw ad H locs ls hag hP hD hS hl => hW hh ad H locs ls _ _ hP hl (fun ls' hl' => C hn hz hw ad H locs ls' hag hP hD hS hl')⟩
theorem xR1_push {n : Nat} {st' : List Jvm.Term} {t : Jvm.Term} (hk : xpu pc n lo st' h E t k = some res)
    (hW : ∀ (ad : Nat → Nat) (H : Heap) (locs : List Loc) (ls : Array Slot) (cl sl : Nat), va_P D vwCl (xwv r ad dA h) H → lv_has ls (xm mi) (lo.map (fun q => (q.1, xdv r ad q.2))) → W p l e R s m args below meth c H locs cl sl Q (F0 m (pc + n) ls (xdv r ad t :: st'.map (xdv r ad))) → W p l e R s m args below meth c H locs cl sl Q (F0 m pc ls (st.map (xdv r ad)))) :
    xR1 p l e R s m args below meth c Q r D dA A H0 n0 z0 ad0 (xm mi) pc lo st h E β k res := by
  simp only [xpu, xfT_eq, xfN_eq] at hk
  exact xR1_same (mi := mi) hk (fun q => q) (fun _ ad H locs ls cl sl hP hl K => hW ad H locs ls cl sl hP hl (K ls hl))

theorem xs_iconst (G : xCx p R s m args meth c r D dA A H0 mi) {n : Int} {ln : Nat} {ax : List Nat} (hd : decode (xb mi) pc = .ok (.iconst n, 1)) (hs : xsp mi pc (.iconst n, ln, ax) lo st h E k = some res) :
    xR1 p l e R s m args below meth c Q r D dA A H0 n0 z0 ad0 (xm mi) pc lo st h E β k res := by
  obtain ⟨hx, hb, hml, hts, hK, hNw, hown, hr, hA, hin, hRf, hRl, hSc⟩ := G
  simp only [xsp, xhg_eq] at hs
  exact xR1_push hs (fun ad H locs ls cl sl hP hl K => lv_iconst hx hb hd rfl K)
theorem xs_bipush (G : xCx p R s m args meth c r D dA A H0 mi) {n : Int} {ln : Nat} {ax : List Nat} (hd : decode (xb mi) pc = .ok (.bipush n, 2)) (hs : xsp mi pc (.bipush n, ln, ax) lo st h E k = some res) :
    xR1 p l e R s m args below meth c Q r D dA A H0 n0 z0 ad0 (xm mi) pc lo st h E β k res := by
  obtain ⟨hx, hb, hml, hts, hK, hNw, hown, hr, hA, hin, hRf, hRl, hSc⟩ := G
  simp only [xsp, xhg_eq] at hs
  exact xR1_push hs (fun ad H locs ls cl sl hP hl K => lv_bipush hx hb hd rfl K)
theorem xs_sipush (G : xCx p R s m args meth c r D dA A H0 mi) {n : Int} {ln : Nat} {ax : List Nat} (hd : decode (xb mi) pc = .ok (.sipush n, 3)) (hs : xsp mi pc (.sipush n, ln, ax) lo st h E k = some res) :
    xR1 p l e R s m args below meth c Q r D dA A H0 n0 z0 ad0 (xm mi) pc lo st h E β k res := by
  obtain ⟨hx, hb, hml, hts, hK, hNw, hown, hr, hA, hin, hRf, hRl, hSc⟩ := G
  simp only [xsp, xhg_eq] at hs
  exact xR1_push hs (fun ad H locs ls cl sl hP hl K => lv_sipush hx hb hd rfl K)
theorem xs_null (G : xCx p R s m args meth c r D dA A H0 mi)  {ln : Nat} {ax : List Nat} (hd : decode (xb mi) pc = .ok (.aconst_null, 1)) (hs : xsp mi pc (.aconst_null, ln, ax) lo st h E k = some res) :
    xR1 p l e R s m args below meth c Q r D dA A H0 n0 z0 ad0 (xm mi) pc lo st h E β k res := by
  obtain ⟨hx, hb, hml, hts, hK, hNw, hown, hr, hA, hin, hRf, hRl, hSc⟩ := G
  simp only [xsp, xhg_eq] at hs
  exact xR1_push hs (fun ad H locs ls cl sl hP hl K => lv_null hx hb hd K)
theorem xs_iload_n (G : xCx p R s m args meth c r D dA A H0 mi) {i : Fin 4} {ln : Nat} {ax : List Nat} (hd : decode (xb mi) pc = .ok (.iload_n i, 1)) (hs : xsp mi pc (.iload_n i, ln, ax) lo st h E k = some res) :
    xR1 p l e R s m args below meth c Q r D dA A H0 n0 z0 ad0 (xm mi) pc lo st h E β k res := by
  obtain ⟨hx, hb, hml, hts, hK, hNw, hown, hr, hA, hin, hRf, hRl, hSc⟩ := G
  simp only [xsp, xhg_eq] at hs
  cases hlk : xlk lo i.val with
  | none => rw [hlk] at hs; cases hs
  | some t =>
    rw [hlk] at hs
    cases ht : xI t with
    | false => simp [ht] at hs
    | true =>
      simp only [ht, cond_true] at hs
      refine xR1_push hs (fun ad H locs ls cl sl hP hl K => ?_)
      have h1 := xlk_has hl hlk
      rw [xI_dv hr ad ht] at h1 K
      exact lv_iload_n hx hb hd rfl h1 K
theorem xs_iload (G : xCx p R s m args meth c r D dA A H0 mi) {i : Nat} {ln : Nat} {ax : List Nat} (hd : decode (xb mi) pc = .ok (.iload i, 2)) (hs : xsp mi pc (.iload i, ln, ax) lo st h E k = some res) :
    xR1 p l e R s m args below meth c Q r D dA A H0 n0 z0 ad0 (xm mi) pc lo st h E β k res := by
  obtain ⟨hx, hb, hml, hts, hK, hNw, hown, hr, hA, hin, hRf, hRl, hSc⟩ := G
  simp only [xsp, xhg_eq] at hs
  cases hlk : xlk lo i with
  | none => rw [hlk] at hs; cases hs
  | some t =>
    rw [hlk] at hs
    cases ht : xI t with
    | false => simp [ht] at hs
    | true =>
      simp only [ht, cond_true] at hs
      refine xR1_push hs (fun ad H locs ls cl sl hP hl K => ?_)
      have h1 := xlk_has hl hlk
      rw [xI_dv hr ad ht] at h1 K
      exact lv_iload hx hb hd h1 K
theorem xs_lload_n (G : xCx p R s m args meth c r D dA A H0 mi) {i : Fin 4} {ln : Nat} {ax : List Nat} (hd : decode (xb mi) pc = .ok (.lload_n i, 1)) (hs : xsp mi pc (.lload_n i, ln, ax) lo st h E k = some res) :
    xR1 p l e R s m args below meth c Q r D dA A H0 n0 z0 ad0 (xm mi) pc lo st h E β k res := by
  obtain ⟨hx, hb, hml, hts, hK, hNw, hown, hr, hA, hin, hRf, hRl, hSc⟩ := G
  simp only [xsp, xhg_eq] at hs
  cases hlk : xlk lo i.val with
  | none => rw [hlk] at hs; cases hs
  | some t =>
    rw [hlk] at hs
    cases ht : xG t with
    | false => simp [ht] at hs
    | true =>
      simp only [ht, cond_true] at hs
      refine xR1_push hs (fun ad H locs ls cl sl hP hl K => ?_)
      have h1 := xlk_has hl hlk
      rw [xG_dv hr ad ht] at h1 K
      exact lv_lload_n hx hb hd rfl h1 K
theorem xs_aload_n (G : xCx p R s m args meth c r D dA A H0 mi) {i : Fin 4} {ln : Nat} {ax : List Nat} (hd : decode (xb mi) pc = .ok (.aload_n i, 1)) (hs : xsp mi pc (.aload_n i, ln, ax) lo st h E k = some res) :
    xR1 p l e R s m args below meth c Q r D dA A H0 n0 z0 ad0 (xm mi) pc lo st h E β k res := by
  obtain ⟨hx, hb, hml, hts, hK, hNw, hown, hr, hA, hin, hRf, hRl, hSc⟩ := G
  simp only [xsp, xhg_eq] at hs
  cases hlk : xlk lo i.val with
  | none => rw [hlk] at hs; cases hs
  | some t =>
    rw [hlk] at hs
    cases ht : xF t with
    | false => simp [ht] at hs
    | true =>
      simp only [ht, cond_true] at hs
      refine xR1_push hs (fun ad H locs ls cl sl hP hl K => ?_)
      have h1 := xlk_has hl hlk
      rw [xF_dv hr ad ht] at h1 K
      cases hq : xtr (xdv r ad t) with
      | none => rw [hq] at h1 K; exact lv_aload_nN hx hb hd rfl h1 K
      | some q => rw [hq] at h1 K; exact lv_aload_n hx hb hd rfl h1 K
theorem xs_aload (G : xCx p R s m args meth c r D dA A H0 mi) {i : Nat} {ln : Nat} {ax : List Nat} (hd : decode (xb mi) pc = .ok (.aload i, 2)) (hs : xsp mi pc (.aload i, ln, ax) lo st h E k = some res) :
    xR1 p l e R s m args below meth c Q r D dA A H0 n0 z0 ad0 (xm mi) pc lo st h E β k res := by
  obtain ⟨hx, hb, hml, hts, hK, hNw, hown, hr, hA, hin, hRf, hRl, hSc⟩ := G
  simp only [xsp, xhg_eq] at hs
  cases hlk : xlk lo i with
  | none => rw [hlk] at hs; cases hs
  | some t =>
    rw [hlk] at hs
    cases ht : xF t with
    | false => simp [ht] at hs
    | true =>
      simp only [ht, cond_true] at hs
      refine xR1_push hs (fun ad H locs ls cl sl hP hl K => ?_)
      have h1 := xlk_has hl hlk
      rw [xF_dv hr ad ht] at h1 K
      cases hq : xtr (xdv r ad t) with
      | none => rw [hq] at h1 K; exact lv_aloadN hx hb hd h1 K
      | some q => rw [hq] at h1 K; exact lv_aload hx hb hd h1 K
theorem xs_istore_n (G : xCx p R s m args meth c r D dA A H0 mi) {i : Fin 4} {ln : Nat} {ax : List Nat} (hd : decode (xb mi) pc = .ok (.istore_n i, 1)) (hs : xsp mi pc (.istore_n i, ln, ax) lo st h E k = some res) :
    xR1 p l e R s m args below meth c Q r D dA A H0 n0 z0 ad0 (xm mi) pc lo st h E β k res := by
  obtain ⟨hx, hb, hml, hts, hK, hNw, hown, hr, hA, hin, hRf, hRl, hSc⟩ := G
  simp only [xsp, xhg_eq] at hs
  cases st with
  | nil => cases hs
  | cons t s' =>
    simp only at hs
    cases ht : (xI t && Nat.ble (i.val + 1) (xm mi)) with
    | false => simp [ht] at hs
    | true =>
      simp only [ht, cond_true, xfL_eq, xfN_eq] at hs
      simp only [Bool.and_eq_true] at ht
      obtain ⟨ht, hi⟩ := ht
      have hi : i.val < xm mi := Nat.le_of_ble_eq_true hi
      refine xR1_same (mi := mi) hs (fun q => q) (fun _ ad H locs ls cl sl hP hl K => ?_)
      simp only [List.map_cons]
      rw [xI_dv hr ad ht]
      refine lv_istore_n hx hb hd rfl hl hi rfl (fun ls' hl' => K ls' (lv_less hl' ?_))
      rw [← xI_dv hr ad ht]
      exact xs1_in hr
theorem xs_istore (G : xCx p R s m args meth c r D dA A H0 mi) {i : Nat} {ln : Nat} {ax : List Nat} (hd : decode (xb mi) pc = .ok (.istore i, 2)) (hs : xsp mi pc (.istore i, ln, ax) lo st h E k = some res) :
    xR1 p l e R s m args below meth c Q r D dA A H0 n0 z0 ad0 (xm mi) pc lo st h E β k res := by
  obtain ⟨hx, hb, hml, hts, hK, hNw, hown, hr, hA, hin, hRf, hRl, hSc⟩ := G
  simp only [xsp, xhg_eq] at hs
  cases st with
  | nil => cases hs
  | cons t s' =>
    simp only at hs
    cases ht : (xI t && Nat.ble (i + 1) (xm mi)) with
    | false => simp [ht] at hs
    | true =>
      simp only [ht, cond_true, xfL_eq, xfN_eq] at hs
      simp only [Bool.and_eq_true] at ht
      obtain ⟨ht, hi⟩ := ht
      have hi : i < xm mi := Nat.le_of_ble_eq_true hi
      refine xR1_same (mi := mi) hs (fun q => q) (fun _ ad H locs ls cl sl hP hl K => ?_)
      simp only [List.map_cons]
      rw [xI_dv hr ad ht]
      refine lv_istore hx hb hd hl hi rfl (fun ls' hl' => K ls' (lv_less hl' ?_))
      rw [← xI_dv hr ad ht]
      exact xs1_in hr
theorem xs_astore_n (G : xCx p R s m args meth c r D dA A H0 mi) {i : Fin 4} {ln : Nat} {ax : List Nat} (hd : decode (xb mi) pc = .ok (.astore_n i, 1)) (hs : xsp mi pc (.astore_n i, ln, ax) lo st h E k = some res) :
    xR1 p l e R s m args below meth c Q r D dA A H0 n0 z0 ad0 (xm mi) pc lo st h E β k res := by
  obtain ⟨hx, hb, hml, hts, hK, hNw, hown, hr, hA, hin, hRf, hRl, hSc⟩ := G
  simp only [xsp, xhg_eq] at hs
  cases st with
  | nil => cases hs
  | cons t s' =>
    simp only at hs
    cases ht : (xF t && Nat.ble (i.val + 1) (xm mi)) with
    | false => simp [ht] at hs
    | true =>
      simp only [ht, cond_true, xfL_eq, xfN_eq] at hs
      simp only [Bool.and_eq_true] at ht
      obtain ⟨ht, hi⟩ := ht
      have hi : i.val < xm mi := Nat.le_of_ble_eq_true hi
      refine xR1_same (mi := mi) hs (fun q => q) (fun _ ad H locs ls cl sl hP hl K => ?_)
      simp only [List.map_cons]
      have hin' := xs1_in hr (ad := ad) (lo := lo) (i := i.val) (t := t)
      rw [xF_dv hr ad ht] at hin' ⊢
      cases hq : xtr (xdv r ad t) with
      | none =>
        rw [hq] at hin'
        exact lv_astore_nN hx hb hd rfl hl hi rfl (fun ls' hl' => K ls' (lv_less hl' hin'))
      | some q =>
        rw [hq] at hin'
        exact lv_astore_n hx hb hd rfl hl hi rfl (fun ls' hl' => K ls' (lv_less hl' hin'))
theorem xs_astore (G : xCx p R s m args meth c r D dA A H0 mi) {i : Nat} {ln : Nat} {ax : List Nat} (hd : decode (xb mi) pc = .ok (.astore i, 2)) (hs : xsp mi pc (.astore i, ln, ax) lo st h E k = some res) :
    xR1 p l e R s m args below meth c Q r D dA A H0 n0 z0 ad0 (xm mi) pc lo st h E β k res := by
  obtain ⟨hx, hb, hml, hts, hK, hNw, hown, hr, hA, hin, hRf, hRl, hSc⟩ := G
  simp only [xsp, xhg_eq] at hs
  cases st with
  | nil => cases hs
  | cons t s' =>
    simp only at hs
    cases ht : (xF t && Nat.ble (i + 1) (xm mi)) with
    | false => simp [ht] at hs
    | true =>
      simp only [ht, cond_true, xfL_eq, xfN_eq] at hs
      simp only [Bool.and_eq_true] at ht
      obtain ⟨ht, hi⟩ := ht
      have hi : i < xm mi := Nat.le_of_ble_eq_true hi
      refine xR1_same (mi := mi) hs (fun q => q) (fun _ ad H locs ls cl sl hP hl K => ?_)
      simp only [List.map_cons]
      have hin' := xs1_in hr (ad := ad) (lo := lo) (i := i) (t := t)
      rw [xF_dv hr ad ht] at hin' ⊢
      cases hq : xtr (xdv r ad t) with
      | none =>
        rw [hq] at hin'
        exact lv_astoreN hx hb hd hl hi rfl (fun ls' hl' => K ls' (lv_less hl' hin'))
      | some q =>
        rw [hq] at hin'
        exact lv_astore hx hb hd hl hi rfl (fun ls' hl' => K ls' (lv_less hl' hin'))
theorem xs_iinc (G : xCx p R s m args meth c r D dA A H0 mi) {i : Nat} {n : Int} {ln : Nat} {ax : List Nat} (hd : decode (xb mi) pc = .ok (.iinc i n, 3)) (hs : xsp mi pc (.iinc i n, ln, ax) lo st h E k = some res) :
    xR1 p l e R s m args below meth c Q r D dA A H0 n0 z0 ad0 (xm mi) pc lo st h E β k res := by
  obtain ⟨hx, hb, hml, hts, hK, hNw, hown, hr, hA, hin, hRf, hRl, hSc⟩ := G
  simp only [xsp, xhg_eq] at hs
  cases hlk : xlk lo i with
  | none => rw [hlk] at hs; cases hs
  | some t =>
    rw [hlk] at hs
    simp only at hs
    cases ht : (xI t && Nat.ble (i + 1) (xm mi)) with
    | false => simp [ht] at hs
    | true =>
      simp only [ht, cond_true, xfT_eq, xfL_eq, xfN_eq] at hs
      simp only [Bool.and_eq_true] at ht
      obtain ⟨ht, hi⟩ := ht
      have hi : i < xm mi := Nat.le_of_ble_eq_true hi
      refine xR1_same (mi := mi) hs (fun q => q) (fun _ ad H locs ls cl sl hP hl K => ?_)
      have hm : (i, xdv r ad t) ∈ lo.map (fun q => (q.1, xdv r ad q.2)) := List.mem_map.mpr ⟨(i, t), xlk_mem hlk, rfl⟩
      rw [xI_dv hr ad ht] at hm
      obtain ⟨j, hj⟩ := List.getElem?_of_mem hm
      have hin' := xs1_in hr (ad := ad) (lo := lo) (i := i) (t := xad t (.int (Int32.ofInt n)))
      rw [xad_dv] at hin'
      exact lv_iinc hx hb hd hl hj rfl hi rfl (fun ls' hl' => K ls' (lv_less hl' hin'))
theorem xs_iadd (G : xCx p R s m args meth c r D dA A H0 mi)  {ln : Nat} {ax : List Nat} (hd : decode (xb mi) pc = .ok (.iadd, 1)) (hs : xsp mi pc (.iadd, ln, ax) lo st h E k = some res) :
    xR1 p l e R s m args below meth c Q r D dA A H0 n0 z0 ad0 (xm mi) pc lo st h E β k res := by
  obtain ⟨hx, hb, hml, hts, hK, hNw, hown, hr, hA, hin, hRf, hRl, hSc⟩ := G
  simp only [xsp, xhg_eq] at hs
  cases st with
  | nil => cases hs
  | cons b st => cases st with
    | nil => cases hs
    | cons a s' =>
      simp only at hs
      cases ht : (xI a && xI b) with
      | false => simp [ht] at hs
      | true =>
        simp only [ht, cond_true] at hs
        simp only [Bool.and_eq_true] at ht
        refine xR1_push hs (fun ad H locs ls cl sl hP hl K => ?_)
        rw [xad_dv] at K
        simp only [List.map_cons]
        rw [xI_dv hr ad ht.1, xI_dv hr ad ht.2]
        exact lv_iadd hx hb hd K
theorem xs_isub (G : xCx p R s m args meth c r D dA A H0 mi)  {ln : Nat} {ax : List Nat} (hd : decode (xb mi) pc = .ok (.isub, 1)) (hs : xsp mi pc (.isub, ln, ax) lo st h E k = some res) :
    xR1 p l e R s m args below meth c Q r D dA A H0 n0 z0 ad0 (xm mi) pc lo st h E β k res := by
  obtain ⟨hx, hb, hml, hts, hK, hNw, hown, hr, hA, hin, hRf, hRl, hSc⟩ := G
  simp only [xsp, xhg_eq] at hs
  cases st with
  | nil => cases hs
  | cons b st => cases st with
    | nil => cases hs
    | cons a s' =>
      simp only at hs
      cases ht : (xI a && xI b) with
      | false => simp [ht] at hs
      | true =>
        simp only [ht, cond_true] at hs
        simp only [Bool.and_eq_true] at ht
        refine xR1_push hs (fun ad H locs ls cl sl hP hl K => ?_)
        rw [xsb_dv] at K
        simp only [List.map_cons]
        rw [xI_dv hr ad ht.1, xI_dv hr ad ht.2]
        exact lv_isub hx hb hd K
theorem xs_imul (G : xCx p R s m args meth c r D dA A H0 mi)  {ln : Nat} {ax : List Nat} (hd : decode (xb mi) pc = .ok (.imul, 1)) (hs : xsp mi pc (.imul, ln, ax) lo st h E k = some res) :
    xR1 p l e R s m args below meth c Q r D dA A H0 n0 z0 ad0 (xm mi) pc lo st h E β k res := by
  obtain ⟨hx, hb, hml, hts, hK, hNw, hown, hr, hA, hin, hRf, hRl, hSc⟩ := G
  simp only [xsp, xhg_eq] at hs
  cases st with
  | nil => cases hs
  | cons b st => cases st with
    | nil => cases hs
    | cons a s' =>
      simp only at hs
      cases ht : (xI a && xI b) with
      | false => simp [ht] at hs
      | true =>
        simp only [ht, cond_true] at hs
        simp only [Bool.and_eq_true] at ht
        refine xR1_push hs (fun ad H locs ls cl sl hP hl K => ?_)
        rw [xml_dv] at K
        simp only [List.map_cons]
        rw [xI_dv hr ad ht.1, xI_dv hr ad ht.2]
        exact lv_imul hx hb hd K
theorem xs_idiv (G : xCx p R s m args meth c r D dA A H0 mi)  {ln : Nat} {ax : List Nat} (hd : decode (xb mi) pc = .ok (.idiv, 1)) (hs : xsp mi pc (.idiv, ln, ax) lo st h E k = some res) :
    xR1 p l e R s m args below meth c Q r D dA A H0 n0 z0 ad0 (xm mi) pc lo st h E β k res := by
  obtain ⟨hx, hb, hml, hts, hK, hNw, hown, hr, hA, hin, hRf, hRl, hSc⟩ := G
  simp only [xsp, xhg_eq] at hs
  cases st with
  | nil => cases hs
  | cons b st => cases st with
    | nil => cases hs
    | cons a s' =>
      simp only at hs
      cases ht : (xI a && (xI b && xnz b)) with
      | false => simp [ht] at hs
      | true =>
        simp only [ht, cond_true] at hs
        simp only [Bool.and_eq_true] at ht
        refine xR1_push hs (fun ad H locs ls cl sl hP hl K => ?_)
        rw [xdi_dv] at K
        simp only [List.map_cons]
        have hz := xnz_dv (r := r) (ad := ad) ht.2.2
        rw [xI_dv hr ad ht.1, xI_dv hr ad ht.2.1]
        exact lv_idiv hx hb hd hz K
theorem xs_irem (G : xCx p R s m args meth c r D dA A H0 mi)  {ln : Nat} {ax : List Nat} (hd : decode (xb mi) pc = .ok (.irem, 1)) (hs : xsp mi pc (.irem, ln, ax) lo st h E k = some res) :
    xR1 p l e R s m args below meth c Q r D dA A H0 n0 z0 ad0 (xm mi) pc lo st h E β k res := by
  obtain ⟨hx, hb, hml, hts, hK, hNw, hown, hr, hA, hin, hRf, hRl, hSc⟩ := G
  simp only [xsp, xhg_eq] at hs
  cases st with
  | nil => cases hs
  | cons b st => cases st with
    | nil => cases hs
    | cons a s' =>
      simp only at hs
      cases ht : (xI a && (xI b && xnz b)) with
      | false => simp [ht] at hs
      | true =>
        simp only [ht, cond_true] at hs
        simp only [Bool.and_eq_true] at ht
        refine xR1_push hs (fun ad H locs ls cl sl hP hl K => ?_)
        rw [xrm_dv] at K
        simp only [List.map_cons]
        have hz := xnz_dv (r := r) (ad := ad) ht.2.2
        rw [xI_dv hr ad ht.1, xI_dv hr ad ht.2.1]
        exact lv_irem hx hb hd hz K
theorem xs_iand (G : xCx p R s m args meth c r D dA A H0 mi)  {ln : Nat} {ax : List Nat} (hd : decode (xb mi) pc = .ok (.iand, 1)) (hs : xsp mi pc (.iand, ln, ax) lo st h E k = some res) :
    xR1 p l e R s m args below meth c Q r D dA A H0 n0 z0 ad0 (xm mi) pc lo st h E β k res := by
  obtain ⟨hx, hb, hml, hts, hK, hNw, hown, hr, hA, hin, hRf, hRl, hSc⟩ := G
  simp only [xsp, xhg_eq] at hs
  cases st with
  | nil => cases hs
  | cons b st => cases st with
    | nil => cases hs
    | cons a s' =>
      simp only at hs
      cases ht : (xI a && xI b) with
      | false => simp [ht] at hs
      | true =>
        simp only [ht, cond_true] at hs
        simp only [Bool.and_eq_true] at ht
        refine xR1_push hs (fun ad H locs ls cl sl hP hl K => ?_)
        have hv : xdv r ad (xb2 .iand a b) = xo2 .iand (xdv r ad a) (xdv r ad b) := by
          cases ha : xlit a <;> cases hb2 : xlit b <;> simp only [xb2, ha, hb2] <;> first | rfl | (rw [xlit_eq ha, xlit_eq hb2]; rfl)
        rw [hv] at K
        simp only [List.map_cons]
        rw [xI_dv hr ad ht.1, xI_dv hr ad ht.2]
        exact lv_iand hx hb hd K
theorem xs_ior (G : xCx p R s m args meth c r D dA A H0 mi)  {ln : Nat} {ax : List Nat} (hd : decode (xb mi) pc = .ok (.ior, 1)) (hs : xsp mi pc (.ior, ln, ax) lo st h E k = some res) :
    xR1 p l e R s m args below meth c Q r D dA A H0 n0 z0 ad0 (xm mi) pc lo st h E β k res := by
  obtain ⟨hx, hb, hml, hts, hK, hNw, hown, hr, hA, hin, hRf, hRl, hSc⟩ := G
  simp only [xsp, xhg_eq] at hs
  cases st with
  | nil => cases hs
  | cons b st => cases st with
    | nil => cases hs
    | cons a s' =>
      simp only at hs
      cases ht : (xI a && xI b) with
      | false => simp [ht] at hs
      | true =>
        simp only [ht, cond_true] at hs
        simp only [Bool.and_eq_true] at ht
        refine xR1_push hs (fun ad H locs ls cl sl hP hl K => ?_)
        have hv : xdv r ad (xb2 .ior a b) = xo2 .ior (xdv r ad a) (xdv r ad b) := by
          cases ha : xlit a <;> cases hb2 : xlit b <;> simp only [xb2, ha, hb2] <;> first | rfl | (rw [xlit_eq ha, xlit_eq hb2]; rfl)
        rw [hv] at K
        simp only [List.map_cons]
        rw [xI_dv hr ad ht.1, xI_dv hr ad ht.2]
        exact lv_ior hx hb hd K
theorem xs_ixor (G : xCx p R s m args meth c r D dA A H0 mi)  {ln : Nat} {ax : List Nat} (hd : decode (xb mi) pc = .ok (.ixor, 1)) (hs : xsp mi pc (.ixor, ln, ax) lo st h E k = some res) :
    xR1 p l e R s m args below meth c Q r D dA A H0 n0 z0 ad0 (xm mi) pc lo st h E β k res := by
  obtain ⟨hx, hb, hml, hts, hK, hNw, hown, hr, hA, hin, hRf, hRl, hSc⟩ := G
  simp only [xsp, xhg_eq] at hs
  cases st with
  | nil => cases hs
  | cons b st => cases st with
    | nil => cases hs
    | cons a s' =>
      simp only at hs
      cases ht : (xI a && xI b) with
      | false => simp [ht] at hs
      | true =>
        simp only [ht, cond_true] at hs
        simp only [Bool.and_eq_true] at ht
        refine xR1_push hs (fun ad H locs ls cl sl hP hl K => ?_)
        have hv : xdv r ad (xb2 .ixor a b) = xo2 .ixor (xdv r ad a) (xdv r ad b) := by
          cases ha : xlit a <;> cases hb2 : xlit b <;> simp only [xb2, ha, hb2] <;> first | rfl | (rw [xlit_eq ha, xlit_eq hb2]; rfl)
        rw [hv] at K
        simp only [List.map_cons]
        rw [xI_dv hr ad ht.1, xI_dv hr ad ht.2]
        exact lv_ixor hx hb hd K
theorem xs_ishl (G : xCx p R s m args meth c r D dA A H0 mi)  {ln : Nat} {ax : List Nat} (hd : decode (xb mi) pc = .ok (.ishl, 1)) (hs : xsp mi pc (.ishl, ln, ax) lo st h E k = some res) :
    xR1 p l e R s m args below meth c Q r D dA A H0 n0 z0 ad0 (xm mi) pc lo st h E β k res := by
  obtain ⟨hx, hb, hml, hts, hK, hNw, hown, hr, hA, hin, hRf, hRl, hSc⟩ := G
  simp only [xsp, xhg_eq] at hs
  cases st with
  | nil => cases hs
  | cons b st => cases st with
    | nil => cases hs
    | cons a s' =>
      simp only at hs
      cases ht : (xI a && xI b) with
      | false => simp [ht] at hs
      | true =>
        simp only [ht, cond_true] at hs
        simp only [Bool.and_eq_true] at ht
        refine xR1_push hs (fun ad H locs ls cl sl hP hl K => ?_)
        have hv : xdv r ad (xb2 .ishl a b) = xo2 .ishl (xdv r ad a) (xdv r ad b) := by
          cases ha : xlit a <;> cases hb2 : xlit b <;> simp only [xb2, ha, hb2] <;> first | rfl | (rw [xlit_eq ha, xlit_eq hb2]; rfl)
        rw [hv] at K
        simp only [List.map_cons]
        rw [xI_dv hr ad ht.1, xI_dv hr ad ht.2]
        exact lv_ishl hx hb hd K
theorem xs_ishr (G : xCx p R s m args meth c r D dA A H0 mi)  {ln : Nat} {ax : List Nat} (hd : decode (xb mi) pc = .ok (.ishr, 1)) (hs : xsp mi pc (.ishr, ln, ax) lo st h E k = some res) :
    xR1 p l e R s m args below meth c Q r D dA A H0 n0 z0 ad0 (xm mi) pc lo st h E β k res := by
  obtain ⟨hx, hb, hml, hts, hK, hNw, hown, hr, hA, hin, hRf, hRl, hSc⟩ := G
  simp only [xsp, xhg_eq] at hs
  cases st with
  | nil => cases hs
  | cons b st => cases st with
    | nil => cases hs
    | cons a s' =>
      simp only at hs
      cases ht : (xI a && xI b) with
      | false => simp [ht] at hs
      | true =>
        simp only [ht, cond_true] at hs
        simp only [Bool.and_eq_true] at ht
        refine xR1_push hs (fun ad H locs ls cl sl hP hl K => ?_)
        have hv : xdv r ad (xb2 .ishr a b) = xo2 .ishr (xdv r ad a) (xdv r ad b) := by
          cases ha : xlit a <;> cases hb2 : xlit b <;> simp only [xb2, ha, hb2] <;> first | rfl | (rw [xlit_eq ha, xlit_eq hb2]; rfl)
        rw [hv] at K
        simp only [List.map_cons]
        rw [xI_dv hr ad ht.1, xI_dv hr ad ht.2]
        exact lv_ishr hx hb hd K
theorem xs_iushr (G : xCx p R s m args meth c r D dA A H0 mi)  {ln : Nat} {ax : List Nat} (hd : decode (xb mi) pc = .ok (.iushr, 1)) (hs : xsp mi pc (.iushr, ln, ax) lo st h E k = some res) :
    xR1 p l e R s m args below meth c Q r D dA A H0 n0 z0 ad0 (xm mi) pc lo st h E β k res := by
  obtain ⟨hx, hb, hml, hts, hK, hNw, hown, hr, hA, hin, hRf, hRl, hSc⟩ := G
  simp only [xsp, xhg_eq] at hs
  cases st with
  | nil => cases hs
  | cons b st => cases st with
    | nil => cases hs
    | cons a s' =>
      simp only at hs
      cases ht : (xI a && xI b) with
      | false => simp [ht] at hs
      | true =>
        simp only [ht, cond_true] at hs
        simp only [Bool.and_eq_true] at ht
        refine xR1_push hs (fun ad H locs ls cl sl hP hl K => ?_)
        have hv : xdv r ad (xb2 .iushr a b) = xo2 .iushr (xdv r ad a) (xdv r ad b) := by
          cases ha : xlit a <;> cases hb2 : xlit b <;> simp only [xb2, ha, hb2] <;> first | rfl | (rw [xlit_eq ha, xlit_eq hb2]; rfl)
        rw [hv] at K
        simp only [List.map_cons]
        rw [xI_dv hr ad ht.1, xI_dv hr ad ht.2]
        exact lv_iushr hx hb hd rfl K
theorem xs_ineg (G : xCx p R s m args meth c r D dA A H0 mi)  {ln : Nat} {ax : List Nat} (hd : decode (xb mi) pc = .ok (.ineg, 1)) (hs : xsp mi pc (.ineg, ln, ax) lo st h E k = some res) :
    xR1 p l e R s m args below meth c Q r D dA A H0 n0 z0 ad0 (xm mi) pc lo st h E β k res := by
  obtain ⟨hx, hb, hml, hts, hK, hNw, hown, hr, hA, hin, hRf, hRl, hSc⟩ := G
  simp only [xsp, xhg_eq] at hs
  cases st with
  | nil => cases hs
  | cons a s' =>
    simp only at hs
    cases ht : xI a with
    | false => simp [ht] at hs
    | true =>
      simp only [ht, cond_true] at hs
      refine xR1_push hs (fun ad H locs ls cl sl hP hl K => ?_)
      have hv : xdv r ad (xb1 .ineg a) = xo1 .ineg (xdv r ad a) := by
        cases ha : xlit a <;> simp only [xb1, ha] <;> first | rfl | (rw [xlit_eq ha]; rfl)
      rw [hv] at K
      simp only [List.map_cons]
      rw [xI_dv hr ad ht]
      exact lv_ineg hx hb hd K
theorem xs_i2b (G : xCx p R s m args meth c r D dA A H0 mi)  {ln : Nat} {ax : List Nat} (hd : decode (xb mi) pc = .ok (.i2b, 1)) (hs : xsp mi pc (.i2b, ln, ax) lo st h E k = some res) :
    xR1 p l e R s m args below meth c Q r D dA A H0 n0 z0 ad0 (xm mi) pc lo st h E β k res := by
  obtain ⟨hx, hb, hml, hts, hK, hNw, hown, hr, hA, hin, hRf, hRl, hSc⟩ := G
  simp only [xsp, xhg_eq] at hs
  cases st with
  | nil => cases hs
  | cons a s' =>
    simp only at hs
    cases ht : xI a with
    | false => simp [ht] at hs
    | true =>
      simp only [ht, cond_true] at hs
      refine xR1_push hs (fun ad H locs ls cl sl hP hl K => ?_)
      have hv : xdv r ad (xb1 .i2b a) = xo1 .i2b (xdv r ad a) := by
        cases ha : xlit a <;> simp only [xb1, ha] <;> first | rfl | (rw [xlit_eq ha]; rfl)
      rw [hv] at K
      simp only [List.map_cons]
      rw [xI_dv hr ad ht]
      exact lv_i2b hx hb hd rfl K
theorem xs_i2s (G : xCx p R s m args meth c r D dA A H0 mi)  {ln : Nat} {ax : List Nat} (hd : decode (xb mi) pc = .ok (.i2s, 1)) (hs : xsp mi pc (.i2s, ln, ax) lo st h E k = some res) :
    xR1 p l e R s m args below meth c Q r D dA A H0 n0 z0 ad0 (xm mi) pc lo st h E β k res := by
  obtain ⟨hx, hb, hml, hts, hK, hNw, hown, hr, hA, hin, hRf, hRl, hSc⟩ := G
  simp only [xsp, xhg_eq] at hs
  cases st with
  | nil => cases hs
  | cons a s' =>
    simp only at hs
    cases ht : xI a with
    | false => simp [ht] at hs
    | true =>
      simp only [ht, cond_true] at hs
      refine xR1_push hs (fun ad H locs ls cl sl hP hl K => ?_)
      have hv : xdv r ad (xb1 .i2s a) = xo1 .i2s (xdv r ad a) := by
        cases ha : xlit a <;> simp only [xb1, ha] <;> first | rfl | (rw [xlit_eq ha]; rfl)
      rw [hv] at K
      simp only [List.map_cons]
      rw [xI_dv hr ad ht]
      exact lv_i2s hx hb hd rfl K
theorem xl2_dv {r : Nat → Value} {ad : Nat → Nat} {o : Binary} (ho : ∀ v w, xo2 o v w = .long (xtl (xo2 o v w))) {a b : Jvm.Term} : xdv r ad (xl2 o a b) = xo2 o (xdv r ad a) (xdv r ad b) := by
  cases a with
  | long x => cases b with
    | long y => exact (ho _ _).symm
    | int y => exact (ho _ _).symm
    | _ => rfl
  | _ => rfl
theorem xl1_dv {r : Nat → Value} {ad : Nat → Nat} {a : Jvm.Term} : xdv r ad (xl1 a) = xo1 .l2i (xdv r ad a) := by
  cases a <;> rfl
theorem xl0_dv {r : Nat → Value} {ad : Nat → Nat} {a : Jvm.Term} : xdv r ad (xl0 a) = xo1 .i2l (xdv r ad a) := by
  cases a <;> rfl
theorem xs_l2i (G : xCx p R s m args meth c r D dA A H0 mi)  {ln : Nat} {ax : List Nat} (hd : decode (xb mi) pc = .ok (.l2i, 1)) (hs : xsp mi pc (.l2i, ln, ax) lo st h E k = some res) :
    xR1 p l e R s m args below meth c Q r D dA A H0 n0 z0 ad0 (xm mi) pc lo st h E β k res := by
  obtain ⟨hx, hb, hml, hts, hK, hNw, hown, hr, hA, hin, hRf, hRl, hSc⟩ := G
  simp only [xsp, xhg_eq] at hs
  cases st with
  | nil => cases hs
  | cons a s' =>
    simp only at hs
    cases ht : xG a with
    | false => simp [ht] at hs
    | true =>
      simp only [ht, cond_true] at hs
      refine xR1_push hs (fun ad H locs ls cl sl hP hl K => ?_)
      rw [xl1_dv] at K
      simp only [List.map_cons]
      rw [xG_dv hr ad ht]
      exact lv_l2i hx hb hd rfl K
theorem xs_lushr (G : xCx p R s m args meth c r D dA A H0 mi)  {ln : Nat} {ax : List Nat} (hd : decode (xb mi) pc = .ok (.lushr, 1)) (hs : xsp mi pc (.lushr, ln, ax) lo st h E k = some res) :
    xR1 p l e R s m args below meth c Q r D dA A H0 n0 z0 ad0 (xm mi) pc lo st h E β k res := by
  obtain ⟨hx, hb, hml, hts, hK, hNw, hown, hr, hA, hin, hRf, hRl, hSc⟩ := G
  simp only [xsp, xhg_eq] at hs
  cases st with
  | nil => cases hs
  | cons b st => cases st with
    | nil => cases hs
    | cons a s' =>
      simp only at hs
      cases ht : (xG a && xI b) with
      | false => simp [ht] at hs
      | true =>
        simp only [ht, cond_true] at hs
        simp only [Bool.and_eq_true] at ht
        refine xR1_push hs (fun ad H locs ls cl sl hP hl K => ?_)
        rw [xl2_dv (o := .lushr) (fun v w => rfl)] at K
        simp only [List.map_cons]
        rw [xG_dv hr ad ht.1, xI_dv hr ad ht.2]
        exact lv_lushr hx hb hd rfl K
theorem xs_lshr (G : xCx p R s m args meth c r D dA A H0 mi)  {ln : Nat} {ax : List Nat} (hd : decode (xb mi) pc = .ok (.lshr, 1)) (hs : xsp mi pc (.lshr, ln, ax) lo st h E k = some res) :
    xR1 p l e R s m args below meth c Q r D dA A H0 n0 z0 ad0 (xm mi) pc lo st h E β k res := by
  obtain ⟨hx, hb, hml, hts, hK, hNw, hown, hr, hA, hin, hRf, hRl, hSc⟩ := G
  simp only [xsp, xhg_eq] at hs
  cases st with
  | nil => cases hs
  | cons b st => cases st with
    | nil => cases hs
    | cons a s' =>
      simp only at hs
      cases ht : (xG a && xI b) with
      | false => simp [ht] at hs
      | true =>
        simp only [ht, cond_true] at hs
        simp only [Bool.and_eq_true] at ht
        refine xR1_push hs (fun ad H locs ls cl sl hP hl K => ?_)
        rw [xl2_dv (o := .lshr) (fun v w => rfl)] at K
        simp only [List.map_cons]
        rw [xG_dv hr ad ht.1, xI_dv hr ad ht.2]
        exact lv_lshr hx hb hd rfl K
theorem xs_land (G : xCx p R s m args meth c r D dA A H0 mi)  {ln : Nat} {ax : List Nat} (hd : decode (xb mi) pc = .ok (.land, 1)) (hs : xsp mi pc (.land, ln, ax) lo st h E k = some res) :
    xR1 p l e R s m args below meth c Q r D dA A H0 n0 z0 ad0 (xm mi) pc lo st h E β k res := by
  obtain ⟨hx, hb, hml, hts, hK, hNw, hown, hr, hA, hin, hRf, hRl, hSc⟩ := G
  simp only [xsp, xhg_eq] at hs
  cases st with
  | nil => cases hs
  | cons b st => cases st with
    | nil => cases hs
    | cons a s' =>
      simp only at hs
      cases ht : (xG a && xG b) with
      | false => simp [ht] at hs
      | true =>
        simp only [ht, cond_true] at hs
        simp only [Bool.and_eq_true] at ht
        refine xR1_push hs (fun ad H locs ls cl sl hP hl K => ?_)
        rw [xl2_dv (o := .land) (fun v w => rfl)] at K
        simp only [List.map_cons]
        rw [xG_dv hr ad ht.1, xG_dv hr ad ht.2]
        exact lv_land hx hb hd K
theorem xs_lor (G : xCx p R s m args meth c r D dA A H0 mi)  {ln : Nat} {ax : List Nat} (hd : decode (xb mi) pc = .ok (.lor, 1)) (hs : xsp mi pc (.lor, ln, ax) lo st h E k = some res) :
    xR1 p l e R s m args below meth c Q r D dA A H0 n0 z0 ad0 (xm mi) pc lo st h E β k res := by
  obtain ⟨hx, hb, hml, hts, hK, hNw, hown, hr, hA, hin, hRf, hRl, hSc⟩ := G
  simp only [xsp, xhg_eq] at hs
  cases st with
  | nil => cases hs
  | cons b st => cases st with
    | nil => cases hs
    | cons a s' =>
      simp only at hs
      cases ht : (xG a && xG b) with
      | false => simp [ht] at hs
      | true =>
        simp only [ht, cond_true] at hs
        simp only [Bool.and_eq_true] at ht
        refine xR1_push hs (fun ad H locs ls cl sl hP hl K => ?_)
        rw [xl2_dv (o := .lor) (fun v w => rfl)] at K
        simp only [List.map_cons]
        rw [xG_dv hr ad ht.1, xG_dv hr ad ht.2]
        exact lv_lor hx hb hd K
theorem xs_lshl (G : xCx p R s m args meth c r D dA A H0 mi)  {ln : Nat} {ax : List Nat} (hd : decode (xb mi) pc = .ok (.lshl, 1)) (hs : xsp mi pc (.lshl, ln, ax) lo st h E k = some res) :
    xR1 p l e R s m args below meth c Q r D dA A H0 n0 z0 ad0 (xm mi) pc lo st h E β k res := by
  obtain ⟨hx, hb, hml, hts, hK, hNw, hown, hr, hA, hin, hRf, hRl, hSc⟩ := G
  simp only [xsp, xhg_eq] at hs
  cases st with
  | nil => cases hs
  | cons b st => cases st with
    | nil => cases hs
    | cons a s' =>
      simp only at hs
      cases ht : (xG a && xI b) with
      | false => simp [ht] at hs
      | true =>
        simp only [ht, cond_true] at hs
        simp only [Bool.and_eq_true] at ht
        refine xR1_push hs (fun ad H locs ls cl sl hP hl K => ?_)
        rw [xl2_dv (o := .lshl) (fun v w => rfl)] at K
        simp only [List.map_cons]
        rw [xG_dv hr ad ht.1, xI_dv hr ad ht.2]
        exact lv_lshl hx hb hd rfl K
theorem xs_i2l (G : xCx p R s m args meth c r D dA A H0 mi)  {ln : Nat} {ax : List Nat} (hd : decode (xb mi) pc = .ok (.i2l, 1)) (hs : xsp mi pc (.i2l, ln, ax) lo st h E k = some res) :
    xR1 p l e R s m args below meth c Q r D dA A H0 n0 z0 ad0 (xm mi) pc lo st h E β k res := by
  obtain ⟨hx, hb, hml, hts, hK, hNw, hown, hr, hA, hin, hRf, hRl, hSc⟩ := G
  simp only [xsp, xhg_eq] at hs
  cases st with
  | nil => cases hs
  | cons a s' =>
    simp only at hs
    cases ht : xI a with
    | false => simp [ht] at hs
    | true =>
      simp only [ht, cond_true] at hs
      refine xR1_push hs (fun ad H locs ls cl sl hP hl K => ?_)
      rw [xl0_dv] at K
      simp only [List.map_cons]
      rw [xI_dv hr ad ht]
      exact lv_i2l hx hb hd rfl K
theorem xs_dup (G : xCx p R s m args meth c r D dA A H0 mi)  {ln : Nat} {ax : List Nat} (hd : decode (xb mi) pc = .ok (.dup, 1)) (hs : xsp mi pc (.dup, ln, ax) lo st h E k = some res) :
    xR1 p l e R s m args below meth c Q r D dA A H0 n0 z0 ad0 (xm mi) pc lo st h E β k res := by
  obtain ⟨hx, hb, hml, hts, hK, hNw, hown, hr, hA, hin, hRf, hRl, hSc⟩ := G
  simp only [xsp, xhg_eq] at hs
  cases st with
  | nil => cases hs
  | cons a s' =>
    simp only at hs
    cases ht : xG a with
    | true => simp [ht] at hs
    | false =>
      simp only [ht, cond_false] at hs
      exact xR1_push hs (fun ad H locs ls cl sl hP hl K => lv_dup hx hb hd (xcat hr ad ht) K)
theorem xs_pop (G : xCx p R s m args meth c r D dA A H0 mi)  {ln : Nat} {ax : List Nat} (hd : decode (xb mi) pc = .ok (.pop, 1)) (hs : xsp mi pc (.pop, ln, ax) lo st h E k = some res) :
    xR1 p l e R s m args below meth c Q r D dA A H0 n0 z0 ad0 (xm mi) pc lo st h E β k res := by
  obtain ⟨hx, hb, hml, hts, hK, hNw, hown, hr, hA, hin, hRf, hRl, hSc⟩ := G
  simp only [xsp, xhg_eq] at hs
  cases st with
  | nil => cases hs
  | cons a s' =>
    simp only at hs
    cases ht : xG a with
    | true => simp [ht] at hs
    | false =>
      simp only [ht, cond_false, xfN_eq] at hs
      exact xR1_same (mi := mi) hs (fun q => q) (fun _ ad H locs ls cl sl hP hl K => lv_pop hx hb hd (xcat hr ad ht) (K ls hl))
theorem xs_dup2 (G : xCx p R s m args meth c r D dA A H0 mi)  {ln : Nat} {ax : List Nat} (hd : decode (xb mi) pc = .ok (.dup2, 1)) (hs : xsp mi pc (.dup2, ln, ax) lo st h E k = some res) :
    xR1 p l e R s m args below meth c Q r D dA A H0 n0 z0 ad0 (xm mi) pc lo st h E β k res := by
  obtain ⟨hx, hb, hml, hts, hK, hNw, hown, hr, hA, hin, hRf, hRl, hSc⟩ := G
  simp only [xsp, xhg_eq] at hs
  cases st with
  | nil => cases hs
  | cons a st => cases st with
    | nil => cases hs
    | cons b s' =>
      simp only at hs
      cases ht : (xG a || xG b) with
      | true => simp [ht] at hs
      | false =>
        simp only [ht, cond_false, xfN_eq] at hs
        simp only [Bool.or_eq_false_iff] at ht
        exact xR1_same (mi := mi) hs (fun q => q) (fun _ ad H locs ls cl sl hP hl K => lv_dup2_11 hx hb hd (xcat hr ad ht.1) (xcat hr ad ht.2) (K ls hl))
theorem xjp_go {off : Int} {kk : Nat → Option β} (hs : xjp pc off kk = some res) : ∃ t : Nat, (pc : Int) + off = (t : Int) ∧ kk t = some res := by
  unfold xjp at hs
  cases hq : (pc : Int) + off with
  | ofNat t => rw [hq] at hs; simp only [xfN_eq] at hs; exact ⟨t, rfl, hs⟩
  | negSucc t => rw [hq] at hs; cases hs
theorem xs_goto (G : xCx p R s m args meth c r D dA A H0 mi) {off : Int} {ln : Nat} {ax : List Nat} (hd : decode (xb mi) pc = .ok (.goto off, 3)) (hs : xsp mi pc (.goto off, ln, ax) lo st h E k = some res) :
    xR1 p l e R s m args below meth c Q r D dA A H0 n0 z0 ad0 (xm mi) pc lo st h E β k res := by
  obtain ⟨hx, hb, hml, hts, hK, hNw, hown, hr, hA, hin, hRf, hRl, hSc⟩ := G
  simp only [xsp, xhg_eq] at hs
  obtain ⟨t, ht, hs⟩ := xjp_go hs
  exact xR1_same (mi := mi) hs (fun q => q) (fun _ ad H locs ls cl sl hP hl K => lv_goto hx hb hd ht (K ls hl))
theorem lv_icmp_all {cc : ByteArray} {ls : Array Slot} {rest : List Value} {H : Heap} {locs : List Loc} {cells slots : Nat} (hexec : p.tables.exec = Jvm.exec) (hb : c.code = cc) {cd : Jvm.ClassFile.Cond} {x y : Int32} {off : Int} {tgt : Nat} (hdg : decode cc pc = .ok (.if_icmp cd off, 3)) (ht : (pc : Int) + off = (tgt : Int))
    (kt : xcm cd x y → W p l e R s m args below meth c H locs cells slots Q (F0 m tgt ls rest)) (kf : ¬ xcm cd x y → W p l e R s m args below meth c H locs cells slots Q (F0 m (pc + 3) ls rest)) : W p l e R s m args below meth c H locs cells slots Q (F0 m pc ls (.int y :: .int x :: rest)) := by
  cases cd with
  | eq => exact lv_icmp_eq hexec hb hdg ht kt kf
  | ne => exact lv_icmp_ne hexec hb hdg ht kt (fun q => kf (fun z => z q))
  | lt => exact lv_icmp_lt hexec hb hdg ht kt kf
  | ge => exact lv_icmp_ge hexec hb hdg ht kt kf
  | gt => exact lv_icmp_gt hexec hb hdg ht kt kf
  | le => exact lv_icmp_le hexec hb hdg ht kt kf
theorem lv_if_all {cc : ByteArray} {ls : Array Slot} {rest : List Value} {H : Heap} {locs : List Loc} {cells slots : Nat} (hexec : p.tables.exec = Jvm.exec) (hb : c.code = cc) {cd : Jvm.ClassFile.Cond} {x : Int32} {off : Int} {tgt : Nat} (hdg : decode cc pc = .ok (.ifCond cd off, 3)) (ht : (pc : Int) + off = (tgt : Int))
    (kt : xcm cd x 0 → W p l e R s m args below meth c H locs cells slots Q (F0 m tgt ls rest)) (kf : ¬ xcm cd x 0 → W p l e R s m args below meth c H locs cells slots Q (F0 m (pc + 3) ls rest)) : W p l e R s m args below meth c H locs cells slots Q (F0 m pc ls (.int x :: rest)) := by
  cases cd with
  | eq => exact lv_if_eq hexec hb hdg ht kt kf
  | ne => exact lv_if_ne hexec hb hdg ht kt (fun q => kf (fun z => z q))
  | lt => exact lv_if_lt hexec hb hdg ht kt kf
  | ge => exact lv_if_ge hexec hb hdg ht kt kf
  | gt => exact lv_if_gt hexec hb hdg ht kt kf
  | le => exact lv_if_le hexec hb hdg ht kt kf
theorem xs_if (G : xCx p R s m args meth c r D dA A H0 mi) {cd : Jvm.ClassFile.Cond} {off : Int} {ln : Nat} {ax : List Nat} (hd : decode (xb mi) pc = .ok (.ifCond cd off, 3)) (hs : xsp mi pc (.ifCond cd off, ln, ax) lo st h E k = some res) :
    xR1 p l e R s m args below meth c Q r D dA A H0 n0 z0 ad0 (xm mi) pc lo st h E β k res := by
  obtain ⟨hx, hb, hml, hts, hK, hNw, hown, hr, hA, hin, hRf, hRl, hSc⟩ := G
  simp only [xsp, xhg_eq] at hs
  cases st with
  | nil => cases hs
  | cons a s' =>
    simp only at hs
    cases ht : xI a with
    | false => simp [ht] at hs
    | true =>
      simp only [ht, cond_true] at hs
      obtain ⟨t, htg, hs⟩ := xjp_go hs
      obtain ⟨z, E', hz, hE⟩ := xbr_spec r xid hs
      cases z with
      | true =>
        simp only at hz
        refine xR1_same (mi := mi) hz (fun q => (hE q).1) (fun hh ad H locs ls cl sl hP hl K => ?_)
        have hc := (hE hh).2.mp rfl
        rw [(xdv_ad r xid ad a).1] at hc
        simp only [List.map_cons]
        rw [xI_dv hr ad ht]
        exact lv_if_all hx hb hd htg (fun _ => K ls hl) (fun hn => absurd hc hn)
      | false =>
        simp only [xfN_eq] at hz
        refine xR1_same (mi := mi) hz (fun q => (hE q).1) (fun hh ad H locs ls cl sl hP hl K => ?_)
        have hc : ¬ xcm cd (xti (xdv r xid a)) (xti (xdv r xid (.int 0))) := fun q => by have := (hE hh).2.mpr q; cases this
        rw [(xdv_ad r xid ad a).1] at hc
        simp only [List.map_cons]
        rw [xI_dv hr ad ht]
        exact lv_if_all hx hb hd htg (fun q => absurd q hc) (fun _ => K ls hl)
theorem xs_icmp (G : xCx p R s m args meth c r D dA A H0 mi) {cd : Jvm.ClassFile.Cond} {off : Int} {ln : Nat} {ax : List Nat} (hd : decode (xb mi) pc = .ok (.if_icmp cd off, 3)) (hs : xsp mi pc (.if_icmp cd off, ln, ax) lo st h E k = some res) :
    xR1 p l e R s m args below meth c Q r D dA A H0 n0 z0 ad0 (xm mi) pc lo st h E β k res := by
  obtain ⟨hx, hb, hml, hts, hK, hNw, hown, hr, hA, hin, hRf, hRl, hSc⟩ := G
  simp only [xsp, xhg_eq] at hs
  cases st with
  | nil => cases hs
  | cons b st => cases st with
    | nil => cases hs
    | cons a s' =>
      simp only at hs
      cases ht : (xI a && xI b) with
      | false => simp [ht] at hs
      | true =>
        simp only [ht, cond_true] at hs
        simp only [Bool.and_eq_true] at ht
        obtain ⟨t, htg, hs⟩ := xjp_go hs
        obtain ⟨z, E', hz, hE⟩ := xbr_spec r xid hs
        cases z with
        | true =>
          simp only at hz
          refine xR1_same (mi := mi) hz (fun q => (hE q).1) (fun hh ad H locs ls cl sl hP hl K => ?_)
          have hc := (hE hh).2.mp rfl
          rw [(xdv_ad r xid ad a).1, (xdv_ad r xid ad b).1] at hc
          simp only [List.map_cons]
          rw [xI_dv hr ad ht.1, xI_dv hr ad ht.2]
          exact lv_icmp_all hx hb hd htg (fun _ => K ls hl) (fun hn => absurd hc hn)
        | false =>
          simp only [xfN_eq] at hz
          refine xR1_same (mi := mi) hz (fun q => (hE q).1) (fun hh ad H locs ls cl sl hP hl K => ?_)
          have hc : ¬ xcm cd (xti (xdv r xid a)) (xti (xdv r xid b)) := fun q => by have := (hE hh).2.mpr q; cases this
          rw [(xdv_ad r xid ad a).1, (xdv_ad r xid ad b).1] at hc
          simp only [List.map_cons]
          rw [xI_dv hr ad ht.1, xI_dv hr ad ht.2]
          exact lv_icmp_all hx hb hd htg (fun q => absurd q hc) (fun _ => K ls hl)
end
