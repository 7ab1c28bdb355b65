-- ===== unknowns renamed: what a loop's turn changes
def xsuT (g : xL) (t : Jvm.Term) : Jvm.Term := match t with
  | .arg i => match xlk g i with
    | some u => u
    | none => .arg i
  | t => t
def xsuH (g : xL) (h : xH) : xH := h.map (fun c => (c.1, c.2.map (xsuT g)))
def xsuL (g : xL) (lo : xL) : xL := lo.map (fun q => (q.1, xsuT g q.2))
def xsuR (g : xL) (r : Nat → Value) : Nat → Value := fun i => match xlk g i with
  | some u => xdv r xid u
  | none => r i
def xsm (t : Jvm.Term) : Bool := match t with
  | .arg _ => true
  | .int _ => true
  | .index _ => true
  | .null => true
  | _ => false
def xsmH (h : xH) : Bool := h.all (fun c => c.2.all xsm)
def xsmL (lo : xL) : Bool := lo.all (fun q => xsm q.2)
/-- ints for the unknowns from a to b -/
def xsok (a b : Nat) (g : xL) : Bool := g.all (fun q => xI q.2 && (Nat.ble a q.1 && Nat.ble q.1 b))
theorem xsok_at {a b : Nat} {g : xL} {i : Nat} {u : Jvm.Term} (hg : xsok a b g = true) (h : xlk g i = some u) : xI u = true ∧ a ≤ i ∧ i ≤ b := by
  have h1 := List.all_eq_true.mp hg _ (xlk_mem h)
  simp only [Bool.and_eq_true] at h1
  exact ⟨h1.1, Nat.le_of_ble_eq_true h1.2.1, Nat.le_of_ble_eq_true h1.2.2⟩
theorem xI_ad {r : Nat → Value} (hr : xRr r) {u : Jvm.Term} (h : xI u = true) (ad ad' : Nat → Nat) : xdv r ad u = xdv r ad' u := by
  rw [xI_dv hr ad h, xI_dv hr ad' h, (xdv_ad r ad ad' u).1]
section
variable {r : Nat → Value} {g : xL} {a b : Nat}
theorem xsuR_ok (hr : xRr r) (hb : b ≤ 48) (hg : xsok a b g = true) : xRr (xsuR g r) := by
  refine ⟨fun i h => ?_, fun i h1 h2 => ?_, fun i h => ?_⟩
  · unfold xsuR
    cases e : xlk g i with
    | none => exact hr.1 i h
    | some u => exact ⟨_, xI_dv hr xid (xsok_at hg e).1⟩
  · unfold xsuR
    cases e : xlk g i with
    | none => exact hr.2.1 i h1 h2
    | some u =>
      have := (xsok_at hg e).2.2
      rw [Nat.ble_eq_true_of_le (show i ≤ 49 by omega)] at h1
      cases h1
  · unfold xsuR
    cases e : xlk g i with
    | none => exact hr.2.2 i h
    | some u =>
      have := (xsok_at hg e).2.2
      rw [Nat.ble_eq_true_of_le (show i ≤ 99 by omega)] at h
      cases h
theorem xsuR_ag (hg : xsok a b g = true) : ∀ i, ¬ (a ≤ i ∧ i ≤ b) → xsuR g r i = r i := by
  intro i h
  unfold xsuR
  cases e : xlk g i with
  | none => rfl
  | some u => exact absurd (xsok_at hg e).2 h
theorem xsuT_dv (hr : xRr r) (hg : xsok a b g = true) (t : Jvm.Term) (hs : xsm t = true) (ad : Nat → Nat) : xdv (xsuR g r) ad t = xdv r ad (xsuT g t) := by
  cases t <;> first | (exfalso; revert hs; simp [xsm]; done) | rfl | skip
  rename_i i
  show xsuR g r i = xdv r ad (xsuT g (.arg i))
  simp only [xsuR, xsuT]
  cases h : xlk g i with
  | none => rfl
  | some u => exact xI_ad hr (xsok_at hg h).1 xid ad
theorem xcv_re {r1 r2 : Nat → Value} {ad : Nat → Nat} {dA : Nat → ClassId} {c : xC} {f : Jvm.Term → Jvm.Term} (f0 : f (.int 0) = .int 0) (fn : f .null = .null) (hm : ∀ t ∈ c.2, xdv r1 ad t = xdv r2 ad (f t)) : xcv r1 ad dA c = xcv r2 ad dA (c.1, c.2.map f) := by
  have k0 : ∀ j, xdv r1 ad (c.2.getD j (.int 0)) = xdv r2 ad ((c.2.map f).getD j (.int 0)) := by
    intro j
    rw [List.getD_eq_getElem?_getD, List.getD_eq_getElem?_getD, List.getElem?_map]
    cases e : c.2[j]? with
    | none => rfl
    | some t => exact hm t (List.mem_of_getElem? e)
  have kn : ∀ j, xdv r1 ad (c.2.getD j .null) = xdv r2 ad ((c.2.map f).getD j .null) := by
    intro j
    rw [List.getD_eq_getElem?_getD, List.getD_eq_getElem?_getD, List.getElem?_map]
    cases e : c.2[j]? with
    | none => rfl
    | some t => exact hm t (List.mem_of_getElem? e)
  have km : (c.2.map f).map (xdv r2 ad) = c.2.map (xdv r1 ad) := by
    rw [List.map_map]
    exact List.map_congr_left (fun t ht => (hm t ht).symm)
  unfold xcv
  simp only [List.length_map, k0, kn, km]
theorem xsuH_wv (hr : xRr r) (hg : xsok a b g = true) {h : xH} (hs : xsmH h = true) (ad : Nat → Nat) (dA : Nat → ClassId) : xwv (xsuR g r) ad dA h = xwv r ad dA (xsuH g h) := by
  apply List.ext_getElem?
  intro j
  rw [xwv, List.getElem?_mapIdx, xwv, List.getElem?_mapIdx, xsuH, List.getElem?_map]
  cases e : h[j]? with
  | none => rfl
  | some c =>
    simp only [Option.map_some]
    rw [xcv_re (f := xsuT g) rfl rfl (fun t ht => xsuT_dv hr hg t (List.all_eq_true.mp (List.all_eq_true.mp hs c (List.mem_of_getElem? e)) t ht) ad)]
theorem xsuH_len {h : xH} : (xsuH g h).length = h.length := by simp [xsuH]
theorem xsuH_hz {h : xH} : xhz (xsuH g h) = xhz h := by simp [xsuH, xhz, List.map_map, Function.comp_def]
theorem xsuH_hw {h : xH} (hw : xhw (xsuH g h)) : xhw h := by
  unfold xhw at hw ⊢
  rw [xsuH_len] at hw
  refine List.all_eq_true.mpr (fun c hc => ?_)
  have h1 := List.all_eq_true.mp hw (c.1, c.2.map (xsuT g)) (List.mem_map.mpr ⟨c, hc, rfl⟩)
  unfold xokc at h1 ⊢
  simp only at h1
  cases h20 : Nat.beq c.1 20 with
  | true => rfl
  | false =>
    rw [h20] at h1
    refine List.all_eq_true.mpr (fun t ht => ?_)
    have h2 := List.all_eq_true.mp h1 (xsuT g t) (List.mem_map.mpr ⟨t, ht, rfl⟩)
    cases t <;> first | rfl | exact h2
end
-- ===== terms without some unknowns
def xno (a b : Nat) : Jvm.Term → Bool
  | .arg i => !(Nat.ble a i && Nat.ble i b)
  | .add s t => xno a b s && xno a b t
  | .sub s t => xno a b s && xno a b t
  | .mul s t => xno a b s && xno a b t
  | .div s t => xno a b s && xno a b t
  | .rem s t => xno a b s && xno a b t
  | .op2 _ s t => xno a b s && xno a b t
  | .op1 _ t => xno a b t
  | _ => true
def xnoH (a b : Nat) (h : xH) : Bool := h.all (fun c => c.2.all (xno a b))
def xnoL (a b : Nat) (lo : xL) : Bool := lo.all (fun q => xno a b q.2)
section
variable {r r' : Nat → Value} {a b : Nat}
theorem xno_dv (hag : ∀ i, ¬ (a ≤ i ∧ i ≤ b) → r' i = r i) (ad : Nat → Nat) : ∀ t, xno a b t = true → xdv r' ad t = xdv r ad t := by
  intro t
  induction t with
  | arg i =>
    intro h
    refine hag i (fun q => ?_)
    simp only [xno, Nat.ble_eq_true_of_le q.1, Nat.ble_eq_true_of_le q.2] at h
    cases h
  | add s t hs ht => intro h; simp only [xno, Bool.and_eq_true] at h; simp only [xdv, hs h.1, ht h.2]
  | sub s t hs ht => intro h; simp only [xno, Bool.and_eq_true] at h; simp only [xdv, hs h.1, ht h.2]
  | mul s t hs ht => intro h; simp only [xno, Bool.and_eq_true] at h; simp only [xdv, hs h.1, ht h.2]
  | div s t hs ht => intro h; simp only [xno, Bool.and_eq_true] at h; simp only [xdv, hs h.1, ht h.2]
  | rem s t hs ht => intro h; simp only [xno, Bool.and_eq_true] at h; simp only [xdv, hs h.1, ht h.2]
  | op2 o s t hs ht => intro h; simp only [xno, Bool.and_eq_true] at h; simp only [xdv, hs h.1, ht h.2]
  | op1 o t ht => intro h; simp only [xno] at h; simp only [xdv, ht h]
  | _ => intro _; rfl
theorem xnoH_wv (hag : ∀ i, ¬ (a ≤ i ∧ i ≤ b) → r' i = r i) {h : xH} (hh : xnoH a b h = true) (ad : Nat → Nat) (dA : Nat → ClassId) : xwv r' ad dA h = xwv r ad dA h := by
  apply List.ext_getElem?
  intro j
  rw [xwv, List.getElem?_mapIdx, xwv, List.getElem?_mapIdx]
  cases e : h[j]? with
  | none => rfl
  | some c =>
    simp only [Option.map_some]
    rw [xcv_re (f := fun t => t) rfl rfl (fun t ht => xno_dv hag ad t (List.all_eq_true.mp (List.all_eq_true.mp hh c (List.mem_of_getElem? e)) t ht)), List.map_id']
theorem xnoL_lo (hag : ∀ i, ¬ (a ≤ i ∧ i ≤ b) → r' i = r i) {lo : xL} (hh : xnoL a b lo = true) (ad : Nat → Nat) : lo.map (fun q => (q.1, xdv r' ad q.2)) = lo.map (fun q => (q.1, xdv r ad q.2)) :=
  List.map_congr_left (fun q hq => by rw [xno_dv hag ad q.2 (List.all_eq_true.mp hh q hq)])
theorem xhold_no (hag : ∀ i, ¬ (a ≤ i ∧ i ≤ b) → r' i = r i) {q : xB} (h1 : xno a b q.2.1 = true) (h2 : xno a b q.2.2.1 = true) (h : xhold r q) : xhold r' q := by
  unfold xhold at h ⊢
  rw [xno_dv hag xid _ h1, xno_dv hag xid _ h2]
  exact h
end
-- ===== stretches between two readings of the unknowns
section
variable {p : Program} {l : Launch} {e : Env} {R : Room} {s : State} {m : MethodId} {args : Array Value} {below : List Frame} {meth : Method} {c : Code} {Q : State → Prop} {D : va_G} {dA : Nat → ClassId} {A : Nat → Prop} {H0 : Heap} {n0 z0 : Nat} {ad0 : Nat → Nat} {nL mi pc a b : Nat} {r r' : Nat → Value} {g lo : xL} {st : List Jvm.Term} {h : xH}
theorem xCf_su (hr : xRr r) (hg : xsok a b g = true) (hh : xsmH h = true) (hl : xsmL lo = true) (C : xCf p l e R s m args below meth c Q (xsuR g r) D dA A H0 n0 z0 ad0 nL pc lo [] h) : xCf p l e R s m args below meth c Q r D dA A H0 n0 z0 ad0 nL pc (xsuL g lo) [] (xsuH g h) := by
  intro hn hz hw ad H locs ls hag hP hD hS hlv
  rw [xsuH_len] at hn
  rw [xsuH_hz] at hz
  rw [← xsuH_wv hr hg hh] at hP hD
  have e1 : (xsuL g lo).map (fun q => (q.1, xdv r ad q.2)) = lo.map (fun q => (q.1, xdv (xsuR g r) ad q.2)) := by
    unfold xsuL
    rw [List.map_map]
    exact List.map_congr_left (fun q hq => by
      show (q.1, xdv r ad (xsuT g q.2)) = _
      rw [xsuT_dv hr hg _ (List.all_eq_true.mp hl q hq)])
  rw [e1] at hlv
  have h1 := C hn hz (xsuH_hw hw) ad H locs ls hag hP hD hS hlv
  rw [xsuH_len, xsuH_hz]
  exact h1
theorem xCf_no (hag : ∀ i, ¬ (a ≤ i ∧ i ≤ b) → r' i = r i) (hh : xnoH a b h = true) (hl : xnoL a b lo = true) (hs : st.all (xno a b) = true) (C : xCf p l e R s m args below meth c Q r D dA A H0 n0 z0 ad0 nL pc lo st h) : xCf p l e R s m args below meth c Q r' D dA A H0 n0 z0 ad0 nL pc lo st h := by
  intro hn hz hw ad H locs ls hg hP hD hS hlv
  rw [xnoH_wv hag hh] at hP hD
  rw [xnoL_lo hag hl] at hlv
  rw [List.map_congr_left (fun t ht => xno_dv hag ad t (List.all_eq_true.mp hs t ht))]
  exact C hn hz hw ad H locs ls hg hP hD hS hlv
theorem xCx_re (G : xCx p R s m args meth c r D dA A H0 mi) (hr : xRr r') (hag : ∀ i, 49 ≤ i → r' i = r i) (hl : mi = xlaw → xSc r' s A H0) : xCx p R s m args meth c r' D dA A H0 mi := by
  obtain ⟨g1, g2, g3, g4, g5, g6, g7, -, g9, g10, g11, g12, -⟩ := G
  exact ⟨g1, g2, g3, g4, g5, ⟨g6.1, g6.2.1, fun j q hq => by rw [hag _ (by omega)]; exact g6.2.2 j q hq⟩, g7, hr, g9, g10, g11, g12, hl⟩
end
def xTr (r r' : Nat → Value) (d mi pc : Nat) (lo : xL) (st : List Jvm.Term) (h : xH) (pc' : Nat) (lo' : xL) (st' : List Jvm.Term) (h' : xH) : Prop :=
  h.length ≤ h'.length ∧ xhz h ≤ xhz h' ∧ ∀ (p : Program) (l : Launch) (e : Env) (R : Room) (s : State) (m : MethodId) (args : Array Value) (below : List Frame) (meth : Method) (c : Code) (Q : State → Prop) (D : va_G) (dA : Nat → ClassId) (A : Nat → Prop) (n0 z0 : Nat) (ad0 : Nat → Nat), xCx p R s m args meth c r D dA A s.heap mi → d + 1 ≤ R.frames → 64 * (d + 1) ≤ R.locals → h'.length - n0 ≤ R.cells → xhz h' - z0 ≤ R.slots → xCf p l e R s m args below meth c Q r' D dA A s.heap n0 z0 ad0 (xm mi) pc' lo' st' h' → xCf p l e R s m args below meth c Q r D dA A s.heap n0 z0 ad0 (xm mi) pc lo st h
section
variable {r r1 r2 : Nat → Value} {d mi pc pc1 pc2 a b : Nat} {lo lo1 lo2 g : xL} {st st1 st2 : List Jvm.Term} {h h1 h2 : xH} {E E1 : List xB} {o : xO}
theorem xTr_go (hT : xTok) (hr : xRr r) {n f : Nat} (hs : xgo n f d mi pc lo st h E = some (pc1, lo1, st1, h1, E1)) (hE : ∀ q ∈ E, xhold r q) : xTr r r d mi pc lo st h pc1 lo1 st1 h1 := by
  have hS := xgo_sound hT hr _ _ _ _ _ _ _ _ _ _ hs
  exact ⟨hS.1, hS.2.1, fun p l e R s m args below meth c Q D dA A n0 z0 ad0 G h1 h2 h3 h4 C => hS.2.2 hE p l e R s m args below meth c Q D dA A n0 z0 ad0 G h1 h2 h3 h4 (fun _ => C)⟩
theorem xTr_su (hr : xRr r) (hg : xsok a b g = true) (hh : xsmH h = true) (hl : xsmL lo = true) : xTr r (xsuR g r) d mi pc (xsuL g lo) [] (xsuH g h) pc lo [] h :=
  ⟨by rw [xsuH_len]; exact Nat.le_refl _, by rw [xsuH_hz]; exact Nat.le_refl _, fun p l e R s m args below meth c Q D dA A n0 z0 ad0 G h1 h2 h3 h4 C => xCf_su hr hg hh hl C⟩
theorem xTr_no (hag : ∀ i, ¬ (a ≤ i ∧ i ≤ b) → r1 i = r i) (hh : xnoH a b h = true) (hl : xnoL a b lo = true) (hs : st.all (xno a b) = true) : xTr r1 r d mi pc lo st h pc lo st h :=
  ⟨Nat.le_refl _, Nat.le_refl _, fun p l e R s m args below meth c Q D dA A n0 z0 ad0 G h1 h2 h3 h4 C => xCf_no hag hh hl hs C⟩
theorem xTr_tt (T1 : xTr r r d mi pc lo st h pc1 lo1 st1 h1) (T2 : xTr r r2 d mi pc1 lo1 st1 h1 pc2 lo2 st2 h2) : xTr r r2 d mi pc lo st h pc2 lo2 st2 h2 :=
  ⟨Nat.le_trans T1.1 T2.1, Nat.le_trans T1.2.1 T2.2.1, fun p l e R s m args below meth c Q D dA A n0 z0 ad0 G f1 f2 f3 f4 C => T1.2.2 p l e R s m args below meth c Q D dA A n0 z0 ad0 G f1 f2 (by have := T2.1; omega) (by have := T2.2.1; omega) (T2.2.2 p l e R s m args below meth c Q D dA A n0 z0 ad0 G f1 f2 f3 f4 C)⟩
/-- with another reading in between, in a method that is not the law -/
theorem xTr_t2 (hmi : mi ≠ xlaw) (hr1 : xRr r1) (hag : ∀ i, 49 ≤ i → r1 i = r i) (T1 : xTr r r1 d mi pc lo st h pc1 lo1 st1 h1) (T2 : xTr r1 r2 d mi pc1 lo1 st1 h1 pc2 lo2 st2 h2) : xTr r r2 d mi pc lo st h pc2 lo2 st2 h2 :=
  ⟨Nat.le_trans T1.1 T2.1, Nat.le_trans T1.2.1 T2.2.1, fun p l e R s m args below meth c Q D dA A n0 z0 ad0 G f1 f2 f3 f4 C => T1.2.2 p l e R s m args below meth c Q D dA A n0 z0 ad0 G f1 f2 (by have := T2.1; omega) (by have := T2.2.1; omega) (T2.2.2 p l e R s m args below meth c Q D dA A n0 z0 ad0 (xCx_re G hr1 hag (fun q => absurd q hmi)) f1 f2 f3 f4 C)⟩
theorem xS1_tr (T : xTr r r d mi pc lo st h pc1 lo1 st1 h1) (hE : ∀ q ∈ E, xhold r q) (S : xS1 r d mi pc1 lo1 st1 h1 E o) : xS1 r d mi pc lo st h [] o :=
  ⟨Nat.le_trans T.1 S.1, Nat.le_trans T.2.1 S.2.1, fun _ p l e R s m args below meth c Q D dA A n0 z0 ad0 G f1 f2 f3 f4 hQ => T.2.2 p l e R s m args below meth c Q D dA A n0 z0 ad0 G f1 f2 (by have := S.1; omega) (by have := S.2.1; omega) (S.2.2 hE p l e R s m args below meth c Q D dA A n0 z0 ad0 G f1 f2 f3 f4 hQ)⟩
/-- an evaluation under another reading, alike in all that is named -/
theorem xS1_no (hmi : mi ≠ xlaw) {v : Option Jvm.Term} {E' : List xB} (hr : xRr r) (hag : ∀ i, ¬ (a ≤ i ∧ i ≤ b) → r1 i = r i) (hb : b ≤ 48) (hh : xnoH a b h = true) (hl : xnoL a b lo = true) (hs : st.all (xno a b) = true) (hv : ∀ t, v = some t → xno a b t = true) (hh1 : xnoH a b h1 = true) (S : xS1 r d mi pc lo st h [] (v, h1, E')) : xS1 r1 d mi pc lo st h [] (v, h1, E') := by
  refine ⟨S.1, S.2.1, fun _ p l e R s m args below meth c Q D dA A n0 z0 ad0 G f1 f2 f3 f4 hQ => ?_⟩
  have G1 := xCx_re G hr (fun i hi => (hag i (by omega)).symm) (fun q => absurd q hmi)
  refine xCf_no hag hh hl hs (S.2.2 (fun q h => absurd h List.not_mem_nil) p l e R s m args below meth c Q D dA A n0 z0 ad0 G1 f1 f2 f3 f4 (fun pcR ad H locs ls k1 k2 k3 k4 k5 k6 k7 => ?_))
  have k := hQ pcR ad H locs ls k1 k2 k3 k4 (by rw [xnoH_wv hag hh1]; exact k5) (by rw [xnoH_wv hag hh1]; exact k6) k7
  cases v with
  | none => exact k
  | some t =>
    simp only [Option.map_some] at k ⊢
    rw [xno_dv hag ad t (hv t rfl)] at k
    exact k
theorem xTr_lo (hs : ∀ q ∈ lo1, q ∈ lo) : xTr r r d mi pc lo st h pc lo1 st h :=
  ⟨Nat.le_refl _, Nat.le_refl _, fun p l e R s m args below meth c Q D dA A n0 z0 ad0 G f1 f2 f3 f4 C hn hz hw ad H locs ls hag hP hD hS hl => C hn hz hw ad H locs ls hag hP hD hS (lv_less hl (fun q hq => by
    obtain ⟨z, hz, rfl⟩ := List.mem_map.mp hq
    exact List.mem_map.mpr ⟨z, hs z hz, rfl⟩))⟩
/-- what is known of locals, among others -/
def xsub (lo' lo : xL) : Bool := lo'.all (fun q => match xlk lo q.1 with
  | some t => xeT q.2 t
  | none => false)
theorem xsub_mem {lo' lo : xL} (h : xsub lo' lo = true) : ∀ q ∈ lo', q ∈ lo := by
  intro q hq
  have h1 := List.all_eq_true.mp h q hq
  cases e : xlk lo q.1 with
  | none => rw [e] at h1; cases h1
  | some t =>
    rw [e] at h1
    have h2 := xlk_mem e
    rw [← xeT_eq h1] at h2
    exact h2
/-- a stretch that ends at a place, with these locals and this heap, an empty stack, all conditions used -/
def xat (z : Option xZ) (pc : Nat) (lo : xL) (st : List Jvm.Term) (h : xH) : Bool := match z with
  | none => false
  | some q => Nat.beq q.1 pc && (xsub lo q.2.1 && (xeL q.2.2.1 st && (xeH q.2.2.2.1 h && (match q.2.2.2.2 with
    | [] => true
    | _ => false))))
theorem xTr_at (hT : xTok) (hr : xRr r) {n f : Nat} (hs : xat (xgo n f d mi pc lo st h E) pc1 lo1 st1 h1 = true) (hE : ∀ q ∈ E, xhold r q) : xTr r r d mi pc lo st h pc1 lo1 st1 h1 := by
  cases ho : xgo n f d mi pc lo st h E with
  | none => rw [ho] at hs; cases hs
  | some z =>
    rw [ho] at hs
    obtain ⟨pz, lz, sz, hz, Ez⟩ := z
    simp only [xat, Bool.and_eq_true] at hs
    obtain ⟨q1, q2, q3, q4, q5⟩ := hs
    have T := xTr_go hT hr ho hE
    rw [Nat.eq_of_beq_eq_true q1, xeL_eq q3, xeH_eq q4] at T
    exact xTr_tt T (xTr_lo (xsub_mem q2))
/-- A LOOP: turns, each a stretch back to its head; P holds of the unknowns ahead of each -/
theorem xloop (hT : xTok) (hmi : mi ≠ xlaw) (hb : b ≤ 48) (hh : xsmH h = true) (hl : xsmL lo = true) (P : Nat → (Nat → Value) → Prop)
    (turn : ∀ k r, xRr r → P (k + 1) r → ∃ n f E g j, xsok a b g = true ∧ xat (xgo n f d mi pc lo [] h E) pc (xsuL g lo) [] (xsuH g h) = true ∧ (∀ q ∈ E, xhold r q) ∧ j ≤ k ∧ P j (xsuR g r)) :
    ∀ k r, xRr r → P k r → ∃ r', xRr r' ∧ (∀ i, ¬ (a ≤ i ∧ i ≤ b) → r' i = r i) ∧ P 0 r' ∧ xTr r r' d mi pc lo [] h pc lo [] h := by
  intro k
  induction k using Nat.strongRecOn with
  | ind k ih =>
  intro r hr hP
  cases k with
  | zero => exact ⟨r, hr, fun _ _ => rfl, hP, Nat.le_refl _, Nat.le_refl _, fun p l e R s m args below meth c Q D dA A n0 z0 ad0 G f1 f2 f3 f4 C => C⟩
  | succ k =>
    obtain ⟨n, f, E, g, j, hg, hgo, hE, hj, hP1⟩ := turn k r hr hP
    have hr1 := xsuR_ok hr hb hg
    have hag1 := xsuR_ag (r := r) hg
    obtain ⟨r', hr', hag', hP0, T⟩ := ih j (by omega) (xsuR g r) hr1 hP1
    refine ⟨r', hr', fun i hi => (hag' i hi).trans (hag1 i hi), hP0, ?_⟩
    exact xTr_tt (xTr_at hT hr hgo hE) (xTr_t2 hmi hr1 (fun i hi => hag1 i (by omega)) (xTr_su hr hg hh hl) T)
/-- a loop with the way to it -/
theorem xlooped (hT : xTok) (hmi : mi ≠ xlaw) (hb : b ≤ 48) (hh : xsmH h = true) (hl : xsmL lo = true) (P : Nat → (Nat → Value) → Prop)
    (turn : ∀ k r, xRr r → P (k + 1) r → ∃ n f E g j, xsok a b g = true ∧ xat (xgo n f d mi pc lo [] h E) pc (xsuL g lo) [] (xsuH g h) = true ∧ (∀ q ∈ E, xhold r q) ∧ j ≤ k ∧ P j (xsuR g r))
    (hr : xRr r) {n f k : Nat} (hg : xsok a b g = true) (hgo : xat (xgo n f d mi pc1 lo1 [] h1 E) pc (xsuL g lo) [] (xsuH g h) = true) (hE : ∀ q ∈ E, xhold r q) (hP : P k (xsuR g r)) (hn1 : xnoH a b h1 = true) (hn2 : xnoL a b lo1 = true) :
    ∃ r', xRr r' ∧ (∀ i, ¬ (a ≤ i ∧ i ≤ b) → r' i = r i) ∧ P 0 r' ∧ xTr r' r' d mi pc1 lo1 [] h1 pc lo [] h := by
  have hr1 := xsuR_ok hr hb hg
  have hag1 := xsuR_ag (r := r) hg
  obtain ⟨r', hr', hag', hP0, T⟩ := xloop hT hmi hb hh hl P turn k (xsuR g r) hr1 hP
  have hag : ∀ i, ¬ (a ≤ i ∧ i ≤ b) → r' i = r i := fun i hi => (hag' i hi).trans (hag1 i hi)
  refine ⟨r', hr', hag, hP0, ?_⟩
  have T1 : xTr r r' d mi pc1 lo1 [] h1 pc lo [] h := xTr_tt (xTr_at hT hr hgo hE) (xTr_t2 hmi hr1 (fun i hi => hag1 i (by omega)) (xTr_su hr hg hh hl) T)
  exact xTr_t2 hmi hr (fun i hi => (hag i (by omega)).symm) (xTr_no hag hn1 hn2 rfl) T1
end
set_option maxHeartbeats 4000000 in
/-- a call by what is known of it -/
theorem xTr_call (hT : xTok) {r : Nat → Value} (hr : xRr r) {d' mi pc idx ln p0 cm a1 b1 d1 a : Nat} {lo : xL} {st as s' : List Jvm.Term} {h : xH} {o1 : xO} {c0 : xC} (hcd : xcd mi pc = some (.invokevirtual idx, ln, [p0, cm, a1, b1, d1])) (htk : xtk (xn cm) st [] = some (as, .index a :: s')) (hc : h[a]? = some c0) (hk : (Nat.beq c0.1 (xo cm) && (Nat.ble c0.1 12 && (Nat.ble (xasz (.index a :: as)) (xm cm) && xcc h.length lo s'))) = true)
    (S : xS1 r d' cm 0 (xal 0 (.index a :: as)) [] h [] o1) (hw1 : xhw o1.2.1) : xTr r r (d' + 1) mi pc lo st h (pc + 3) lo (xpr o1.1 s') o1.2.1 := by
  refine ⟨S.1, S.2.1, fun p l e R s m args below meth c Q D dA A n0 z0 ad0 G hRf hRl hRc hRs K => ?_⟩
  have htk9 := hT mi pc _ hcd
  simp only [xEb, Bool.and_eq_true, decide_eq_true_eq] at htk9
  obtain ⟨hd, hln, hau⟩ := htk9
  obtain ⟨hx, hb, hml, hts, hK, hNw, hown, -, hA, hin, hR1, hR64, -⟩ := id G
  have hd1 : decode (xb mi) pc = .ok (.invokevirtual idx, 3) := by rw [hd, Nat.eq_of_beq_eq_true (show Nat.beq ln _ = true from hln)]; rfl
  simp only [Bool.and_eq_true] at hk
  obtain ⟨k1, k2, k3, k4⟩ := hk
  have hau := (Bool.and_eq_true_iff.mp hau).2
  simp only [Bool.and_eq_true, decide_eq_true_eq] at hau
  obtain ⟨u1, u2, u3, u4, u5, u6⟩ := hau
  obtain ⟨b, hb1, hb2, hb3⟩ := xtk_ok htk
  rw [List.append_nil] at hb1
  subst hb1
  subst hb2
  have m1 := S.1
  have m2 := S.2.1
  intro hn hz hw0 ad H locs ls hag hP hD hS hl
  have hM := xmet hr u6 hw0 S (fun q h => absurd h List.not_mem_nil) k3 l D dA ad H.size
  have hcb := xcb (d := d') (mc := o1.2.1.length - h.length) (ms := xhz o1.2.1 - xhz h) G u1 u6 (hts _ (xw u3 rfl)) (by omega) (by omega)
  have hcc := k4
  simp only [xcc, Bool.and_eq_true] at hcc
  have h6 := Nat.le_of_ble_eq_true hcc.1
  have hsm := xsum hr ad hcc.2.1
  have e1 := Nat.eq_of_beq_eq_true k1
  have e2 := Nat.le_of_ble_eq_true k2
  have he := xwv_at (r := r) (ad := ad) (dA := dA) hc
  rw [xcv_obj (by omega), e1] at he
  have hrc := va_recv hK hP (xcl (xo cm) (by omega)) he
  have hpS := xpreS (av := (.index a :: as).map (xdv r ad)) (r := r) hK hNw hP hD
  have hA1 := va_free hD hS hA (List.range (xwv r ad dA h).length) (wc := xwv r ad dA h) (by apply List.ext_getElem?; intro j; simp only [List.getElem?_map, List.getElem?_range']; by_cases hj : j < (xwv r ad dA h).length <;> simp [hj])
  have hstk : (F0 m pc ls ((as.reverse ++ .index a :: s').map (xdv r ad))).stack = (as.map (xdv r ad)).reverse ++ .ref (ad a) :: s'.map (xdv r ad) := by simp [List.map_append, List.map_reverse, xdv]
  rcases hcb with hcb | hcb
  · exact xbehind (mi := mi) (va_runV (As := as.map (xdv r ad)) ⟨hx, hb, hml, hown, hts⟩ hM ⟨hcb, hts _ (xw u2 rfl), hts _ (xw u4 rfl)⟩ ⟨hpS.1, hrc, hpS.2⟩ rfl (by rw [List.length_map]; exact hb3) hl.1 hstk (lv_room (by omega)) hd1 ⟨by omega, by omega⟩) hS hA1 hA1 hn hz m1 m2 hw1 hag hl k4 K
  · exact xbehind (mi := mi) (va_runVN (As := as.map (xdv r ad)) ⟨hx, hb, hml, hown, hts⟩ hM ⟨hcb, hts _ (xw u2 rfl), hts _ (xw u4 rfl)⟩ ⟨hpS.1, hrc, hpS.2⟩ rfl (by rw [List.length_map]; exact hb3) hl.1 hstk (lv_room (by omega)) hd1 ⟨by omega, by omega⟩) hS hA1 hA1 hn hz m1 m2 hw1 hag hl k4 K
set_option maxHeartbeats 8000000 in
/-- THE LAW, its unknowns beyond the script's first six chosen freely -/
theorem xtop2 {p : Program} {e : Env} {s : State} {m : MethodId} {below : List Frame} {meth : Method} {c : Code} (l : Launch) {b L : Nat} {xs : Nat → Int32} (hL : L ≤ 6) (C0 : lw_At p s m meth c b L xs) (hcov : ∀ sa : Nat → Nat, ∃ (r : Nat → Value) (E : List xB) (o : xO), xRr r ∧ (∀ i, ¬ (6 ≤ i ∧ i ≤ 48) → r i = xrho b L xs sa i) ∧ (∀ q ∈ E, xhold r q) ∧ xS1 r 20 xlaw 18 xlo0 [] xh0 E o ∧ xfin (some o) = true) : W p l e room_1 s m #[Value.ref b] below meth c s.heap [] 0 0 (lw_Z below #[Value.ref b] s) (entryFrame m ([Value.ref b] : List Value).toArray 4) := by
  obtain ⟨dC, dI, dA, sa, hG⟩ := xstart hL C0
  obtain ⟨hx, hb, hr, hml, hown, hts, hX, hbl, hlocks, hgv⟩ := id C0
  obtain ⟨r, E, o, hrr, hag, hE, hS, hf⟩ := hcov sa
  have G := xCx_re hG hrr (fun i hi => hag i (by omega)) (fun _ => by
    refine ⟨b, L, fun j => xti (r j), ?_, ?_, ?_, hbl, Nat.not_le.mpr hbl, by omega, fun j hj => ?_⟩
    · rw [hag 100 (by omega)]; rfl
    · rw [hag 49 (by omega)]; rfl
    · obtain ⟨scr, x1, x2, x3, x4, x5⟩ := hX
      refine ⟨scr, x1, x2, x3, x4, fun j hj => ?_⟩
      have e1 : r j = .int (xs j) := by rw [hag j (by omega)]; exact if_pos (by omega)
      show scr.slots[j]? = some (Value.int (xti (r j)))
      rw [e1]
      exact x5 j hj
    · obtain ⟨x, hx⟩ := hrr.1 j (Nat.ble_eq_true_of_le (by omega))
      show r j = Value.int (xti (r j))
      rw [hx]
      rfl)
  simp only [xfin, Bool.and_eq_true] at hf
  obtain ⟨hf1, hf2, hf3⟩ := hf
  have hf2 := Nat.le_of_ble_eq_true hf2
  have hf3 := Nat.le_of_ble_eq_true hf3
  have hP := xgo_sound xtok hrr _ _ _ _ _ _ _ _ _ _ (xeZ_eq xpre)
  have hl := lv_entry ([.ref b]) (n := 4) (Nat.le_of_ble_eq_true rfl)
  rw [lg_entry_eq]
  have hC := hP.2.2 (fun q h => absurd h List.not_mem_nil) p l e room_1 s m #[Value.ref b] below meth c (lw_Z below #[Value.ref b] s) (dC, dI) dA (fun q => s.heap.size ≤ q) 0 0 (fun _ => 0) G (by show 21 ≤ 2048; decide) (by show 64 * 21 ≤ 84000; decide) (by show _ ≤ 600000; have := hS.1; simp only; omega) (by show _ ≤ 7302250; have := hS.2.1; simp only; omega) (fun _ => hS.2.2 hE p l e room_1 s m #[Value.ref b] below meth c (lw_Z below #[Value.ref b] s) (dC, dI) dA (fun q => s.heap.size ≤ q) 0 0 (fun _ => 0) G (by show 21 ≤ 2048; decide) (by show 64 * 21 ≤ 84000; decide) (by show _ ≤ 600000; omega) (by show _ ≤ 7302250; omega) (by
    intro pcR ad H locs ls hR hn hz hag hP hD hS
    cases hv : o.1 with
    | none => rw [hv] at hf1; cases hf1
    | some t =>
    rw [hv] at hf1
    have ht := xeT_eq hf1
    subst ht
    rw [hv] at hR
    rcases hR with ⟨h, -⟩ | ⟨t, h, -, hd⟩ | ⟨t, h, h2, -⟩
    · cases h
    · refine va_forget (fun q hq => hS.2.2 q hq) (W.widen (k := 600000) (n := 7302250) (by omega) (by omega) ?_)
      exact lw_ret hx hb hr hlocks hd
    · cases h
      exact absurd h2 (by decide)))
  have hx100 : xdv r (fun _ => 0) (.arg 100) = Value.ref b := by
    show r 100 = _
    rw [hag 100 (by omega)]
    rfl
  exact hC (Nat.zero_le _) (Nat.zero_le _) rfl (fun _ => 0) s.heap [] _ (fun i hi => absurd hi (Nat.not_lt_zero i)) (fun k q h => by simp [xwv] at h) ⟨fun i j p q h => by simp [xwv] at h, fun k q h => by simp [xwv] at h⟩ va_S.rf (by
    simp only [List.map_cons, List.map_nil]
    rw [hx100]
    exact hl)
/-- by an evaluation -/
theorem xcov_ev {r : Nat → Value} (hr : xRr r) (h : ∃ (f : Nat) (E : List xB), (∀ q ∈ E, xhold r q) ∧ xfin (xev f 20 xlaw 18 xlo0 [] xh0 E) = true) : ∃ (r' : Nat → Value) (E : List xB) (o : xO), xRr r' ∧ (∀ i, ¬ (6 ≤ i ∧ i ≤ 48) → r' i = r i) ∧ (∀ q ∈ E, xhold r' q) ∧ xS1 r' 20 xlaw 18 xlo0 [] xh0 E o ∧ xfin (some o) = true := by
  obtain ⟨f, E, hE, hf⟩ := h
  cases ho : xev f 20 xlaw 18 xlo0 [] xh0 E with
  | none => rw [ho] at hf; cases hf
  | some o =>
    rw [ho] at hf
    exact ⟨r, E, o, hr, fun _ _ => rfl, hE, xev_sound xtok hr _ _ _ _ _ _ _ _ _ ho, hf⟩
