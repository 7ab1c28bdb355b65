-- ===== the evaluator and the machine
def xQ (r : Nat → Value) (D : va_G) (dA : Nat → ClassId) (v : Option Jvm.Term) (h h' : xH) (ad : Nat → Nat) (sz : Nat) : Array Value → State → Outcome → State → Prop := fun _ st oc t =>
  (∃ ad' : Nat → Nat, oc = .returned (v.map (xdv r ad')) ∧ (∀ i, i < h.length → ad' i = ad i) ∧ va_P D vwCl (xwv r ad' dA h') t.heap ∧ va_D (va_A (xwv r ad dA h) sz) (xwv r ad' dA h')) ∧ va_F (va_A (xwv r ad dA h) sz) st t
def xB0 (r : Nat → Value) (D : va_G) (dA : Nat → ClassId) (h : xH) (ad : Nat → Nat) (sz : Nat) : State → Prop := fun U => U.heap.size = sz ∧ va_P D vwCl (xwv r ad dA h) U.heap ∧ va_K D vwCl (xtys dA) U ∧ xNw r U ∧ va_D (fun _ => True) (xwv r ad dA h) ∧ xSt r (va_A (xwv r ad dA h) sz) U U.heap
def xroom (d mc ms : Nat) : Room := { frames := d + 1, cells := mc, slots := ms, locals := 64 * (d + 1) }
def xws (mi : Nat) : List Cond := .code (xy mi) (xb mi) (xm mi) (xr mi) :: xU
theorem xNw.moved {r : Nat → Value} {u U : State} (hW : u.WarmedH U.vm) (h : xNw r u) : xNw r U := ⟨fun q hq => va_Nw.warmM hW (h.1 q hq), fun kk h1 h2 => va_AO.moved hW.alike (h.2.1 kk h1 h2), fun j q hq => by
  obtain ⟨a, h1, h2⟩ := h.2.2.1 j q hq
  exact ⟨a, h1, vk_R.warm hW h2⟩, fun q hq z hz => va_Nw.warmF hW (h.2.2.2 q hq z hz)⟩
theorem xNw.same {r : Nat → Value} {u U : State} (hv : u.vm = U.vm) (h : xNw r u) : xNw r U := ⟨fun q hq => va_Nw.same rfl hv (h.1 q hq), fun kk h1 h2 => va_AO.moved (by rw [hv]; exact Vm.Alike.refl _) (h.2.1 kk h1 h2), fun j q hq => by
  obtain ⟨a, h1, h2⟩ := h.2.2.1 j q hq
  exact ⟨a, h1, vk_R.same hv.symm h2⟩, fun q hq z hz => va_Nw.same rfl hv (h.2.2.2 q hq z hz)⟩
theorem xwsU (hg : xU.all goodWord = true) (mi : Nat) : GoodIn xU xU := goodIn_sub (fun _ h => h) hg
theorem xtk_ok {n : Nat} {st acc as s' : List Jvm.Term} (h : xtk n st acc = some (as, s')) : ∃ b : List Jvm.Term, as = b ++ acc ∧ st = b.reverse ++ s' ∧ b.length = n := by
  induction n generalizing st acc with
  | zero =>
    simp only [xtk] at h
    cases h
    exact ⟨[], rfl, rfl, rfl⟩
  | succ n ih =>
    cases st with
    | nil => cases h
    | cons t st =>
      simp only [xtk] at h
      obtain ⟨b, h1, h2, h3⟩ := ih h
      refine ⟨b ++ [t], by rw [h1]; simp, by rw [h2]; simp, by simp [h3]⟩
theorem xal_args {r : Nat → Value} (hr : xRr r) (ad : Nat → Nat) (as : List Jvm.Term) (i : Nat) : (xal i as).map (fun q => (q.1, xdv r ad q.2)) = lv_args i (as.map (xdv r ad)) := by
  induction as generalizing i with
  | nil => rfl
  | cons t as ih =>
    simp only [xal, List.map_cons, lv_args]
    cases hg : xG t with
    | true =>
      have hc : (xdv r ad t).category = 2 := by rw [xG_dv hr ad hg]; rfl
      rw [if_pos hc, ih]
      rfl
    | false =>
      have hc : ¬ (xdv r ad t).category = 2 := by rw [xcat hr ad hg]; decide
      rw [if_neg hc, ih]
      rfl
theorem xasz_lg {r : Nat → Value} (hr : xRr r) (ad : Nat → Nat) (as : List Jvm.Term) : (lg_sl (as.map (xdv r ad))).length = xasz as := by
  induction as with
  | nil => rfl
  | cons t as ih =>
    simp only [lg_sl, List.map_cons, List.flatMap_cons, List.length_append] at ih ⊢
    rw [ih]
    cases hg : xG t with
    | true =>
      have hc : (xdv r ad t).category = 2 := by rw [xG_dv hr ad hg]; rfl
      rw [if_pos hc]
      simp [xasz, hg]
    | false =>
      have hc : ¬ (xdv r ad t).category = 2 := by rw [xcat hr ad hg]; decide
      rw [if_neg hc]
      simp [xasz, hg]
section
variable {p : Program} {l : Launch} {e : Env} {R : Room} {s : State} {m : MethodId} {args : Array Value} {below : List Frame} {meth : Method} {c : Code} {Q : State → Prop} {r : Nat → Value} {D : va_G} {dA : Nat → ClassId} {A : Nat → Prop}
theorem xcont {H : Heap} {locs : List Loc} {cells slots mc ms pc : Nat} {ls : Array Slot} {st0 rest : List Value} {v : Option Jvm.Term} {h h1 : xH} {ad : Nat → Nat} {a : Array Value} {free : Addr → Prop}
    (hr : va_Run p l e R s m args below meth c H locs cells slots mc ms (F0 m pc ls st0) rest (xQ r D dA v h h1 ad H.size a) free) (hS : va_S A s.heap H locs) (hA1 : ∀ q, va_A (xwv r ad dA h) H.size q → A q) (hf : ∀ q, free q → A q)
    (kk : ∀ (ad' : Nat → Nat) (H1 : Heap) (locs1 : List Loc), (∀ i, i < h.length → ad' i = ad i) → va_P D vwCl (xwv r ad' dA h1) H1 → va_D A (xwv r ad' dA h1) → va_S A s.heap H1 locs1 → W p l e R s m args below meth c H1 locs1 (cells + mc) (slots + ms) Q (F0 m (pc + 3) ls ((v.map (xdv r ad')).toList ++ rest))) : W p l e R s m args below meth c H locs cells slots Q (F0 m pc ls st0) := by
  intro T hT X
  obtain ⟨v', st₀, t, T', L, h0, X', hL, e1, e2, ⟨⟨ad', hv, hag, hP, hD⟩, hz, hk⟩, st⟩ := hr T hT X
  cases hv
  rw [h0] at hz hk
  obtain ⟨t2, a1, b1⟩ := kk ad' T'.heap (locs ++ L) hag (by rw [e1]; exact hP) (hD.weaken (fun _ q _ z => hA1 q.1 z))
    ⟨Nat.le_trans hS.1 (by rw [e1]; exact hz), fun q h1 h2 => by rw [e1, hk q (Nat.lt_of_lt_of_le h1 hS.1) (fun z => h2 (hA1 q z))]; exact hS.2.1 q h1 h2, fun q hq => by
      rcases List.mem_append.mp hq with h | h
      · exact hS.2.2 q h
      · exact hf _ (hL q h)⟩ T' rfl X'
  exact ⟨t2, st t2 a1, b1⟩
end
/-- the instruction with which a method of this answer ends -/
def xRt (mi pc : Nat) (v : Option Jvm.Term) : Prop := (v = none ∧ xr mi = none ∧ decode (xb mi) pc = .ok (.return_, 1)) ∨ (∃ t, v = some t ∧ xrt (xr mi) t = true ∧ decode (xb mi) pc = .ok (.ireturn, 1)) ∨ (∃ t, v = some t ∧ xrr (xr mi) t = true ∧ decode (xb mi) pc = .ok (.areturn, 1))
/-- what an evaluation says, at the level of a method's body -/
def xS1 (r : Nat → Value) (d mi pc : Nat) (lo : xL) (st : List Jvm.Term) (h : xH) (E : List xB) (o : xO) : Prop :=
  h.length ≤ o.2.1.length ∧ xhz h ≤ xhz o.2.1 ∧ ((∀ q ∈ E, xhold r q) → ∀ (p : Program) (l : Launch) (e : Env) (R : Room) (s : State) (m : MethodId) (args : Array Value) (below : List Frame) (meth : Method) (c : Code) (Q : State → Prop) (D : va_G) (dA : Nat → ClassId) (A : Nat → Prop) (n0 z0 : Nat) (ad0 : Nat → Nat), xCx p R s m args meth c r D dA A s.heap mi → d + 1 ≤ R.frames → 64 * (d + 1) ≤ R.locals → o.2.1.length - n0 ≤ R.cells → xhz o.2.1 - z0 ≤ R.slots →
    (∀ (pcR : Nat) (ad : Nat → Nat) (H : Heap) (locs : List Loc) (ls : Array Slot), xRt mi pcR o.1 → n0 ≤ o.2.1.length → z0 ≤ xhz o.2.1 → (∀ i, i < n0 → ad i = ad0 i) → va_P D vwCl (xwv r ad dA o.2.1) H → va_D A (xwv r ad dA o.2.1) → va_S A s.heap H locs → W p l e R s m args below meth c H locs (o.2.1.length - n0) (xhz o.2.1 - z0) Q (F0 m pcR ls ((o.1.map (xdv r ad)).toList))) →
    xCf p l e R s m args below meth c Q r D dA A s.heap n0 z0 ad0 (xm mi) pc lo st h)
theorem xrt_ok {r : Nat → Value} (hr : xRr r) {rt : Option FieldType} {t : Jvm.Term} (h : xrt rt t = true) : ∃ ty, rt = some ty ∧ ∀ ad, ∃ v : Int32, xdv r ad t = .int v ∧ narrow ty (.int v) = .int v := by
  unfold xrt at h
  split at h
  · exact ⟨.int, rfl, fun ad => ⟨_, xI_dv hr ad h, rfl⟩⟩
  · split at h
    · rename_i v hv
      refine ⟨.boolean, rfl, fun ad => ⟨v, by rw [xlit_eq hv]; rfl, ?_⟩⟩
      simp only [Bool.or_eq_true, decide_eq_true_eq] at h
      rcases h with rfl | rfl <;> rfl
    · cases h
  · cases h
theorem xrr_ok {r : Nat → Value} (hr : xRr r) {rt : Option FieldType} {t : Jvm.Term} (h : xrr rt t = true) : ∃ ty, rt = some ty ∧ ((∃ n, ty = .object n) ∨ ∃ t, ty = .array t) ∧ ∀ ad, (xdv r ad t = .null ∨ ∃ a, xdv r ad t = .ref a) := by
  have key : xF t = true → ∀ ad, (xdv r ad t = .null ∨ ∃ a, xdv r ad t = .ref a) := by
    intro h ad
    rw [xF_dv hr ad h]
    cases xtr (xdv r ad t) with
    | none => exact Or.inl rfl
    | some a => exact Or.inr ⟨a, rfl⟩
  unfold xrr at h
  split at h
  · exact ⟨_, rfl, Or.inl ⟨_, rfl⟩, key h⟩
  · exact ⟨_, rfl, Or.inr ⟨_, rfl⟩, key h⟩
  · cases h
/-- a method's contract out of its body's -/
theorem xmet {r : Nat → Value} (hr : xRr r) {d mi : Nat} {as : List Jvm.Term} {h : xH} {E : List xB} {o : xO} (hmi : xmok mi = true) (hw : xhw h) (hs : xS1 r d mi 0 (xal 0 as) [] h E o) (hE : ∀ q ∈ E, xhold r q) (hz : Nat.ble (xasz as) (xm mi) = true) (l : Launch) (D : va_G) (dA : Nat → ClassId) (ad : Nat → Nat) (sz : Nat) :
    Met l (xy mi) (xws mi) (xroom d (o.2.1.length - h.length) (xhz o.2.1 - xhz h)) (va_Pc (as.map (xdv r ad)) (xB0 r D dA h ad sz)) (xQ r D dA o.1 h o.2.1 ad sz) (o.2.1.length - h.length) (xhz o.2.1 - xhz h) (va_A (xwv r ad dA h) sz) := by
  simp only [xmok, Bool.and_eq_true, decide_eq_true_eq] at hmi
  obtain ⟨hcw, hpl, hn1, hn2, hn3, hml20, hcl, hlw⟩ := hmi
  have hlw := Nat.le_of_ble_eq_true hlw
  refine Met.ofW (cc := xb mi) (maxL := xm mi) (ret := xr mi) hpl rfl ?_
  intro p e s m args below meth c s₁ B hml hv
  obtain ⟨rfl, hsz, hP, hK, hNw, hD0, hSt⟩ := hv
  have hts := atoms_spec (ws := xws mi) B.pre
  have hown : s.vm.findClass (xRn (xo mi)) = some m.cls := by rw [← hcl]; exact findClass_of_methodNamed B.named
  have hlk := B.notSynchronized
  have hret := B.returns
  subst hsz
  have G : xCx p (xroom d (o.2.1.length - h.length) (xhz o.2.1 - xhz h)) s m (as.map (xdv r ad)).toArray meth c r D dA (va_A (xwv r ad dA h) s.heap.size) s.heap mi :=
    ⟨B.exec, B.bytes, hml, fun w hw => hts w (List.mem_cons_of_mem _ hw), hK, hNw, hown, hr, fun q hq => Or.inr hq, fun h => by rw [(name_of_methodNamed B.named B.method).1]; simpa [xisInit] using h, by show 1 ≤ d + 1; omega, by show 64 ≤ 64 * (d + 1); omega, ⟨fun q => absurd hlw (by rw [q]; omega), hSt, rfl⟩⟩
  have hC := hs.2.2 hE p l e _ s m (as.map (xdv r ad)).toArray below meth c (MQ below (xQ r D dA o.1 h o.2.1 ad s.heap.size) (as.map (xdv r ad)).toArray s (o.2.1.length - h.length) (xhz o.2.1 - xhz h) (va_A (xwv r ad dA h) s.heap.size)) D dA _ h.length (xhz h) ad G (Nat.le_refl _) (Nat.le_refl _) (Nat.le_refl _) (Nat.le_refl _) (by
    intro pcR ad1 H locs ls hR hn hz hag hP hD hS
    rcases hR with ⟨hv, h1, hd⟩ | ⟨t, hv, ht, hd⟩ | ⟨t, hv, ht, hd⟩
    · rw [hv]
      exact W.vret B.exec B.bytes (by rw [hret, h1]) (fun t ht hW => ⟨⟨ad1, rfl, hag, by rw [ht]; exact hP, hD⟩, hS.F ht⟩) hS.2.2 hd hlk
    · rw [hv]
      obtain ⟨ty, hty, hv⟩ := xrt_ok hr ht
      obtain ⟨v, hv, hnv⟩ := hv ad1
      simp only [Option.map_some, Option.toList_some]
      rw [hv]
      exact W.zret B.exec B.bytes (by rw [hret, hty]) hnv (fun t ht hW => ⟨⟨ad1, by rw [Option.map_some, hv], hag, by rw [ht]; exact hP, hD⟩, hS.F ht⟩) hS.2.2 hd hlk
    · rw [hv]
      obtain ⟨ty, hty, hv1, hv2⟩ := xrr_ok hr ht
      simp only [Option.map_some, Option.toList_some]
      exact W.aret B.exec B.bytes (by rw [hret, hty]) hv1 (hv2 ad1) (fun t ht hW => ⟨⟨ad1, rfl, hag, by rw [ht]; exact hP, hD⟩, hS.F ht⟩) hS.2.2 hd hlk)
  have hl := lv_entry (as.map (xdv r ad)) (n := xm mi) (by rw [xasz_lg hr]; exact Nat.le_of_ble_eq_true hz)
  rw [lg_entry_eq]
  rw [← xal_args hr ad as 0] at hl
  have hW := hC (Nat.le_refl _) (Nat.le_refl _) hw ad s.heap [] _ (fun _ _ => rfl) hP hD0.self va_S.rf hl
  rw [Nat.sub_self, Nat.sub_self] at hW
  exact hW
