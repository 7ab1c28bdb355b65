/-! An evaluator of the bytecode over a small world: heaps as lists of cells, addresses as places in that list, ints as terms over named unknowns. What it says holds of the machine: xev_sound (part 05). -/
abbrev xC : Type := Nat × List Jvm.Term
abbrev xH : Type := List xC
abbrev xL : Type := List (Nat × Jvm.Term)
abbrev xB : Type := Jvm.ClassFile.Cond × Jvm.Term × Jvm.Term × Bool
def xti (v : Value) : Int32 := match v with
  | .int x => x
  | _ => 0
def xtl (v : Value) : Int64 := match v with
  | .long x => x
  | _ => 0
def xtr (v : Value) : Option Nat := match v with
  | .ref a => some a
  | _ => none
def xo2 (o : Binary) (v w : Value) : Value := match o with
  | .iand => .int (xti v &&& xti w)
  | .ior => .int (xti v ||| xti w)
  | .ixor => .int (xti v ^^^ xti w)
  | .ishl => .int (xti v <<< (xti w &&& 31))
  | .ishr => .int (xti v >>> (xti w &&& 31))
  | .iushr => .int ((xti v).toUInt32 >>> ((xti w).toUInt32 &&& Int32.toUInt32 31)).toInt32
  | .ladd => .long (xtl v + xtl w)
  | .lsub => .long (xtl v - xtl w)
  | .land => .long (xtl v &&& xtl w)
  | .lor => .long (xtl v ||| xtl w)
  | .lshl => .long (xtl v <<< ((xti w).toInt64 &&& 63))
  | .lshr => .long (xtl v >>> ((xti w).toInt64 &&& 63))
  | .lushr => .long ((xtl v).toUInt64 >>> ((xti w).toInt64.toUInt64 &&& Int64.toUInt64 63)).toInt64
  | .fcmpl => .int (if xti v < xti w then xti w else xti v)
  | .fcmpg => .int (if xti w < xti v then xti w else xti v)
  | _ => .null
def xo1 (o : Unary) (v : Value) : Value := match o with
  | .ineg => .int (-(xti v))
  | .i2l => .long (xti v).toInt64
  | .l2i => .int (xtl v).toInt32
  | .i2b => .int (xti v).toInt8.toInt32
  | .i2s => .int (xti v).toInt16.toInt32
  | .i2c => .int ((xti v).toUInt32 % 65536).toInt32
  | _ => .null
/-- what a term is: r the unknowns, ad the addresses -/
def xdv (r : Nat → Value) (ad : Nat → Nat) : Jvm.Term → Value
  | .int v => .int v
  | .long v => .long v
  | .index k => .ref (ad k)
  | .arg i => r i
  | .add a b => .int (xti (xdv r ad a) + xti (xdv r ad b))
  | .sub a b => .int (xti (xdv r ad a) - xti (xdv r ad b))
  | .mul a b => .int (xti (xdv r ad a) * xti (xdv r ad b))
  | .div a b => .int (xti (xdv r ad a) / xti (xdv r ad b))
  | .rem a b => .int (xti (xdv r ad a) - xti (xdv r ad a) / xti (xdv r ad b) * xti (xdv r ad b))
  | .op2 o a b => xo2 o (xdv r ad a) (xdv r ad b)
  | .op1 o a => xo1 o (xdv r ad a)
  | _ => .null
/-- unknowns 0 .. 49 and from 200 on are ints, 50 .. 99 longs, others references -/
def xiv (i : Nat) : Bool := Nat.ble i 49 || Nat.ble 200 i
def xRr (r : Nat → Value) : Prop := (∀ i, xiv i = true → ∃ x : Int32, r i = .int x) ∧ (∀ i, xiv i = false → Nat.ble i 99 = true → ∃ x : Int64, r i = .long x) ∧ (∀ i, xiv i = false → Nat.ble i 99 = false → ∃ a : Nat, r i = .ref a)
def xI (t : Jvm.Term) : Bool := match t with
  | .int _ => true
  | .arg i => xiv i
  | .add _ _ => true
  | .sub _ _ => true
  | .mul _ _ => true
  | .div _ _ => true
  | .rem _ _ => true
  | .op2 o _ _ => match o with
    | .iand => true
    | .ior => true
    | .ixor => true
    | .ishl => true
    | .ishr => true
    | .iushr => true
    | .fcmpl => true
    | .fcmpg => true
    | _ => false
  | .op1 o _ => match o with
    | .ineg => true
    | .l2i => true
    | .i2b => true
    | .i2s => true
    | .i2c => true
    | _ => false
  | _ => false
def xG (t : Jvm.Term) : Bool := match t with
  | .long _ => true
  | .arg i => bif xiv i then false else Nat.ble i 99
  | .op2 o _ _ => match o with
    | .ladd => true
    | .lsub => true
    | .land => true
    | .lor => true
    | .lshl => true
    | .lshr => true
    | .lushr => true
    | _ => false
  | .op1 o _ => match o with
    | .i2l => true
    | _ => false
  | _ => false
/-- a reference, or null -/
def xF (t : Jvm.Term) : Bool := match t with
  | .index _ => true
  | .null => true
  | .arg i => bif xiv i then false else (bif Nat.ble i 99 then false else true)
  | _ => false
theorem xI_dv {r : Nat → Value} (hr : xRr r) (ad : Nat → Nat) {t : Jvm.Term} (h : xI t = true) : xdv r ad t = .int (xti (xdv r ad t)) := by
  cases t <;> simp only [xI] at h <;> first | rfl | (exact absurd h (by decide)) | skip
  · obtain ⟨x, hx⟩ := hr.1 _ h
    simp [xdv, hx, xti]
  · rename_i o a b
    cases o <;> first | rfl | (exact absurd h (by decide))
  · rename_i o a
    cases o <;> first | rfl | (exact absurd h (by decide))
theorem xG_dv {r : Nat → Value} (hr : xRr r) (ad : Nat → Nat) {t : Jvm.Term} (h : xG t = true) : xdv r ad t = .long (xtl (xdv r ad t)) := by
  cases t <;> simp only [xG] at h <;> first | rfl | (exact absurd h (by decide)) | skip
  · rename_i i
    cases hi : xiv i with
    | true => simp [hi] at h
    | false =>
      rw [hi] at h
      obtain ⟨x, hx⟩ := hr.2.1 _ hi h
      simp [xdv, hx, xtl]
  · rename_i o a b
    cases o <;> first | rfl | (exact absurd h (by decide))
  · rename_i o a
    cases o <;> first | rfl | (exact absurd h (by decide))
theorem xF_dv {r : Nat → Value} (hr : xRr r) (ad : Nat → Nat) {t : Jvm.Term} (h : xF t = true) : xdv r ad t = va_rf (xtr (xdv r ad t)) := by
  cases t <;> simp only [xF] at h <;> first | rfl | (exact absurd h (by decide)) | skip
  · rename_i i
    cases h0 : xiv i with
    | true => simp [h0] at h
    | false =>
    cases hi : Nat.ble i 99 with
    | true => simp [h0, hi] at h
    | false =>
      obtain ⟨x, hx⟩ := hr.2.2 _ h0 hi
      simp [xdv, hx, xtr, va_rf]
/-- not a long: one slot -/
theorem xcat {r : Nat → Value} (hr : xRr r) (ad : Nat → Nat) {t : Jvm.Term} (h : xG t = false) : (xdv r ad t).category = 1 := by
  cases t <;> simp only [xG] at h <;> first | rfl | (exact absurd h (by decide)) | skip
  · rename_i i
    cases hi : xiv i with
    | true =>
      obtain ⟨x, hx⟩ := hr.1 _ hi
      simp [xdv, hx, Value.category]
    | false =>
      rw [hi] at h
      obtain ⟨x, hx⟩ := hr.2.2 _ hi h
      simp [xdv, hx, Value.category]
  · rename_i o a b
    cases o <;> first | rfl | (exact absurd h (by decide))
  · rename_i o a
    cases o <;> first | rfl | (exact absurd h (by decide))
/-- ints and longs don't hang on addresses -/
theorem xdv_ad (r : Nat → Value) (ad ad' : Nat → Nat) (t : Jvm.Term) : xti (xdv r ad t) = xti (xdv r ad' t) ∧ xtl (xdv r ad t) = xtl (xdv r ad' t) := by
  induction t with
  | add a b ha hb => simp only [xdv, ha.1, hb.1, and_self]
  | sub a b ha hb => simp only [xdv, ha.1, hb.1, and_self]
  | mul a b ha hb => simp only [xdv, ha.1, hb.1, and_self]
  | div a b ha hb => simp only [xdv, ha.1, hb.1, and_self]
  | rem a b ha hb => simp only [xdv, ha.1, hb.1, and_self]
  | op2 o a b ha hb => cases o <;> simp only [xdv, xo2, ha.1, hb.1, ha.2, hb.2, and_self]
  | op1 o a ha => cases o <;> simp only [xdv, xo1, ha.1, ha.2, and_self]
  | _ => exact ⟨rfl, rfl⟩
-- ===== cells, worlds
def xcv (r : Nat → Value) (ad : Nat → Nat) (dA : Nat → ClassId) (c : xC) : va_E := match Nat.ble 20 c.1 with
  | false => .inr (c.1, c.2.map (xdv r ad))
  | true => .inl (dA (c.1 - 20), c.2.length, match Nat.beq c.1 20 with
    | true => .inl (fun j => xti (xdv r ad (c.2.getD j (.int 0))))
    | false => .inr (.inr (.inr (.inr (fun j => xtr (xdv r ad (c.2.getD j .null)))))))
def xwv (r : Nat → Value) (ad : Nat → Nat) (dA : Nat → ClassId) (h : xH) : va_W := h.mapIdx (fun i c => (ad i, xcv r ad dA c))
def xhz (h : xH) : Nat := (h.map (fun c => c.2.length)).sum
theorem xwv_at {r : Nat → Value} {ad : Nat → Nat} {dA : Nat → ClassId} {h : xH} {i : Nat} {c : xC} (e : h[i]? = some c) : (xwv r ad dA h)[i]? = some (ad i, xcv r ad dA c) := by
  rw [xwv, List.getElem?_mapIdx, e]; rfl
theorem xwv_set {r : Nat → Value} {ad : Nat → Nat} {dA : Nat → ClassId} {h : xH} {i : Nat} {c c' : xC} (e : h[i]? = some c) : (xwv r ad dA h).set i (ad i, xcv r ad dA c') = xwv r ad dA (h.set i c') := by
  apply List.ext_getElem?
  intro j
  have hi : i < h.length := (List.getElem?_eq_some_iff.mp e).1
  have hi2 : i < (xwv r ad dA h).length := by simpa [xwv] using hi
  by_cases hj : j = i
  · subst hj
    rw [List.getElem?_set_self hi2, xwv_at (c := c') (List.getElem?_set_self hi)]
  · rw [List.getElem?_set_ne (fun q => hj q.symm), xwv, List.getElem?_mapIdx, xwv, List.getElem?_mapIdx, List.getElem?_set_ne (fun q => hj q.symm)]
theorem xdv_congr {r : Nat → Value} {ad ad' : Nat → Nat} {n : Nat} (hag : ∀ i, i < n → ad i = ad' i) : ∀ (t : Jvm.Term), (∀ k, t = .index k → k < n) → xdv r ad t = xdv r ad' t := by
  intro t ht
  have key := xdv_ad r ad ad'
  cases t with
  | index k => simp only [xdv]; rw [hag k (ht k rfl)]
  | add a b => simp only [xdv]; rw [(key a).1, (key b).1]
  | sub a b => simp only [xdv]; rw [(key a).1, (key b).1]
  | mul a b => simp only [xdv]; rw [(key a).1, (key b).1]
  | div a b => simp only [xdv]; rw [(key a).1, (key b).1]
  | rem a b => simp only [xdv]; rw [(key a).1, (key b).1]
  | op2 o a b => cases o <;> simp only [xdv, xo2] <;> simp only [(key a).1, (key b).1, (key a).2, (key b).2]
  | op1 o a => cases o <;> simp only [xdv, xo1] <;> simp only [(key a).1, (key a).2]
  | _ => rfl
def xidx (n : Nat) (t : Jvm.Term) : Bool := match t with
  | .index k => Nat.ble (k + 1) n
  | _ => true
theorem xidx_lt {n : Nat} {t : Jvm.Term} (h : xidx n t = true) : ∀ k, t = .index k → k < n := by
  intro k e
  subst e
  exact Nat.le_of_ble_eq_true h
def xokc (n : Nat) (c : xC) : Bool := match Nat.beq c.1 20 with
  | true => true
  | false => c.2.all (xidx n)
def xok (n : Nat) (lo : xL) (st : List Jvm.Term) : Bool := (lo.all (fun q => xidx n q.2)) && (st.all (xidx n))
/-- a heap's own references stay within it -/
def xhw (h : xH) : Prop := h.all (xokc h.length) = true
theorem xidx_up {n m : Nat} (hn : n ≤ m) {t : Jvm.Term} (h : xidx n t = true) : xidx m t = true := by
  cases t <;> first | rfl | skip
  exact Nat.ble_eq_true_of_le (Nat.le_trans (Nat.le_of_ble_eq_true h) hn)
theorem xokc_up {n m : Nat} (hn : n ≤ m) {c : xC} (h : xokc n c = true) : xokc m c = true := by
  unfold xokc at h ⊢
  split at h
  · rfl
  · exact List.all_eq_true.mpr (fun t ht => xidx_up hn (List.all_eq_true.mp h t ht))
theorem xhw_app {h : xH} {c : xC} (hw : xhw h) (hc : xokc h.length c = true) : xhw (h ++ [c]) := by
  unfold xhw at hw ⊢
  rw [List.length_append]
  refine List.all_eq_true.mpr (fun d hd => ?_)
  rcases List.mem_append.mp hd with q | q
  · exact xokc_up (by omega) (List.all_eq_true.mp hw d q)
  · rw [List.mem_singleton.mp q]
    exact xokc_up (by omega) hc
theorem xhw_set {h : xH} {a : Nat} {c : xC} (hw : xhw h) (hc : xokc h.length c = true) : xhw (h.set a c) := by
  unfold xhw at hw ⊢
  rw [List.length_set]
  refine List.all_eq_true.mpr (fun d hd => ?_)
  rcases List.mem_or_eq_of_mem_set hd with q | q
  · exact List.all_eq_true.mp hw d q
  · rw [q]; exact hc
theorem xokc_20 {n : Nat} {l : List Jvm.Term} : xokc n (20, l) = true := rfl
theorem xokc_all {n k : Nat} {l : List Jvm.Term} (h : l.all (xidx n) = true) : xokc n (k, l) = true := by
  unfold xokc
  split
  · rfl
  · exact h
/-- a cell with one more reference -/
theorem xokc_set {h : xH} {a j : Nat} {c : xC} {t : Jvm.Term} (hw : xhw h) (hc : h[a]? = some c) (ht : xidx h.length t = true) : xokc h.length (c.1, c.2.set j t) = true := by
  have h1 := List.all_eq_true.mp hw c (List.mem_of_getElem? hc)
  unfold xokc at h1 ⊢
  split at h1
  · rename_i e
    simp only [e]
  · rename_i e
    simp only [e]
    refine List.all_eq_true.mpr (fun d hd => ?_)
    rcases List.mem_or_eq_of_mem_set hd with q | q
    · exact List.all_eq_true.mp h1 d q
    · rw [q]; exact ht
/-- one more address -/
def xup (ad : Nat → Nat) (n q : Nat) : Nat → Nat := fun i => if i = n then q else ad i
theorem xup_lt {ad : Nat → Nat} {n q : Nat} : ∀ i, i < n → xup ad n q i = ad i := fun i h => if_neg (by omega)
theorem xup_self {ad : Nat → Nat} {n q : Nat} : xup ad n q n = q := if_pos rfl
theorem xcv_up {r : Nat → Value} {ad : Nat → Nat} {dA : Nat → ClassId} {n q : Nat} {c : xC} (h : xokc n c = true) : xcv r (xup ad n q) dA c = xcv r ad dA c := by
  have hd : ∀ t : Jvm.Term, xti (xdv r (xup ad n q) t) = xti (xdv r ad t) := fun t => (xdv_ad r _ _ t).1
  unfold xokc at h
  cases h20 : Nat.beq c.1 20 with
  | true =>
    have e20 : c.1 = 20 := Nat.eq_of_beq_eq_true h20
    have hb : Nat.ble 20 c.1 = true := by rw [e20]; rfl
    unfold xcv
    rw [hb, h20]
    simp only [hd]
  | false =>
    rw [h20] at h
    have hm : ∀ t ∈ c.2, xdv r (xup ad n q) t = xdv r ad t := fun t ht => xdv_congr (n := n) xup_lt t (xidx_lt (List.all_eq_true.mp h t ht))
    unfold xcv
    rw [h20]
    cases hb : Nat.ble 20 c.1 with
    | false =>
      simp only
      rw [List.map_congr_left hm]
    | true =>
      simp only
      have : (fun j => xtr (xdv r (xup ad n q) (c.2.getD j .null))) = fun j => xtr (xdv r ad (c.2.getD j .null)) := by
        funext j
        rw [List.getD_eq_getElem?_getD]
        cases hj : c.2[j]? with
        | none => rfl
        | some t => simp only [Option.getD_some]; rw [hm t (List.mem_of_getElem? hj)]
      rw [this]
theorem xwv_up {r : Nat → Value} {ad : Nat → Nat} {dA : Nat → ClassId} {q : Nat} {h : xH} {c : xC} (hk : xhw h) : xwv r (xup ad h.length q) dA (h ++ [c]) = xwv r ad dA h ++ [(q, xcv r (xup ad h.length q) dA c)] := by
  apply List.ext_getElem?
  intro j
  rw [xwv, List.getElem?_mapIdx]
  by_cases hj : j < h.length
  · rw [List.getElem?_append_left hj, List.getElem?_append_left (by simpa [xwv] using hj), xwv, List.getElem?_mapIdx]
    cases e : h[j]? with
    | none => rfl
    | some d =>
      simp only [Option.map_some]
      rw [xup_lt j hj, xcv_up (List.all_eq_true.mp hk d (List.mem_of_getElem? e))]
  · have hl : (xwv r ad dA h).length = h.length := by simp [xwv]
    rw [List.getElem?_append_right (by omega), List.getElem?_append_right (by omega), hl]
    by_cases e : j = h.length
    · subst e
      simp [xup_self]
    · have : j - h.length ≠ 0 := by omega
      obtain ⟨m, hm⟩ : ∃ m, j - h.length = m + 1 := ⟨j - h.length - 1, by omega⟩
      rw [hm]
      simp
theorem xmap_up {r : Nat → Value} {ad : Nat → Nat} {n q : Nat} {st : List Jvm.Term} (h : st.all (xidx n) = true) : st.map (xdv r (xup ad n q)) = st.map (xdv r ad) :=
  List.map_congr_left (fun t ht => xdv_congr (n := n) xup_lt t (xidx_lt (List.all_eq_true.mp h t ht)))
theorem xlo_up {r : Nat → Value} {ad : Nat → Nat} {n q : Nat} {lo : xL} (h : lo.all (fun q => xidx n q.2) = true) : lo.map (fun z => (z.1, xdv r (xup ad n q) z.2)) = lo.map (fun z => (z.1, xdv r ad z.2)) :=
  List.map_congr_left (fun z hz => by rw [xdv_congr (n := n) xup_lt z.2 (xidx_lt (List.all_eq_true.mp h z hz))])
theorem xhz_app (h : xH) (c : xC) : xhz (h ++ [c]) = xhz h + c.2.length := by simp [xhz]
theorem xhz_set {h : xH} {i : Nat} {c c' : xC} (e : h[i]? = some c) (hl : c'.2.length = c.2.length) : xhz (h.set i c') = xhz h := by
  induction h generalizing i with
  | nil => simp at e
  | cons a t ih =>
    cases i with
    | zero => simp at e; subst e; simp [xhz, hl]
    | succ i =>
      simp only [List.getElem?_cons_succ] at e
      have := ih e
      simp only [xhz, List.set_cons_succ, List.map_cons, List.sum_cons] at this ⊢
      omega
-- ===== forced numbers, terms, lists: what is computed is computed once
def xfN {β : Type} (n : Nat) (k : Nat → β) : β := match n with
  | 0 => k 0
  | m + 1 => k (m + 1)
theorem xfN_eq {β : Type} (n : Nat) (k : Nat → β) : xfN n k = k n := by cases n <;> rfl
def xfT {β : Type} (t : Jvm.Term) (k : Jvm.Term → β) : β := match t with
  | .int v => xfN v.toBitVec.toNat (fun n => k (.int (Int32.ofNat n)))
  | .index j => xfN j (fun n => k (.index n))
  | .add a b => k (.add a b)
  | .sub a b => k (.sub a b)
  | .mul a b => k (.mul a b)
  | .div a b => k (.div a b)
  | .rem a b => k (.rem a b)
  | .op2 o a b => k (.op2 o a b)
  | .op1 o a => k (.op1 o a)
  | .arg i => k (.arg i)
  | .null => k .null
  | .long v => k (.long v)
  | t => k t
theorem xofN (v : Int32) : Int32.ofNat v.toBitVec.toNat = v := by
  apply Int32.toBitVec_inj.mp
  simp
theorem xfT_eq {β : Type} (t : Jvm.Term) (k : Jvm.Term → β) : xfT t k = k t := by
  cases t <;> simp only [xfT, xfN_eq, xofN]
/-- lists are read and written by their recursors: the kernel has them cheapest -/
noncomputable def xhg {α : Type} (l : List α) (n : Nat) : Option α := List.rec (motive := fun _ => Nat → Option α) (fun _ => none) (fun c _ ih n => Nat.rec (motive := fun _ => Option α) (some c) (fun m _ => ih m) n) l n
theorem xhg_eq {α : Type} (l : List α) (n : Nat) : xhg l n = l[n]? := by
  induction l generalizing n with
  | nil => rfl
  | cons a t ih => cases n with
    | zero => rfl
    | succ m => exact (ih m).trans (List.getElem?_cons_succ).symm
noncomputable def xfL {α β : Type} (l : List α) (k : List α → β) : β := List.rec (motive := fun _ => (List α → β) → β) (fun k => k []) (fun a _ ih k => ih (fun t' => k (a :: t'))) l k
theorem xfL_eq {α β : Type} (l : List α) (k : List α → β) : xfL l k = k l := by
  induction l generalizing k with
  | nil => rfl
  | cons a t ih => exact ih _
noncomputable def xst {α β : Type} (l : List α) (i : Nat) (a : α) (k : List α → β) : β := List.rec (motive := fun _ => Nat → (List α → β) → β) (fun _ k => k []) (fun b t ih i k => Nat.rec (motive := fun _ => β) (k (a :: t)) (fun j _ => ih j (fun t' => k (b :: t'))) i) l i k
theorem xst_eq {α β : Type} (l : List α) (i : Nat) (a : α) (k : List α → β) : xst l i a k = k (l.set i a) := by
  induction l generalizing i k with
  | nil => rfl
  | cons b t ih => cases i with
    | zero => rfl
    | succ j => exact ih j _
noncomputable def xap {α β : Type} (l : List α) (a : α) (k : List α → β) : β := List.rec (motive := fun _ => (List α → β) → β) (fun k => k [a]) (fun b _ ih k => ih (fun t' => k (b :: t'))) l k
theorem xap_eq {α β : Type} (l : List α) (a : α) (k : List α → β) : xap l a k = k (l ++ [a]) := by
  induction l generalizing k with
  | nil => rfl
  | cons b t ih => exact ih _
-- ===== locals
def xlk (lo : xL) (i : Nat) : Option Jvm.Term := match lo with
  | [] => none
  | q :: t => match Nat.beq q.1 i with
    | true => some q.2
    | false => xlk t i
theorem xlk_mem {lo : xL} {i : Nat} {t : Jvm.Term} (h : xlk lo i = some t) : (i, t) ∈ lo := by
  induction lo with
  | nil => cases h
  | cons q l ih =>
    obtain ⟨qi, qt⟩ := q
    simp only [xlk] at h
    cases e : Nat.beq qi i with
    | true =>
      rw [e] at h
      have := Nat.eq_of_beq_eq_true e
      cases h
      subst this
      exact List.mem_cons_self
    | false =>
      rw [e] at h
      exact List.mem_cons_of_mem _ (ih h)
theorem xlk_has {r : Nat → Value} {ad : Nat → Nat} {ls : Array Slot} {nL : Nat} {lo : xL} {i : Nat} {t : Jvm.Term} (hl : lv_has ls nL (lo.map (fun q => (q.1, xdv r ad q.2)))) (h : xlk lo i = some t) : ls[i]? = some (.val (xdv r ad t)) :=
  hl.2.2 (i, xdv r ad t) (List.mem_map.mpr ⟨(i, t), xlk_mem h, rfl⟩)
/-- behind a store of one slot -/
def xs1 (lo : xL) (i : Nat) (t : Jvm.Term) : xL := (i, t) :: lo.filter (fun q => !(Nat.beq q.1 i) && !(Nat.beq (q.1 + 1) i && xG q.2))
def xs2 (lo : xL) (i : Nat) (t : Jvm.Term) : xL := (i, t) :: lo.filter (fun q => !(Nat.beq q.1 i) && (!(Nat.beq q.1 (i + 1)) && !(Nat.beq (q.1 + 1) i && xG q.2)))
theorem lv_less {ls : Array Slot} {nL : Nat} {l l' : List (Nat × Value)} (h : lv_has ls nL l) (hs : ∀ q ∈ l', q ∈ l) : lv_has ls nL l' := ⟨h.1, h.2.1, fun q hq => h.2.2 q (hs q hq)⟩
theorem xs1_in {r : Nat → Value} (hr : xRr r) {ad : Nat → Nat} {lo : xL} {i : Nat} {t : Jvm.Term} : ∀ q ∈ (xs1 lo i t).map (fun q => (q.1, xdv r ad q.2)), q ∈ (i, xdv r ad t) :: (lo.map (fun q => (q.1, xdv r ad q.2))).filter (fun q => !(q.1 == i) && !(q.1 + 1 == i && q.2.category == 2)) := by
  intro q hq
  obtain ⟨z, hz, rfl⟩ := List.mem_map.mp hq
  rcases List.mem_cons.mp hz with rfl | hz
  · exact List.mem_cons_self
  · obtain ⟨h1, h2⟩ := List.mem_filter.mp hz
    refine List.mem_cons_of_mem _ (List.mem_filter.mpr ⟨List.mem_map.mpr ⟨z, h1, rfl⟩, ?_⟩)
    simp only [Bool.and_eq_true, Bool.not_eq_true'] at h2 ⊢
    obtain ⟨h2, h3⟩ := h2
    refine ⟨?_, ?_⟩
    · have : z.1 ≠ i := fun e => by rw [e] at h2; simp at h2
      simpa using this
    · cases e : (z.1 + 1 == i) with
      | false => rfl
      | true =>
        have e1 : z.1 + 1 = i := by simpa using e
        have e2 : Nat.beq (z.1 + 1) i = true := by rw [e1]; simp
        rw [e2, Bool.true_and] at h3
        rw [xcat hr ad h3]
        rfl
theorem xs2_in {r : Nat → Value} (hr : xRr r) {ad : Nat → Nat} {lo : xL} {i : Nat} {t : Jvm.Term} : ∀ q ∈ (xs2 lo i t).map (fun q => (q.1, xdv r ad q.2)), q ∈ (i, xdv r ad t) :: (lo.map (fun q => (q.1, xdv r ad q.2))).filter (fun q => !(q.1 == i) && (!(q.1 == i + 1) && !(q.1 + 1 == i && q.2.category == 2))) := by
  intro q hq
  obtain ⟨z, hz, rfl⟩ := List.mem_map.mp hq
  rcases List.mem_cons.mp hz with rfl | hz
  · exact List.mem_cons_self
  · obtain ⟨h1, h2⟩ := List.mem_filter.mp hz
    refine List.mem_cons_of_mem _ (List.mem_filter.mpr ⟨List.mem_map.mpr ⟨z, h1, rfl⟩, ?_⟩)
    simp only [Bool.and_eq_true, Bool.not_eq_true'] at h2 ⊢
    obtain ⟨h2, h4, h3⟩ := h2
    refine ⟨?_, ?_, ?_⟩
    · have : z.1 ≠ i := fun e => by rw [e] at h2; simp at h2
      simpa using this
    · have : z.1 ≠ i + 1 := fun e => by rw [e] at h4; simp at h4
      simpa using this
    · cases e : (z.1 + 1 == i) with
      | false => rfl
      | true =>
        have e1 : z.1 + 1 = i := by simpa using e
        have e2 : Nat.beq (z.1 + 1) i = true := by rw [e1]; simp
        rw [e2, Bool.true_and] at h3
        rw [xcat hr ad h3]
        rfl
