-- ===== all values that a form may have
def brange (a : Int) (m : Nat) : List Int := match m with
  | 0 => []
  | m + 1 => a :: brange (a + 1) m
theorem brange_mem {m : Nat} : ∀ {a x : Int}, a ≤ x → x < a + m → x ∈ brange a m := by
  induction m with
  | zero => intro a x h1 h2; omega
  | succ m ih =>
    intro a x h1 h2
    simp only [brange, List.mem_cons]
    by_cases e : x = a
    · exact Or.inl e
    · exact Or.inr (ih (by omega) (by omega))
def bps (G : bE) (l : List (Nat × Int)) : Option (List Int) := match l with
  | [] => some [0]
  | q :: t => match bps G t with
    | none => none
    | some ps => match blk G q.1 with
      | none => none
      | some b => some (ps.flatMap (fun s => (brange b.1 (b.2 - b.1 + 1).toNat).map (fun x => q.2 * x + s)))
theorem bps_ok {G : bE} {p : Nat → Int} (hG : bok G p) : ∀ {l : List (Nat × Int)} {ps : List Int}, bps G l = some ps → bsm p l ∈ ps := by
  intro l
  induction l with
  | nil => intro ps h; cases h; exact List.mem_cons_self
  | cons q t ih =>
    intro ps h
    simp only [bps] at h
    cases h1 : bps G t with
    | none => rw [h1] at h; cases h
    | some qs =>
    rw [h1] at h
    simp only at h
    cases h2 : blk G q.1 with
    | none => rw [h2] at h; cases h
    | some b =>
    rw [h2] at h
    cases h
    have hb := hG q.1 b.1 b.2 h2
    exact List.mem_flatMap.mpr ⟨bsm p t, ih h1, List.mem_map.mpr ⟨p q.1, brange_mem hb.1 (by omega), rfl⟩⟩
def bpos (G : bE) (f : bF) : Option (List Int) := match bps G f.2 with
  | none => none
  | some ps => some (ps.map (fun x => f.1 + x))
theorem bpos_ok {G : bE} {p : Nat → Int} (hG : bok G p) {f : bF} {ps : List Int} (h : bpos G f = some ps) : bfv p f ∈ ps := by
  unfold bpos at h
  cases h1 : bps G f.2 with
  | none => rw [h1] at h; cases h
  | some qs =>
    rw [h1] at h
    cases h
    exact List.mem_map.mpr ⟨_, bps_ok hG h1, rfl⟩
-- ===== what a place may hold, between two numbers
def bplc (I : Nat → Nat → Option bN) (G : bE) (ov : bO) (i j : Nat) : Option (Int × Int) := match blo ov i j with
  | some v => (match v with
    | some (.inl f) => brg G f
    | _ => none)
  | none => match I i j with
    | some (.inl b) => some b
    | _ => none
/-- over some places of a cell of n: the hull -/
def bhull (I : Nat → Nat → Option bN) (G : bE) (ov : bO) (i n : Nat) (ps : List Int) : Option (Int × Int) := match ps with
  | [] => some (0, 0)
  | x :: t => match bhull I G ov i n t with
    | none => none
    | some r => match decide (0 ≤ x) && decide (x < (n : Int)) with
      | false => none
      | true => match bplc I G ov i x.toNat with
        | none => none
        | some b => some (match t with
          | [] => b
          | _ => (if b.1 ≤ r.1 then b.1 else r.1, if r.2 ≤ b.2 then b.2 else r.2))
section
variable {Z : List (Nat × Nat)} {I : Nat → Nat → Option bN} {p : Nat → Int} {G : bE} {n : Nat} {la : bL} {sa : List bV} {ov : bO} {lo : xL} {st : List Jvm.Term} {h : xH}
theorem bplc_ok (hG : bok G p) {i j : Nat} {l : List Jvm.Term} {t : Jvm.Term} (hc : bcr I p ov i l) (ht : l[j]? = some t) {b : Int × Int} (hb : bplc I G ov i j = some b) : ∃ x : Int32, t = .int x ∧ b.1 ≤ x.toInt ∧ x.toInt ≤ b.2 := by
  have k := hc j t ht
  unfold bplc at hb
  cases e : blo ov i j with
  | some v =>
    rw [e] at hb k
    simp only at hb
    rcases v with _ | (f | l')
    · cases hb
    · obtain ⟨x, x1, x2⟩ := k
      have := brg_ok hG (a := b.1) (b := b.2) hb
      exact ⟨x, x1, by omega, by omega⟩
    · cases hb
  | none =>
    rw [e] at hb k
    obtain ⟨z, hz, kb⟩ := k
    simp only [hz] at hb
    cases z with
    | inl b0 =>
      cases hb
      exact kb
    | inr l0 => cases hb
theorem bhull_ok (hG : bok G p) {i m : Nat} {l : List Jvm.Term} (hc : bcr I p ov i l) (hl : l.length = m) : ∀ {ps : List Int} {b : Int × Int}, bhull I G ov i m ps = some b → ∀ x ∈ ps, 0 ≤ x ∧ x < (m : Int) ∧ ∃ v : Int32, l[x.toNat]? = some (.int v) ∧ b.1 ≤ v.toInt ∧ v.toInt ≤ b.2 := by
  intro ps
  induction ps with
  | nil => intro b _ x hx; cases hx
  | cons y t ih =>
    intro b h x hx
    simp only [bhull] at h
    cases h1 : bhull I G ov i m t with
    | none => rw [h1] at h; cases h
    | some r =>
    rw [h1] at h
    simp only at h
    cases h2 : (decide (0 ≤ y) && decide (y < (m : Int))) with
    | false => rw [h2] at h; cases h
    | true =>
    rw [h2] at h
    simp only at h
    simp only [Bool.and_eq_true, decide_eq_true_eq] at h2
    cases h3 : bplc I G ov i y.toNat with
    | none => rw [h3] at h; cases h
    | some c =>
    rw [h3] at h
    have hlt : y.toNat < l.length := by omega
    have hy : ∃ v : Int32, l[y.toNat]? = some (.int v) ∧ c.1 ≤ v.toInt ∧ v.toInt ≤ c.2 := by
      obtain ⟨v, v1, v2, v3⟩ := bplc_ok hG hc (List.getElem?_eq_getElem hlt) h3
      exact ⟨v, by rw [List.getElem?_eq_getElem hlt, v1], v2, v3⟩
    have hb1 : b.1 ≤ c.1 ∧ c.2 ≤ b.2 ∧ (t ≠ [] → b.1 ≤ r.1 ∧ r.2 ≤ b.2) := by
      cases t with
      | nil => cases h; exact ⟨Int.le_refl _, Int.le_refl _, fun q => absurd rfl q⟩
      | cons z t' =>
        simp only at h
        cases h
        refine ⟨?_, ?_, fun _ => ⟨?_, ?_⟩⟩
        all_goals simp only
        all_goals split
        all_goals omega
    rcases List.mem_cons.mp hx with rfl | hx
    · obtain ⟨v, v1, v2, v3⟩ := hy
      exact ⟨h2.1, h2.2, v, v1, by omega, by omega⟩
    · obtain ⟨k1, k2, v, v1, v2, v3⟩ := ih h1 x hx
      have := hb1.2.2 (fun q => by rw [q] at hx; cases hx)
      exact ⟨k1, k2, v, v1, by omega, by omega⟩
/-- a place noted, whose value is known -/
theorem bR_note (R : bR Z I p (G, n, la, sa, ov) lo st h) {i j : Nat} {c : xC} {v : bV} {t : Jvm.Term} (hc : h[i]? = some c) (ht : c.2[j]? = some t) (hv : bvl n v = true) (g : bga p v t) : bR Z I p (G, n, la, sa, ((i, j), v) :: ov) lo st h := by
  obtain ⟨r1, r2, r3, r4, r5, r6, r7, r8, r9, rx⟩ := R
  have hj : j < c.2.length := (List.getElem?_eq_some_iff.mp ht).1
  have e1 : c.2.set j t = c.2 := by
    apply List.ext_getElem?
    intro k
    by_cases hk : k = j
    · subst hk
      rw [List.getElem?_set_self hj, ht]
    · rw [List.getElem?_set_ne (fun q => hk q.symm)]
  have e2 : h.set i (c.1, c.2.set j t) = h := by
    rw [e1]
    apply List.ext_getElem?
    intro k
    by_cases hk : k = i
    · subst hk
      rw [List.getElem?_set_self (List.getElem?_eq_some_iff.mp hc).1, hc]
    · rw [List.getElem?_set_ne (fun q => hk q.symm)]
  have k := bHr_put r8 hc hj g
  rw [e2] at k
  refine ⟨r1, r2, r3, r4, ?_, r6, r7, k, r9, rx⟩
  unfold bOl at r5 ⊢
  simp only [List.all_cons, Bool.and_eq_true]
  exact ⟨hv, r5⟩
/-- a cell of this shape is there -/
theorem bR_cell (R : bR Z I p (G, n, la, sa, ov) lo st h) {i : Nat} {z : Nat × Nat} (hz : xhg Z i = some z) : ∃ c, h[i]? = some c ∧ c.1 = z.1 ∧ c.2.length = z.2 ∧ bcr I p ov i c.2 ∧ i < h.length := by
  obtain ⟨r1, r2, r3, r4, r5, r6, r7, r8, r9, rx⟩ := R
  rw [xhg_eq] at hz
  obtain ⟨c, c1, c2, c3, c4⟩ := r8.2 i z hz
  exact ⟨c, c1, c2, c3, c4, (List.getElem?_eq_some_iff.mp c1).1⟩
end
theorem bvr_l {n : Nat} : bvl (n + 1) (some (.inl (bvr n))) = true := by
  simp only [bvl, blt, bvr, List.all_cons, List.all_nil, Bool.and_true]
  exact Nat.ble_eq_true_of_le (Nat.le_refl _)
