-- ===== abstract values: a linear form, one of these references, or some long
abbrev bV : Type := Option (bF ⊕ List Jvm.Term)
def bga (p : Nat → Int) (v : bV) (t : Jvm.Term) : Prop := match v with
  | none => ∃ x : Int64, t = .long x
  | some (.inl f) => ∃ x : Int32, t = .int x ∧ x.toInt = bfv p f
  | some (.inr l) => t ∈ l ∧ (xF t = true ∧ xidx 354 t = true)
def bvl (n : Nat) (v : bV) : Bool := match v with
  | some (.inl f) => blt n f
  | _ => true
theorem bga_ag {p p' : Nat → Int} {n : Nat} (hag : ∀ v, v < n → p' v = p v) {v : bV} {t : Jvm.Term} (h : bvl n v = true) (g : bga p v t) : bga p' v t := by
  cases v with
  | none => exact g
  | some s =>
    cases s with
    | inl f =>
      obtain ⟨x, h1, h2⟩ := g
      exact ⟨x, h1, by rw [bfv_ag hag h]; exact h2⟩
    | inr l => exact g
/-- is it a long? -/
def bgL (v : bV) : Bool := match v with
  | none => true
  | _ => false
theorem xF_notG {t : Jvm.Term} (h : xF t = true) : xG t = false := by
  cases t <;> first | rfl | (exfalso; revert h; simp [xF]; done) | skip
  rename_i i
  simp only [xF] at h
  simp only [xG]
  cases h1 : xiv i with
  | true => rfl
  | false =>
    rw [h1] at h
    cases h2 : Nat.ble i 99 with
    | true => rw [h2] at h; cases h
    | false => rfl
theorem bga_G {p : Nat → Int} {v : bV} {t : Jvm.Term} (g : bga p v t) : xG t = bgL v := by
  cases v with
  | none => obtain ⟨x, h1⟩ := g; rw [h1]; rfl
  | some s =>
    cases s with
    | inl f => obtain ⟨x, h1, -⟩ := g; rw [h1]; rfl
    | inr l => exact xF_notG g.2.1
theorem bga_x {p : Nat → Int} {v : bV} {t : Jvm.Term} (g : bga p v t) : xidx 354 t = true := by
  rcases v with _ | (f | l)
  · obtain ⟨x, h1⟩ := g; rw [h1]; rfl
  · obtain ⟨x, h1, -⟩ := g; rw [h1]; rfl
  · exact g.2.2
theorem bga_I {p : Nat → Int} {f : bF} {t : Jvm.Term} (g : bga p (some (.inl f)) t) : xI t = true := by
  obtain ⟨x, h1, -⟩ := g
  rw [h1]
  rfl
-- ===== locals, stacks
abbrev bL : Type := List (Nat × bV)
def blL (la : bL) (i : Nat) : Option bV := match la with
  | [] => none
  | q :: t => match Nat.beq q.1 i with
    | true => some q.2
    | false => blL t i
/-- what is known of locals -/
def bLr (p : Nat → Int) (la : bL) (lo : xL) : Prop := ∀ i v, blL la i = some v → ∃ t, xlk lo i = some t ∧ bga p v t
def bSr (p : Nat → Int) (sa : List bV) (st : List Jvm.Term) : Prop := match sa, st with
  | [], [] => True
  | a :: t, b :: u => bga p a b ∧ bSr p t u
  | _, _ => False
def bLl (n : Nat) (la : bL) : Bool := la.all (fun q => bvl n q.2)
def bSl (n : Nat) (sa : List bV) : Bool := sa.all (bvl n)
theorem bSr_ag {p p' : Nat → Int} {n : Nat} (hag : ∀ v, v < n → p' v = p v) : ∀ {sa : List bV} {st : List Jvm.Term}, bSl n sa = true → bSr p sa st → bSr p' sa st := by
  intro sa
  induction sa with
  | nil => intro st _ g; cases st with
    | nil => trivial
    | cons b u => exact g
  | cons a t ih => intro st h g; cases st with
    | nil => exact g
    | cons b u =>
      unfold bSl at h
      simp only [List.all_cons, Bool.and_eq_true] at h
      exact ⟨bga_ag hag h.1 g.1, ih h.2 g.2⟩
theorem blL_ok {p : Nat → Int} {i : Nat} {v : bV} {la : bL} {lo : xL} (g : bLr p la lo) (h : blL la i = some v) : ∃ t, xlk lo i = some t ∧ bga p v t := g i v h
theorem blL_l {n i : Nat} {v : bV} {la : bL} (h : bLl n la = true) (hl : blL la i = some v) : bvl n v = true := by
  induction la with
  | nil => cases hl
  | cons q t ih =>
    unfold bLl at h
    simp only [List.all_cons, Bool.and_eq_true] at h
    simp only [blL] at hl
    cases e : Nat.beq q.1 i with
    | true => rw [e] at hl; cases hl; exact h.1
    | false => rw [e] at hl; exact ih h.2 hl
theorem bLr_ag {p p' : Nat → Int} {n : Nat} (hag : ∀ v, v < n → p' v = p v) {la : bL} {lo : xL} (hl : bLl n la = true) (g : bLr p la lo) : bLr p' la lo := by
  intro i v h
  obtain ⟨t, h1, h2⟩ := g i v h
  exact ⟨t, h1, bga_ag hag (blL_l hl h) h2⟩
/-- may the place k hold a long? -/
def blg (la : bL) (k : Nat) : Bool := match blL la k with
  | some v => bgL v
  | none => true
/-- behind a store -/
def bs1 (la : bL) (i : Nat) (v : bV) : bL := (i, v) :: la.filter (fun q => !(Nat.beq q.1 i) && !(Nat.beq (q.1 + 1) i && blg la q.1))
theorem blL_filter {g : Nat → Bool} {k : Nat} {w : bV} : ∀ {la : bL}, blL (la.filter (fun q => g q.1)) k = some w → blL la k = some w ∧ g k = true := by
  intro la
  induction la with
  | nil => intro h; cases h
  | cons q t ih =>
    intro h
    simp only [List.filter_cons] at h
    by_cases e : g q.1 = true
    · rw [if_pos e] at h
      simp only [blL] at h ⊢
      cases e1 : Nat.beq q.1 k with
      | true =>
        rw [e1] at h
        cases h
        rw [Nat.eq_of_beq_eq_true e1] at e
        exact ⟨rfl, e⟩
      | false =>
        rw [e1] at h
        exact ih h
    · rw [if_neg e] at h
      have k1 := ih h
      simp only [blL]
      cases e1 : Nat.beq q.1 k with
      | true =>
        rw [Nat.eq_of_beq_eq_true e1] at e
        exact absurd k1.2 e
      | false => exact k1
theorem xlk_filter {Q : Nat × Jvm.Term → Bool} {k : Nat} {t : Jvm.Term} : ∀ {lo : xL}, xlk lo k = some t → Q (k, t) = true → xlk (lo.filter Q) k = some t := by
  intro lo
  induction lo with
  | nil => intro h; cases h
  | cons q u ih =>
    intro h hq
    simp only [xlk] at h
    cases e1 : Nat.beq q.1 k with
    | true =>
      rw [e1] at h
      cases h
      have e2 := Nat.eq_of_beq_eq_true e1
      have e3 : Q q = true := by
        obtain ⟨q1, q2⟩ := q
        simp only at e2
        subst e2
        exact hq
      rw [List.filter_cons, if_pos e3]
      simp only [xlk, e1]
    | false =>
      rw [e1] at h
      have k1 := ih h hq
      rw [List.filter_cons]
      split
      · simp only [xlk, e1]
        exact k1
      · exact k1
theorem bs1_ok {p : Nat → Int} {i : Nat} {v : bV} {t : Jvm.Term} (g : bga p v t) {la : bL} {lo : xL} (h : bLr p la lo) : bLr p (bs1 la i v) (xs1 lo i t) := by
  intro k w hw
  unfold bs1 at hw
  unfold xs1
  simp only [blL] at hw
  simp only [xlk]
  cases e : Nat.beq i k with
  | true =>
    rw [e] at hw
    cases hw
    exact ⟨t, rfl, g⟩
  | false =>
    rw [e] at hw
    simp only at hw ⊢
    have k1 := blL_filter (g := fun m => !(Nat.beq m i) && !(Nat.beq (m + 1) i && blg la m)) hw
    obtain ⟨u, u1, u2⟩ := h k w k1.1
    refine ⟨u, xlk_filter u1 ?_, u2⟩
    have k2 := k1.2
    simp only [blg, k1.1, ← bga_G u2] at k2
    exact k2
theorem bs1_l {n i : Nat} {v : bV} {la : bL} (hv : bvl n v = true) (h : bLl n la = true) : bLl n (bs1 la i v) = true := by
  unfold bLl bs1
  simp only [List.all_cons, Bool.and_eq_true]
  refine ⟨hv, List.all_eq_true.mpr (fun q hq => List.all_eq_true.mp h q (List.mem_filter.mp hq).1)⟩
-- ===== the heap: a shape, an interval or references to each place, and what is known better
abbrev bN : Type := (Int × Int) ⊕ List Jvm.Term
abbrev bO : Type := List ((Nat × Nat) × bV)
def bnv (e : bN) (t : Jvm.Term) : Prop := match e with
  | .inl b => ∃ x : Int32, t = .int x ∧ b.1 ≤ x.toInt ∧ x.toInt ≤ b.2
  | .inr l => t ∈ l ∧ (xF t = true ∧ xidx 354 t = true)
def blo (ov : bO) (i j : Nat) : Option bV := match ov with
  | [] => none
  | q :: t => match Nat.beq q.1.1 i && Nat.beq q.1.2 j with
    | true => some q.2
    | false => blo t i j
def bcr (I : Nat → Nat → Option bN) (p : Nat → Int) (ov : bO) (i : Nat) (l : List Jvm.Term) : Prop := ∀ j t, l[j]? = some t → match blo ov i j with
  | some v => bga p v t
  | none => ∃ e, I i j = some e ∧ bnv e t
def bHr (Z : List (Nat × Nat)) (I : Nat → Nat → Option bN) (p : Nat → Int) (ov : bO) (h : xH) : Prop := h.length = Z.length ∧ ∀ i q, Z[i]? = some q → ∃ c, h[i]? = some c ∧ c.1 = q.1 ∧ c.2.length = q.2 ∧ bcr I p ov i c.2
def bOl (n : Nat) (ov : bO) : Bool := ov.all (fun q => bvl n q.2)
theorem blo_l {n i j : Nat} {v : bV} {ov : bO} (h : bOl n ov = true) (hl : blo ov i j = some v) : bvl n v = true := by
  induction ov with
  | nil => cases hl
  | cons q t ih =>
    unfold bOl at h
    simp only [List.all_cons, Bool.and_eq_true] at h
    simp only [blo] at hl
    cases e : (Nat.beq q.1.1 i && Nat.beq q.1.2 j) with
    | true => rw [e] at hl; cases hl; exact h.1
    | false => rw [e] at hl; exact ih h.2 hl
theorem bHr_ag {Z : List (Nat × Nat)} {I : Nat → Nat → Option bN} {p p' : Nat → Int} {n : Nat} (hag : ∀ v, v < n → p' v = p v) {ov : bO} {h : xH} (hl : bOl n ov = true) (g : bHr Z I p ov h) : bHr Z I p' ov h := by
  refine ⟨g.1, fun i q hq => ?_⟩
  obtain ⟨c, c1, c2, c3, c4⟩ := g.2 i q hq
  refine ⟨c, c1, c2, c3, fun j t ht => ?_⟩
  have k := c4 j t ht
  cases e : blo ov i j with
  | none => rw [e] at k; exact k
  | some v => rw [e] at k; exact bga_ag hag (blo_l hl e) k
/-- one place written -/
theorem bHr_put {Z : List (Nat × Nat)} {I : Nat → Nat → Option bN} {p : Nat → Int} {ov : bO} {h : xH} (g : bHr Z I p ov h) {i j : Nat} {c : xC} {v : bV} {t : Jvm.Term} (hc : h[i]? = some c) (hj : j < c.2.length) (hv : bga p v t) : bHr Z I p (((i, j), v) :: ov) (h.set i (c.1, c.2.set j t)) := by
  have hi : i < h.length := (List.getElem?_eq_some_iff.mp hc).1
  refine ⟨by rw [List.length_set]; exact g.1, fun k q hq => ?_⟩
  obtain ⟨c', c1, c2, c3, c4⟩ := g.2 k q hq
  by_cases hk : k = i
  · subst hk
    rw [hc] at c1
    cases c1
    refine ⟨(c.1, c.2.set j t), by rw [List.getElem?_set_self hi], c2, by simpa using c3, fun m u hu => ?_⟩
    simp only [blo]
    by_cases hm : m = j
    · subst hm
      rw [List.getElem?_set_self hj] at hu
      cases hu
      have e1 : (Nat.beq k k && Nat.beq m m) = true := by simp
      rw [e1]
      exact hv
    · have e1 : (Nat.beq k k && Nat.beq j m) = false := by
        have : Nat.beq j m = false := by
          cases e : Nat.beq j m with
          | false => rfl
          | true => exact absurd (Nat.eq_of_beq_eq_true e).symm hm
        rw [this, Bool.and_false]
      rw [e1]
      rw [List.getElem?_set_ne (fun q => hm q.symm)] at hu
      exact c4 m u hu
  · refine ⟨c', by rw [List.getElem?_set_ne (fun q => hk q.symm)]; exact c1, c2, c3, fun m u hu => ?_⟩
    have e1 : (Nat.beq i k && Nat.beq j m) = false := by
      have : Nat.beq i k = false := by
        cases e : Nat.beq i k with
        | false => rfl
        | true => exact absurd (Nat.eq_of_beq_eq_true e).symm hk
      rw [this, Bool.false_and]
    simp only [blo]
    rw [e1]
    exact c4 m u hu
def bre (t u : Jvm.Term) : Bool := match t with
  | .index a => (match u with
    | .index b => Nat.beq a b
    | _ => false)
  | .null => (match u with
    | .null => true
    | _ => false)
  | .arg a => (match u with
    | .arg b => Nat.beq a b
    | _ => false)
  | _ => false
theorem bre_eq {t u : Jvm.Term} (h : bre t u = true) : t = u := by
  unfold bre at h
  split at h
  · split at h
    · rw [Nat.eq_of_beq_eq_true h]
    · cases h
  · split at h
    · rfl
    · cases h
  · split at h
    · rw [Nat.eq_of_beq_eq_true h]
    · cases h
  · cases h
/-- the same references -/
def blq (l m : List Jvm.Term) : Bool := match l, m with
  | [], [] => true
  | a :: t, b :: u => bre a b && blq t u
  | _, _ => false
theorem blq_eq : ∀ {l m : List Jvm.Term}, blq l m = true → l = m := by
  intro l
  induction l with
  | nil => intro m h; cases m with
    | nil => rfl
    | cons b u => cases h
  | cons a t ih => intro m h; cases m with
    | nil => cases h
    | cons b u =>
      simp only [blq, Bool.and_eq_true] at h
      rw [bre_eq h.1, ih h.2]
/-- all of these are among those -/
def bsbs (l m : List Jvm.Term) : Bool := blq l m || l.all (fun t => m.any (fun u => bre t u))
theorem bsbs_ok {l m : List Jvm.Term} {t : Jvm.Term} (h : bsbs l m = true) (ht : t ∈ l) : t ∈ m := by
  simp only [bsbs, Bool.or_eq_true] at h
  rcases h with h | h
  · rw [← blq_eq h]
    exact ht
  · obtain ⟨u, hu, he⟩ := List.any_eq_true.mp (List.all_eq_true.mp h t ht)
    rw [bre_eq he]
    exact hu
/-- what is known better, forgotten: where it keeps the invariant -/
def bkv (G : bE) (e : bN) (v : bV) : Bool := match e with
  | .inl b => (match v with
    | some (.inl f) => (match brg G f with
      | none => false
      | some r => decide (b.1 ≤ r.1) && decide (r.2 ≤ b.2))
    | _ => false)
  | .inr l => (match v with
    | some (.inr l') => bsbs l' l
    | _ => false)
theorem bkv_ok {G : bE} {p : Nat → Int} (hG : bok G p) {e : bN} {v : bV} {t : Jvm.Term} (h : bkv G e v = true) (g : bga p v t) : bnv e t := by
  cases e with
  | inl b =>
    rcases v with _ | (f | l)
    · cases h
    · simp only [bkv] at h
      cases hr : brg G f with
      | none => rw [hr] at h; cases h
      | some r =>
        rw [hr] at h
        simp only [Bool.and_eq_true, decide_eq_true_eq] at h
        obtain ⟨x, h1, h2⟩ := g
        have := brg_ok hG (a := r.1) (b := r.2) hr
        exact ⟨x, h1, by omega, by omega⟩
    · cases h
  | inr l =>
    rcases v with _ | (f | l')
    · cases h
    · cases h
    · simp only [bkv] at h
      exact ⟨bsbs_ok h g.1, g.2⟩
def bkeep (I : Nat → Nat → Option bN) (G : bE) (q : (Nat × Nat) × bV) : Bool := match I q.1.1 q.1.2 with
  | none => false
  | some e => bkv G e q.2
theorem blo_in {ov : bO} {i j : Nat} {v : bV} (h : blo ov i j = some v) : ((i, j), v) ∈ ov := by
  induction ov with
  | nil => cases h
  | cons q t ih =>
    obtain ⟨⟨a, b⟩, w⟩ := q
    simp only [blo] at h
    cases e : (Nat.beq a i && Nat.beq b j) with
    | true =>
      rw [e] at h
      simp only [Bool.and_eq_true] at e
      cases h
      rw [Nat.eq_of_beq_eq_true e.1, Nat.eq_of_beq_eq_true e.2]
      exact List.mem_cons_self
    | false =>
      rw [e] at h
      exact List.mem_cons_of_mem _ (ih h)
/-- all forgotten -/
theorem bHr_drop {Z : List (Nat × Nat)} {I : Nat → Nat → Option bN} {p : Nat → Int} {G : bE} (hG : bok G p) {ov : bO} {h : xH} (hk : ov.all (bkeep I G) = true) (g : bHr Z I p ov h) : bHr Z I p [] h := by
  refine ⟨g.1, fun i q hq => ?_⟩
  obtain ⟨c, c1, c2, c3, c4⟩ := g.2 i q hq
  refine ⟨c, c1, c2, c3, fun j t ht => ?_⟩
  have k := c4 j t ht
  show ∃ e, I i j = some e ∧ bnv e t
  cases e : blo ov i j with
  | none => rw [e] at k; exact k
  | some v =>
    rw [e] at k
    have h1 := List.all_eq_true.mp hk _ (blo_in e)
    unfold bkeep at h1
    simp only at h1
    cases h2 : I i j with
    | none => rw [h2] at h1; cases h1
    | some z =>
      rw [h2] at h1
      exact ⟨z, rfl, bkv_ok hG h1 k⟩
/-- a place read: what is known of it, or a new unknown -/
def brd (I : Nat → Nat → Option bN) (n : Nat) (ov : bO) (i j : Nat) : Option (bV × Option (Int × Int)) := match blo ov i j with
  | some v => some (v, none)
  | none => match I i j with
    | none => none
    | some e => match e with
      | .inl b => some (some (.inl (bvr n)), some b)
      | .inr l => some (some (.inr l), none)
theorem bvr_v {p : Nat → Int} {n : Nat} {x : Int} : bfv (bup p n x) (bvr n) = x := by
  simp only [bfv, bvr, bsm, bup_self]
  omega
