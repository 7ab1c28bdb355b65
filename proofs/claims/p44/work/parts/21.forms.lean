-- ===== linear forms over unknown numbers
abbrev bF : Type := Int × List (Nat × Int)
def bsm (p : Nat → Int) (l : List (Nat × Int)) : Int := match l with
  | [] => 0
  | q :: t => q.2 * p q.1 + bsm p t
def bfv (p : Nat → Int) (f : bF) : Int := f.1 + bsm p f.2
def bcn (c : Int) : bF := (c, [])
def bvr (v : Nat) : bF := (0, [(v, 1)])
def bins (v : Nat) (k : Int) (l : List (Nat × Int)) : List (Nat × Int) := match l with
  | [] => [(v, k)]
  | q :: t => match Nat.beq q.1 v with
    | true => (match decide (q.2 + k = 0) with
      | true => t
      | false => (v, q.2 + k) :: t)
    | false => (match Nat.ble v q.1 with
      | true => (v, k) :: q :: t
      | false => q :: bins v k t)
theorem bins_ok (p : Nat → Int) (v : Nat) (k : Int) (l : List (Nat × Int)) : bsm p (bins v k l) = k * p v + bsm p l := by
  induction l with
  | nil => rfl
  | cons q t ih =>
    simp only [bins]
    cases h1 : Nat.beq q.1 v with
    | true =>
      have e1 := Nat.eq_of_beq_eq_true h1
      have e2 : (q.2 + k) * p v = q.2 * p v + k * p v := Int.add_mul _ _ _
      cases h2 : decide (q.2 + k = 0) with
      | true =>
        rw [of_decide_eq_true h2, Int.zero_mul] at e2
        simp only [bsm, e1]
        omega
      | false =>
        simp only [bsm, e1]
        omega
    | false =>
      cases h2 : Nat.ble v q.1 with
      | true => rfl
      | false =>
        simp only [bsm, ih]
        omega
def badd (f g : bF) : bF := (f.1 + g.1, List.foldr (fun q l => bins q.1 q.2 l) f.2 g.2)
theorem badd_ok (p : Nat → Int) (f g : bF) : bfv p (badd f g) = bfv p f + bfv p g := by
  have key : ∀ l : List (Nat × Int), bsm p (List.foldr (fun q l => bins q.1 q.2 l) f.2 l) = bsm p f.2 + bsm p l := by
    intro l
    induction l with
    | nil => simp [bsm]
    | cons q t ih =>
      simp only [List.foldr_cons, bins_ok, ih, bsm]
      omega
  simp only [bfv, badd, key]
  omega
def bscl (m : Int) (f : bF) : bF := match decide (m = 0) with
  | true => (0, [])
  | false => (m * f.1, f.2.map (fun q => (q.1, m * q.2)))
theorem bscl_ok (p : Nat → Int) (m : Int) (f : bF) : bfv p (bscl m f) = m * bfv p f := by
  unfold bscl
  cases h : decide (m = 0) with
  | true =>
    have e : m = 0 := of_decide_eq_true h
    show bfv p (0, []) = m * bfv p f
    rw [e, Int.zero_mul]
    rfl
  | false =>
    have key : ∀ l : List (Nat × Int), bsm p (l.map (fun q => (q.1, m * q.2))) = m * bsm p l := by
      intro l
      induction l with
      | nil => simp [bsm]
      | cons q t ih => simp only [List.map_cons, bsm, ih, Int.mul_add, Int.mul_assoc]
    simp only [bfv, key, Int.mul_add]
def bsub (f g : bF) : bF := badd f (bscl (-1) g)
theorem bsub_ok (p : Nat → Int) (f g : bF) : bfv p (bsub f g) = bfv p f - bfv p g := by
  rw [bsub, badd_ok, bscl_ok]
  omega
/-- what is known of the unknowns: between two numbers each; the newest first -/
abbrev bE : Type := List (Nat × Int × Int)
def blk (G : bE) (v : Nat) : Option (Int × Int) := match G with
  | [] => none
  | q :: t => match Nat.beq q.1 v with
    | true => some q.2
    | false => blk t v
def bok (G : bE) (p : Nat → Int) : Prop := ∀ v l u, blk G v = some (l, u) → l ≤ p v ∧ p v ≤ u
def brs (G : bE) (l : List (Nat × Int)) : Option (Int × Int) := match l with
  | [] => some (0, 0)
  | q :: t => match brs G t with
    | none => none
    | some r => match blk G q.1 with
      | none => none
      | some b => match decide (0 ≤ q.2) with
        | true => some (r.1 + q.2 * b.1, r.2 + q.2 * b.2)
        | false => some (r.1 + q.2 * b.2, r.2 + q.2 * b.1)
theorem brs_ok {G : bE} {p : Nat → Int} (hG : bok G p) : ∀ {l : List (Nat × Int)} {a b : Int}, brs G l = some (a, b) → a ≤ bsm p l ∧ bsm p l ≤ b := by
  intro l
  induction l with
  | nil => intro a b h; cases h; exact ⟨Int.le_refl _, Int.le_refl _⟩
  | cons q t ih =>
    intro a b h
    simp only [brs] at h
    cases h1 : brs G t with
    | none => rw [h1] at h; cases h
    | some r =>
    rw [h1] at h
    simp only at h
    cases h2 : blk G q.1 with
    | none => rw [h2] at h; cases h
    | some c =>
    rw [h2] at h
    simp only at h
    have i1 := ih (a := r.1) (b := r.2) h1
    have i2 := hG q.1 c.1 c.2 h2
    simp only [bsm]
    cases h3 : decide (0 ≤ q.2) with
    | true =>
      rw [h3] at h
      have hq : 0 ≤ q.2 := of_decide_eq_true h3
      cases h
      have m1 := Int.mul_le_mul_of_nonneg_left i2.1 hq
      have m2 := Int.mul_le_mul_of_nonneg_left i2.2 hq
      omega
    | false =>
      rw [h3] at h
      have hq : q.2 ≤ 0 := by have := of_decide_eq_false h3; omega
      cases h
      have m1 := Int.mul_le_mul_of_nonpos_left hq i2.1
      have m2 := Int.mul_le_mul_of_nonpos_left hq i2.2
      omega
def brg (G : bE) (f : bF) : Option (Int × Int) := match brs G f.2 with
  | none => none
  | some r => some (f.1 + r.1, f.1 + r.2)
theorem brg_ok {G : bE} {p : Nat → Int} (hG : bok G p) {f : bF} {a b : Int} (h : brg G f = some (a, b)) : a ≤ bfv p f ∧ bfv p f ≤ b := by
  unfold brg at h
  cases h1 : brs G f.2 with
  | none => rw [h1] at h; cases h
  | some r =>
    rw [h1] at h
    cases h
    have := brs_ok hG (a := r.1) (b := r.2) h1
    unfold bfv
    omega
/-- within an int's numbers -/
def bfit (G : bE) (f : bF) : Bool := match brg G f with
  | none => false
  | some r => decide (-2147483648 ≤ r.1) && decide (r.2 ≤ 2147483647)
theorem bfit_ok {G : bE} {p : Nat → Int} (hG : bok G p) {f : bF} (h : bfit G f = true) : -2147483648 ≤ bfv p f ∧ bfv p f ≤ 2147483647 := by
  unfold bfit at h
  cases h1 : brg G f with
  | none => rw [h1] at h; cases h
  | some r =>
    rw [h1] at h
    simp only [Bool.and_eq_true, decide_eq_true_eq] at h
    have := brg_ok hG (a := r.1) (b := r.2) h1
    omega
/-- one unknown told anew: only that one changes -/
def bup (p : Nat → Int) (v : Nat) (x : Int) : Nat → Int := fun w => if w = v then x else p w
theorem bup_self {p : Nat → Int} {v : Nat} {x : Int} : bup p v x v = x := if_pos rfl
theorem bup_ne {p : Nat → Int} {v w : Nat} {x : Int} (h : w ≠ v) : bup p v x w = p w := if_neg h
def blt (n : Nat) (f : bF) : Bool := f.2.all (fun q => Nat.ble (q.1 + 1) n)
theorem bfv_ag {p p' : Nat → Int} {n : Nat} (hag : ∀ v, v < n → p' v = p v) {f : bF} (h : blt n f = true) : bfv p' f = bfv p f := by
  obtain ⟨c, l⟩ := f
  unfold blt at h
  simp only at h
  have key : bsm p' l = bsm p l := by
    induction l with
    | nil => rfl
    | cons q t ih =>
      simp only [List.all_cons, Bool.and_eq_true] at h
      simp only [bsm, ih h.2, hag q.1 (Nat.le_of_ble_eq_true h.1)]
  simp only [bfv, key]
def bltE (n : Nat) (G : bE) : Bool := G.all (fun q => Nat.ble (q.1 + 1) n)
theorem bok_ag {p p' : Nat → Int} {n : Nat} (hag : ∀ v, v < n → p' v = p v) {G : bE} (h : bltE n G = true) (hG : bok G p) : bok G p' := by
  intro v l u hb
  have hm : v < n := by
    clear hG
    induction G with
    | nil => cases hb
    | cons q t ih =>
      unfold bltE at h
      simp only [List.all_cons, Bool.and_eq_true] at h
      simp only [blk] at hb
      cases e : Nat.beq q.1 v with
      | true =>
        have := Nat.eq_of_beq_eq_true e
        have := Nat.le_of_ble_eq_true h.1
        omega
      | false =>
        rw [e] at hb
        exact ih h.2 hb
  rw [hag v hm]
  exact hG v l u hb
theorem bok_new {p : Nat → Int} {n : Nat} {G : bE} (h : bltE n G = true) (hG : bok G p) {x l u : Int} (h1 : l ≤ x) (h2 : x ≤ u) : bok ((n, l, u) :: G) (bup p n x) := by
  intro v a b hb
  simp only [blk] at hb
  cases e : Nat.beq n v with
  | true =>
    rw [e] at hb
    have e1 := Nat.eq_of_beq_eq_true e
    cases hb
    rw [← e1, bup_self]
    exact ⟨h1, h2⟩
  | false =>
    rw [e] at hb
    exact bok_ag (fun v hv => bup_ne (by omega)) h hG v a b hb
