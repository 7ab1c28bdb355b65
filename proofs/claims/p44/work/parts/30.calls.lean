-- ===== calls: arguments taken, locals laid, what is returned
def btk (n : Nat) (sa acc : List bV) : Option (List bV × List bV) := match n with
  | 0 => some (acc, sa)
  | n + 1 => match sa with
    | [] => none
    | v :: s => btk n s (v :: acc)
theorem btk_ok {p : Nat → Int} {n : Nat} : ∀ {sa acc as s : List bV} {st ac : List Jvm.Term}, btk n sa acc = some (as, s) → bSr p sa st → bSr p acc ac → ∃ ts s', xtk n st ac = some (ts, s') ∧ bSr p as ts ∧ bSr p s s' := by
  induction n with
  | zero =>
    intro sa acc as s st ac h k1 k2
    simp only [btk] at h
    cases h
    exact ⟨ac, st, rfl, k2, k1⟩
  | succ n ih =>
    intro sa acc as s st ac h k1 k2
    cases sa with
    | nil => cases h
    | cons v t =>
      cases st with
      | nil => exact absurd k1 id
      | cons u w =>
        simp only [btk] at h
        exact ih (ac := u :: ac) h k1.2 ⟨k1.1, k2⟩
/-- what was all there, is all there: arguments and rest -/
theorem xtk_all {P : Jvm.Term → Bool} {n : Nat} : ∀ {st ac ts s' : List Jvm.Term}, xtk n st ac = some (ts, s') → st.all P = true → ac.all P = true → ts.all P = true ∧ s'.all P = true := by
  induction n with
  | zero =>
    intro st ac ts s' h k1 k2
    simp only [xtk] at h
    cases h
    exact ⟨k2, k1⟩
  | succ n ih =>
    intro st ac ts s' h k1 k2
    cases st with
    | nil => cases h
    | cons u w =>
      simp only [xtk] at h
      simp only [List.all_cons, Bool.and_eq_true] at k1
      exact ih h k1.2 (by simp only [List.all_cons, Bool.and_eq_true]; exact ⟨k1.1, k2⟩)
theorem btk_l {n m : Nat} : ∀ {sa acc as s : List bV}, btk n sa acc = some (as, s) → bSl m sa = true → bSl m acc = true → bSl m as = true ∧ bSl m s = true := by
  induction n with
  | zero =>
    intro sa acc as s h k1 k2
    simp only [btk] at h
    cases h
    exact ⟨k2, k1⟩
  | succ n ih =>
    intro sa acc as s h k1 k2
    cases sa with
    | nil => cases h
    | cons v t =>
      simp only [btk] at h
      unfold bSl at k1
      simp only [List.all_cons, Bool.and_eq_true] at k1
      exact ih h k1.2 (by unfold bSl; simp only [List.all_cons, Bool.and_eq_true]; exact ⟨k1.1, k2⟩)
def bal (i : Nat) (l : List bV) : bL := match l with
  | [] => []
  | v :: t => (i, v) :: bal (bif bgL v then i + 2 else i + 1) t
theorem bal_ok {p : Nat → Int} : ∀ {l : List bV} {ts : List Jvm.Term} {i : Nat}, bSr p l ts → bLr p (bal i l) (xal i ts) := by
  intro l
  induction l with
  | nil => intro ts i _ k v h; cases h
  | cons v t ih =>
    intro ts i k
    cases ts with
    | nil => exact absurd k id
    | cons u w =>
      intro j x hx
      simp only [bal, blL] at hx
      simp only [xal, xlk]
      cases e : Nat.beq i j with
      | true =>
        rw [e] at hx
        cases hx
        exact ⟨u, rfl, k.1⟩
      | false =>
        rw [e] at hx
        rw [bga_G k.1]
        exact ih k.2 j x hx
theorem bal_l {n : Nat} : ∀ {l : List bV} {i : Nat}, bSl n l = true → bLl n (bal i l) = true := by
  intro l
  induction l with
  | nil => intro i _; rfl
  | cons v t ih =>
    intro i h
    unfold bSl at h
    simp only [List.all_cons, Bool.and_eq_true] at h
    unfold bLl
    simp only [bal, List.all_cons, Bool.and_eq_true]
    exact ⟨h.1, ih h.2⟩
theorem xal_x {m : Nat} : ∀ {ts : List Jvm.Term} {i : Nat}, ts.all (xidx m) = true → (xal i ts).all (fun q => xidx m q.2) = true := by
  intro ts
  induction ts with
  | nil => intro i _; rfl
  | cons u w ih =>
    intro i h
    simp only [List.all_cons, Bool.and_eq_true] at h
    simp only [xal, List.all_cons, Bool.and_eq_true]
    exact ⟨h.1, ih h.2⟩
def basz (l : List bV) : Nat := match l with
  | [] => 0
  | v :: t => (bif bgL v then 2 else 1) + basz t
theorem basz_ok {p : Nat → Int} : ∀ {l : List bV} {ts : List Jvm.Term}, bSr p l ts → xasz ts = basz l := by
  intro l
  induction l with
  | nil => intro ts k; cases ts with
    | nil => rfl
    | cons u w => exact absurd k id
  | cons v t ih => intro ts k; cases ts with
    | nil => exact absurd k id
    | cons u w =>
      simp only [xasz, basz, bga_G k.1, ih k.2]
/-- the rest of a stack, behind a call -/
def bcc (s : List bV) : Bool := Nat.ble s.length 6 && s.all (fun v => !(bgL v))
theorem bcc_ok {p : Nat → Int} {lo : xL} {s : List bV} {st : List Jvm.Term} (k : bSr p s st) (h : bcc s = true) (hx : xok 354 lo st = true) : xcc 354 lo st = true := by
  simp only [bcc, Bool.and_eq_true] at h
  have key : ∀ {s : List bV} {st : List Jvm.Term}, bSr p s st → s.all (fun v => !(bgL v)) = true → st.length = s.length ∧ st.all (fun t => !(xG t)) = true := by
    intro s
    induction s with
    | nil => intro st k _; cases st with
      | nil => exact ⟨rfl, rfl⟩
      | cons u w => exact absurd k id
    | cons v t ih => intro st k h; cases st with
      | nil => exact absurd k id
      | cons u w =>
        simp only [List.all_cons, Bool.and_eq_true] at h
        have i1 := ih k.2 h.2
        refine ⟨by simp only [List.length_cons, i1.1], ?_⟩
        simp only [List.all_cons, Bool.and_eq_true]
        exact ⟨by rw [bga_G k.1]; exact h.1, i1.2⟩
  have k1 := key k h.2
  unfold xok at hx
  simp only [Bool.and_eq_true] at hx
  simp only [xcc, Bool.and_eq_true]
  exact ⟨by rw [k1.1]; exact h.1, k1.2, hx.1, hx.2⟩
-- ===== what a method may answer with
def brtv (ty : Option FieldType) (G : bE) (v : bV) : Bool := match ty with
  | some .int => (match v with
    | some (.inl _) => true
    | _ => false)
  | some .boolean => (match v with
    | some (.inl f) => (match brg G f with
      | some r => decide (0 ≤ r.1) && decide (r.2 ≤ 1)
      | none => false)
    | _ => false)
  | _ => false
theorem brtv_ok {p : Nat → Int} {ty : Option FieldType} {G : bE} (hG : bok G p) {v : bV} {t : Jvm.Term} (k : bga p v t) (h : brtv ty G v = true) : xrt ty t = true := by
  unfold brtv at h
  split at h
  · split at h
    · exact bga_I k
    · cases h
  · split at h
    · rename_i f
      cases hr : brg G f with
      | none => rw [hr] at h; cases h
      | some r =>
        rw [hr] at h
        simp only [Bool.and_eq_true, decide_eq_true_eq] at h
        obtain ⟨x, rfl, hx⟩ := k
        have h1 := brg_ok hG (a := r.1) (b := r.2) hr
        have h2 : x = 0 ∨ x = 1 := by
          have e0 : (0 : Int32).toInt = 0 := rfl
          have e1 : (1 : Int32).toInt = 1 := rfl
          rcases (show x.toInt = 0 ∨ x.toInt = 1 by omega) with q | q
          · exact Or.inl (Int32.toInt_inj.mp (by omega))
          · exact Or.inr (Int32.toInt_inj.mp (by omega))
        simp only [xrt, xlit, Bool.or_eq_true, decide_eq_true_eq]
        exact h2
    · cases h
  · cases h
