-- ===== a method on every heap that keeps the invariant, with any ints
def bInv (Z : List (Nat × Nat)) (I : Nat → Nat → Option bN) (h : xH) : Prop := bHr Z I (fun _ => 0) [] h ∧ xhw h
def bge (i k : Nat) : bE := match k with
  | 0 => []
  | k + 1 => (i, -2147483648, 2147483647) :: bge (i + 1) k
def bar (i k : Nat) : List bV := match k with
  | 0 => []
  | k + 1 => some (.inl (bvr i)) :: bar (i + 1) k
theorem bge_blk {v l u : Nat → Int} : ∀ {k i w : Nat} {a b : Int}, blk (bge i k) w = some (a, b) → a = -2147483648 ∧ b = 2147483647 := by
  intro k
  induction k with
  | zero => intro i w a b h; cases h
  | succ k ih =>
    intro i w a b h
    simp only [bge, blk] at h
    cases e : Nat.beq i w with
    | true => rw [e] at h; cases h; exact ⟨rfl, rfl⟩
    | false => rw [e] at h; exact ih h
theorem bge_l : ∀ {k i n : Nat}, i + k ≤ n → bltE n (bge i k) = true := by
  intro k
  induction k with
  | zero => intro i n _; rfl
  | succ k ih =>
    intro i n h
    unfold bltE
    simp only [bge, List.all_cons, Bool.and_eq_true]
    exact ⟨Nat.ble_eq_true_of_le (by omega), ih (by omega)⟩
theorem bar_l : ∀ {k i n : Nat}, i + k ≤ n → bSl n (bar i k) = true := by
  intro k
  induction k with
  | zero => intro i n _; rfl
  | succ k ih =>
    intro i n h
    unfold bSl
    simp only [bar, List.all_cons, Bool.and_eq_true]
    refine ⟨?_, ih (by omega)⟩
    simp only [bvl, blt, bvr, List.all_cons, List.all_nil, Bool.and_true]
    exact Nat.ble_eq_true_of_le (by omega)
/-- the unknowns of a call: its ints -/
def bpv (vs : List Int32) : Nat → Int := fun i => (vs.getD i 0).toInt
theorem bar_ok {vs : List Int32} : ∀ {ws : List Int32} {i : Nat}, (∀ j, ws[j]? = vs[i + j]?) → i + ws.length = vs.length → bSr (bpv vs) (bar i ws.length) (ws.map (fun x => Jvm.Term.int x)) := by
  intro ws
  induction ws with
  | nil => intro i _ _; trivial
  | cons x t ih =>
    intro i h hl
    simp only [List.length_cons, bar, List.map_cons]
    refine ⟨⟨x, rfl, ?_⟩, ih (i := i + 1) (fun j => ?_) (by simp only [List.length_cons] at hl; omega)⟩
    · have h0 := h 0
      simp only [List.getElem?_cons_zero, Nat.add_zero] at h0
      simp only [bfv, bvr, bsm, bpv, List.getD_eq_getElem?_getD, ← h0, Option.getD_some]
      omega
    · have h1 := h (j + 1)
      simp only [List.getElem?_cons_succ] at h1
      rw [h1]
      congr 1
      omega
/-- the state at a method's entry -/
def bent (a k : Nat) : bT := (bge 0 k, k, bal 0 (some (.inr [.index a]) :: bar 0 k), [], [])
def bkp (I : Nat → Nat → Option bN) (r : bRet) : Bool := r.2.2.2.2.2.all (bkeep I r.2.1)
theorem bInv_p {Z : List (Nat × Nat)} {I : Nat → Nat → Option bN} {p : Nat → Int} {h : xH} (H : bHr Z I p [] h) : bHr Z I (fun _ => 0) [] h := bHr_ag (n := 0) (fun v hv => absurd hv (Nat.not_lt_zero v)) rfl H
/-- A METHOD IS SAFE: with any ints it ends, and the invariant holds again -/
theorem bmeth {Z : List (Nat × Nat)} {I : Nat → Nat → Option bN} {mp : Nat → Nat → Nat} {mq : Nat → Nat → Nat → Nat} {jn : Nat → List bT → List bT} {gm : Nat → bT → bT → bG} (hZ : Z.length = 354) {f d cm a k : Nat} {rs : List bRet} (ha : a < 354) (hs : babs Z I mp mq jn gm f d cm 0 99999 k [bent a k] = some ([], rs)) (hk : rs.all (bkp I) = true) {h : xH} (H : bInv Z I h) (vs : List Int32) (hv : vs.length = k) :
    ∃ r ∈ rs, ∃ p t h', (∀ i, i < k → p i = bpv vs i) ∧ bRt Z I p r t h' ∧ bInv Z I h' ∧ xrun d cm 0 (xal 0 (.index a :: vs.map (fun x => Jvm.Term.int x))) [] h (t, h', []) := by
  subst hv
  have hx : (vs.map (fun x => Jvm.Term.int x)).all (xidx 354) = true := List.all_eq_true.mpr (fun t ht => by
    obtain ⟨x, -, rfl⟩ := List.mem_map.mp ht
    rfl)
  have hia : xidx 354 (.index a) = true := Nat.ble_eq_true_of_le ha
  have hS : bSr (bpv vs) (some (.inr [.index a]) :: bar 0 vs.length) (.index a :: vs.map (fun x => Jvm.Term.int x)) := ⟨⟨List.mem_cons_self, rfl, hia⟩, bar_ok (fun j => by rw [Nat.zero_add]) (by omega)⟩
  have hl : bSl vs.length (some (.inr [.index a]) :: bar 0 vs.length) = true := by
    unfold bSl
    simp only [List.all_cons, Bool.and_eq_true]
    exact ⟨rfl, bar_l (by omega)⟩
  have R : bR Z I (bpv vs) (bent a vs.length) (xal 0 (.index a :: vs.map (fun x => Jvm.Term.int x))) [] h := by
    refine ⟨?_, bge_l (n := vs.length) (i := 0) (by omega), bal_l hl, rfl, rfl, bal_ok hS, trivial, bHr_ag (n := 0) (fun v hv => absurd hv (Nat.not_lt_zero v)) rfl H.1, H.2, ?_⟩
    · intro w l u hb
      have := bge_blk (v := fun _ => 0) (l := fun _ => 0) (u := fun _ => 0) hb
      rw [this.1, this.2]
      exact ⟨bi_lo _, bi_hi _⟩
    · unfold xok
      simp only [Bool.and_eq_true]
      exact ⟨xal_x (by simp only [List.all_cons, Bool.and_eq_true]; exact ⟨hia, hx⟩), rfl⟩
  rcases babs_ok hZ f d cm 0 99999 vs.length _ _ hs _ List.mem_cons_self (Nat.le_refl _) _ _ _ _ R with ⟨S, m, -⟩ | ⟨r, m, p, t, h', b1, b2, b3, b4⟩
  · exact absurd m List.not_mem_nil
  · refine ⟨r, m, p, t, h', b1, b3, ?_, b4⟩
    obtain ⟨q1, q2, q3, q4, q5, q6⟩ := b3
    exact ⟨bInv_p (bHr_drop q1 (List.all_eq_true.mp hk r m) q4), q5⟩
