-- ===== abstract states, one instruction
abbrev bT : Type := bE × Nat × bL × List bV × bO
def bR (Z : List (Nat × Nat)) (I : Nat → Nat → Option bN) (p : Nat → Int) (S : bT) (lo : xL) (st : List Jvm.Term) (h : xH) : Prop :=
  bok S.1 p ∧ bltE S.2.1 S.1 = true ∧ bLl S.2.1 S.2.2.1 = true ∧ bSl S.2.1 S.2.2.2.1 = true ∧ bOl S.2.1 S.2.2.2.2 = true ∧ bLr p S.2.2.1 lo ∧ bSr p S.2.2.2.1 st ∧ bHr Z I p S.2.2.2.2 h ∧ xhw h ∧ xok 354 lo st = true
theorem blt_up {n m : Nat} (hn : n ≤ m) {f : bF} (h : blt n f = true) : blt m f = true := by
  unfold blt at h ⊢
  exact List.all_eq_true.mpr (fun q hq => Nat.ble_eq_true_of_le (Nat.le_trans (Nat.le_of_ble_eq_true (List.all_eq_true.mp h q hq)) hn))
theorem bvl_up {n m : Nat} (hn : n ≤ m) {v : bV} (h : bvl n v = true) : bvl m v = true := by
  rcases v with _ | (f | l)
  · rfl
  · exact blt_up hn h
  · rfl
theorem bltE_up {n m : Nat} (hn : n ≤ m) {G : bE} (h : bltE n G = true) : bltE m G = true := by
  unfold bltE at h ⊢
  exact List.all_eq_true.mpr (fun q hq => Nat.ble_eq_true_of_le (Nat.le_trans (Nat.le_of_ble_eq_true (List.all_eq_true.mp h q hq)) hn))
theorem bLl_up {n m : Nat} (hn : n ≤ m) {la : bL} (h : bLl n la = true) : bLl m la = true := by
  unfold bLl at h ⊢
  exact List.all_eq_true.mpr (fun q hq => bvl_up hn (List.all_eq_true.mp h q hq))
theorem bSl_up {n m : Nat} (hn : n ≤ m) {sa : List bV} (h : bSl n sa = true) : bSl m sa = true := by
  unfold bSl at h ⊢
  exact List.all_eq_true.mpr (fun q hq => bvl_up hn (List.all_eq_true.mp h q hq))
theorem bOl_up {n m : Nat} (hn : n ≤ m) {ov : bO} (h : bOl n ov = true) : bOl m ov = true := by
  unfold bOl at h ⊢
  exact List.all_eq_true.mpr (fun q hq => bvl_up hn (List.all_eq_true.mp h q hq))
theorem blt_add {n : Nat} {f g : bF} (hf : blt n f = true) (hg : blt n g = true) : blt n (badd f g) = true := by
  have key : ∀ (v : Nat) (k : Int) (l : List (Nat × Int)), v < n → (l.all (fun q => Nat.ble (q.1 + 1) n)) = true → ((bins v k l).all (fun q => Nat.ble (q.1 + 1) n)) = true := by
    intro v k l hv
    induction l with
    | nil => intro _; simp only [bins, List.all_cons, List.all_nil, Bool.and_true]; exact Nat.ble_eq_true_of_le hv
    | cons q t ih =>
      intro h
      simp only [List.all_cons, Bool.and_eq_true] at h
      simp only [bins]
      repeat' split
      · exact h.2
      · simp only [List.all_cons, Bool.and_eq_true]; exact ⟨Nat.ble_eq_true_of_le hv, h.2⟩
      · simp only [List.all_cons, Bool.and_eq_true]; exact ⟨Nat.ble_eq_true_of_le hv, h.1, h.2⟩
      · simp only [List.all_cons, Bool.and_eq_true]; exact ⟨h.1, ih h.2⟩
  obtain ⟨c, l⟩ := g
  unfold blt badd
  unfold blt at hg
  simp only at hg ⊢
  induction l with
  | nil => exact hf
  | cons q t ih =>
    simp only [List.all_cons, Bool.and_eq_true] at hg
    exact key _ _ _ (Nat.le_of_ble_eq_true hg.1) (ih hg.2)
theorem blt_scl {n : Nat} {m : Int} {f : bF} (hf : blt n f = true) : blt n (bscl m f) = true := by
  unfold bscl
  split
  · rfl
  · unfold blt at hf ⊢
    simp only [List.all_map]
    exact hf
section
variable {Z : List (Nat × Nat)} {I : Nat → Nat → Option bN} {p : Nat → Int} {G : bE} {n : Nat} {la : bL} {sa : List bV} {ov : bO} {lo : xL} {st : List Jvm.Term} {h : xH}
theorem bR_push (R : bR Z I p (G, n, la, sa, ov) lo st h) {v : bV} {t : Jvm.Term} (hv : bvl n v = true) (g : bga p v t) : bR Z I p (G, n, la, v :: sa, ov) lo (t :: st) h := by
  obtain ⟨r1, r2, r3, r4, r5, r6, r7, r8, r9, rx⟩ := R
  refine ⟨r1, r2, r3, ?_, r5, r6, ⟨g, r7⟩, r8, r9, ?_⟩
  · unfold bSl at r4 ⊢
    simp only [List.all_cons, Bool.and_eq_true]
    exact ⟨hv, r4⟩
  · unfold xok at rx ⊢
    simp only [List.all_cons, Bool.and_eq_true] at rx ⊢
    exact ⟨rx.1, bga_x g, rx.2⟩
theorem bR_pop {v : bV} {t : Jvm.Term} (R : bR Z I p (G, n, la, v :: sa, ov) lo (t :: st) h) : bR Z I p (G, n, la, sa, ov) lo st h ∧ bvl n v = true ∧ bga p v t := by
  obtain ⟨r1, r2, r3, r4, r5, r6, r7, r8, r9, rx⟩ := R
  unfold bSl at r4
  simp only [List.all_cons, Bool.and_eq_true] at r4
  have rx2 : xok 354 lo st = true := by
    unfold xok at rx ⊢
    simp only [List.all_cons, Bool.and_eq_true] at rx ⊢
    exact ⟨rx.1, rx.2.2⟩
  exact ⟨⟨r1, r2, r3, r4.2, r5, r6, r7.2, r8, r9, rx2⟩, r4.1, r7.1⟩
/-- the stack has what its abstract one has -/
theorem bR_top {v : bV} (R : bR Z I p (G, n, la, v :: sa, ov) lo st h) : ∃ t s, st = t :: s := by
  obtain ⟨r1, r2, r3, r4, r5, r6, r7, r8, r9, rx⟩ := R
  cases st with
  | nil => exact absurd r7 id
  | cons t s => exact ⟨t, s, rfl⟩
theorem bR_store (R : bR Z I p (G, n, la, sa, ov) lo st h) {v : bV} {t : Jvm.Term} (i : Nat) (hv : bvl n v = true) (g : bga p v t) : bR Z I p (G, n, bs1 la i v, sa, ov) (xs1 lo i t) st h := by
  obtain ⟨r1, r2, r3, r4, r5, r6, r7, r8, r9, rx⟩ := R
  refine ⟨r1, r2, bs1_l hv r3, r4, r5, bs1_ok g r6, r7, r8, r9, ?_⟩
  unfold xok at rx ⊢
  simp only [Bool.and_eq_true] at rx ⊢
  refine ⟨?_, rx.2⟩
  unfold xs1
  simp only [List.all_cons, Bool.and_eq_true]
  exact ⟨bga_x g, List.all_eq_true.mpr (fun q hq => List.all_eq_true.mp rx.1 q (List.mem_filter.mp hq).1)⟩
theorem bR_new (R : bR Z I p (G, n, la, sa, ov) lo st h) {x l u : Int} (h1 : l ≤ x) (h2 : x ≤ u) : bR Z I (bup p n x) ((n, l, u) :: G, n + 1, la, sa, ov) lo st h := by
  obtain ⟨r1, r2, r3, r4, r5, r6, r7, r8, r9, rx⟩ := R
  have hag : ∀ v, v < n → bup p n x v = p v := fun v hv => bup_ne (by omega)
  refine ⟨bok_new r2 r1 h1 h2, ?_, bLl_up (Nat.le_succ _) r3, bSl_up (Nat.le_succ _) r4, bOl_up (Nat.le_succ _) r5, bLr_ag hag r3 r6, bSr_ag hag r4 r7, bHr_ag hag r5 r8, r9, rx⟩
  unfold bltE
  simp only [List.all_cons, Bool.and_eq_true]
  exact ⟨Nat.ble_eq_true_of_le (Nat.le_refl _), bltE_up (Nat.le_succ _) r2⟩
theorem bR_put (R : bR Z I p (G, n, la, sa, ov) lo st h) {i j : Nat} {c : xC} {v : bV} {t : Jvm.Term} (hc : h[i]? = some c) (hj : j < c.2.length) (hv : bvl n v = true) (g : bga p v t) (hx : xidx h.length t = true) : bR Z I p (G, n, la, sa, ((i, j), v) :: ov) lo st (h.set i (c.1, c.2.set j t)) := by
  obtain ⟨r1, r2, r3, r4, r5, r6, r7, r8, r9, rx⟩ := R
  refine ⟨r1, r2, r3, r4, ?_, r6, r7, bHr_put r8 hc hj g, xhw_set r9 (xokc_set r9 hc hx), rx⟩
  unfold bOl at r5 ⊢
  simp only [List.all_cons, Bool.and_eq_true]
  exact ⟨hv, r5⟩
/-- a place of a cell, read -/
theorem bR_read (R : bR Z I p (G, n, la, sa, ov) lo st h) {i j : Nat} {c : xC} {t : Jvm.Term} (hc : h[i]? = some c) (ht : c.2[j]? = some t) (hi : ∃ q, Z[i]? = some q) {v : bV} {b : Option (Int × Int)} (hr : brd I n ov i j = some (v, b)) : match b with
    | none => bvl n v = true ∧ bga p v t
    | some b => ∃ x : Int32, t = .int x ∧ b.1 ≤ x.toInt ∧ x.toInt ≤ b.2 ∧ v = some (.inl (bvr n)) := by
  obtain ⟨r1, r2, r3, r4, r5, r6, r7, r8, r9, rx⟩ := R
  obtain ⟨q, hq⟩ := hi
  obtain ⟨c', c1, c2, c3, c4⟩ := r8.2 i q hq
  rw [hc] at c1
  cases c1
  have k := c4 j t ht
  unfold brd at hr
  cases e : blo ov i j with
  | some w =>
    rw [e] at hr k
    cases hr
    exact ⟨blo_l r5 e, k⟩
  | none =>
    rw [e] at hr k
    obtain ⟨z, hz, hb⟩ := k
    simp only [hz] at hr
    cases z with
    | inl b0 =>
      cases hr
      obtain ⟨x, x1, x2, x3⟩ := hb
      exact ⟨x, x1, x2, x3, rfl⟩
    | inr l0 =>
      cases hr
      exact ⟨rfl, hb⟩
end
theorem xbm32 {x : Int} (h1 : -2147483648 ≤ x) (h2 : x ≤ 2147483647) : x.bmod (2 ^ 32) = x := by
  have e : (2 ^ 32 : Nat) = 4294967296 := rfl
  rw [e, Int.bmod_def]
  split <;> omega
theorem bi_lo (x : Int32) : -2147483648 ≤ x.toInt := by
  have h := Int32.le_toInt x
  omega
theorem bi_hi (x : Int32) : x.toInt ≤ 2147483647 := by
  have h := Int32.toInt_lt x
  omega
