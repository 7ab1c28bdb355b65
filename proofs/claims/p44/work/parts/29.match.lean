-- ===== a state that is a case of a wider one: the wider one's new unknowns (from n0 on) are told by g
abbrev bG : Type := List (Nat × bF)
def blF (g : bG) (v : Nat) : Option bF := match g with
  | [] => none
  | q :: t => match Nat.beq q.1 v with
    | true => some q.2
    | false => blF t v
def bsu (p : Nat → Int) (n0 : Nat) (g : bG) : Nat → Int := fun v => match Nat.ble n0 v with
  | false => p v
  | true => match blF g v with
    | some f => bfv p f
    | none => 0
theorem bsu_lt {p : Nat → Int} {n0 : Nat} {g : bG} : ∀ v, v < n0 → bsu p n0 g v = p v := by
  intro v hv
  unfold bsu
  cases e : Nat.ble n0 v with
  | false => rfl
  | true =>
    have := Nat.le_of_ble_eq_true e
    omega
theorem bsu_at {p : Nat → Int} {n0 v : Nat} {g : bG} {f : bF} (h1 : Nat.ble n0 v = true) (h2 : blF g v = some f) : bsu p n0 g v = bfv p f := by
  unfold bsu
  rw [h1, h2]
/-- a wider state's form, told by the narrower one's unknowns -/
def bsbl (n0 : Nat) (g : bG) (l : List (Nat × Int)) : bF := match l with
  | [] => (0, [])
  | q :: t => badd (match Nat.ble n0 q.1 with
    | false => bscl q.2 (bvr q.1)
    | true => match blF g q.1 with
      | some f => bscl q.2 f
      | none => (0, [])) (bsbl n0 g t)
def bsbf (n0 : Nat) (g : bG) (b : bF) : bF := badd (bcn b.1) (bsbl n0 g b.2)
theorem bsbf_ok {p : Nat → Int} {n0 : Nat} {g : bG} {b : bF} : bfv (bsu p n0 g) b = bfv p (bsbf n0 g b) := by
  have key : ∀ l : List (Nat × Int), bsm (bsu p n0 g) l = bfv p (bsbl n0 g l) := by
    intro l
    induction l with
    | nil => rfl
    | cons q t ih =>
      simp only [bsm, bsbl, badd_ok, ih]
      have e1 : q.2 * bsu p n0 g q.1 = bfv p (match Nat.ble n0 q.1 with
        | false => bscl q.2 (bvr q.1)
        | true => match blF g q.1 with
          | some f => bscl q.2 f
          | none => (0, [])) := by
        unfold bsu
        cases h : Nat.ble n0 q.1 with
        | false =>
          have e2 : bfv p (bvr q.1) = p q.1 := by simp only [bfv, bvr, bsm]; omega
          simp only [bscl_ok, e2]
        | true =>
          simp only
          cases hf : blF g q.1 with
          | some f => simp only [bscl_ok]
          | none =>
            show q.2 * 0 = _
            rw [Int.mul_zero]
            rfl
      rw [e1]
  have e3 : bfv p (bcn b.1) = b.1 := by simp only [bfv, bcn, bsm]; omega
  simp only [bsbf, badd_ok, e3]
  show b.1 + bsm (bsu p n0 g) b.2 = _
  rw [key]
def bmv (n0 : Nat) (g : bG) (vS vJ : bV) : Bool := match vJ with
  | none => (match vS with
    | none => true
    | _ => false)
  | some (.inl b) => (match vS with
    | some (.inl f) => (decide (f = b) && blt n0 b) || (match b.2 with
      | [q] => (decide (b.1 = 0) && decide (q.2 = 1)) && (Nat.ble n0 q.1 && (match blF g q.1 with
        | some f' => decide (f' = f)
        | none => false))
      | _ => decide (bsbf n0 g b = f))
    | _ => false)
  | some (.inr l) => (match vS with
    | some (.inr l') => bsbs l' l
    | _ => false)
theorem bmv_ok {p : Nat → Int} {n0 : Nat} {g : bG} {vS vJ : bV} {t : Jvm.Term} (h : bmv n0 g vS vJ = true) (k : bga p vS t) : bga (bsu p n0 g) vJ t := by
  rcases vJ with _ | (b | l)
  · rcases vS with _ | s
    · exact k
    · cases h
  · rcases vS with _ | (f | l')
    · cases h
    · obtain ⟨x, x1, x2⟩ := k
      refine ⟨x, x1, ?_⟩
      simp only [bmv, Bool.or_eq_true, Bool.and_eq_true, decide_eq_true_eq] at h
      rcases h with ⟨h1, h2⟩ | h
      · rw [bfv_ag bsu_lt h2, ← h1]
        exact x2
      · obtain ⟨c, bl⟩ := b
        rcases bl with _ | ⟨q, _ | ⟨q2, u⟩⟩
        · have h := of_decide_eq_true h
          rw [bsbf_ok, h]
          exact x2
        · simp only [Bool.and_eq_true, decide_eq_true_eq] at h
          obtain ⟨⟨h1, h2⟩, h3, h4⟩ := h
          cases hf : blF g q.1 with
          | none => rw [hf] at h4; cases h4
          | some f' =>
            rw [hf] at h4
            have e1 : f' = f := by simpa using h4
            have e2 : bfv (bsu p n0 g) (c, [q]) = bsu p n0 g q.1 := by
              simp only [bfv, bsm, h1, h2]
              omega
            rw [e2, bsu_at h3 hf, e1]
            exact x2
        · have h := of_decide_eq_true h
          rw [bsbf_ok, h]
          exact x2
    · cases h
  · rcases vS with _ | (f | l')
    · cases h
    · cases h
    · simp only [bmv] at h
      exact ⟨bsbs_ok h k.1, k.2⟩
def bmst (n0 : Nat) (g : bG) (s j : List bV) : Bool := match s, j with
  | [], [] => true
  | a :: t, b :: u => bmv n0 g a b && bmst n0 g t u
  | _, _ => false
theorem bmst_ok {p : Nat → Int} {n0 : Nat} {g : bG} : ∀ {s j : List bV} {st : List Jvm.Term}, bmst n0 g s j = true → bSr p s st → bSr (bsu p n0 g) j st := by
  intro s
  induction s with
  | nil => intro j st h k; cases j with
    | nil => cases st with
      | nil => trivial
      | cons b u => exact k
    | cons b u => cases h
  | cons a t ih => intro j st h k; cases j with
    | nil => cases h
    | cons b u => cases st with
      | nil => exact k
      | cons c w =>
        simp only [bmst, Bool.and_eq_true] at h
        exact ⟨bmv_ok h.1 k.1, ih h.2 k.2⟩
/-- an interval of the wider state -/
def bme (G : bE) (n0 : Nat) (g : bG) (q : Nat × Int × Int) : Bool := match Nat.ble n0 q.1 with
  | false => (match blk G q.1 with
    | some b => decide (q.2.1 ≤ b.1) && decide (b.2 ≤ q.2.2)
    | none => false)
  | true => match blF g q.1 with
    | none => false
    | some f => match brg G f with
      | some b => decide (q.2.1 ≤ b.1) && decide (b.2 ≤ q.2.2)
      | none => false
def bml (n0 : Nat) (g : bG) (la : bL) (q : Nat × bV) : Bool := match blL la q.1 with
  | some v => bmv n0 g v q.2
  | none => false
def bmo (n0 : Nat) (g : bG) (ov : bO) (q : (Nat × Nat) × bV) : Bool := match blo ov q.1.1 q.1.2 with
  | some v => bmv n0 g v q.2
  | none => false
def bmk (I : Nat → Nat → Option bN) (G : bE) (oS oJ : bO) (q : (Nat × Nat) × bV) : Bool := match blo oJ q.1.1 q.1.2 with
  | some _ => true
  | none => match blo oS q.1.1 q.1.2 with
    | some v => bkeep I G (q.1, v)
    | none => true
def bmS (I : Nat → Nat → Option bN) (n0 : Nat) (g : bG) (S J : bT) : Bool :=
  J.1.all (bme S.1 n0 g) && (bltE J.2.1 J.1 && (bLl J.2.1 J.2.2.1 && (bSl J.2.1 J.2.2.2.1 && (bOl J.2.1 J.2.2.2.2 && (J.2.2.1.all (bml n0 g S.2.2.1) && (bmst n0 g S.2.2.2.1 J.2.2.2.1 && (J.2.2.2.2.all (bmo n0 g S.2.2.2.2) && S.2.2.2.2.all (bmk I S.1 S.2.2.2.2 J.2.2.2.2))))))))
theorem blk_in {G : bE} {v : Nat} {b : Int × Int} (h : blk G v = some b) : (v, b) ∈ G := by
  induction G with
  | nil => cases h
  | cons q t ih =>
    obtain ⟨q1, q2⟩ := q
    simp only [blk] at h
    cases e : Nat.beq q1 v with
    | true =>
      rw [e] at h
      cases h
      rw [Nat.eq_of_beq_eq_true e]
      exact List.mem_cons_self
    | false =>
      rw [e] at h
      exact List.mem_cons_of_mem _ (ih h)
theorem blL_in {la : bL} {i : Nat} {v : bV} (h : blL la i = some v) : (i, v) ∈ la := by
  induction la with
  | nil => cases h
  | cons q t ih =>
    obtain ⟨q1, q2⟩ := q
    simp only [blL] at h
    cases e : Nat.beq q1 i with
    | true =>
      rw [e] at h
      cases h
      rw [Nat.eq_of_beq_eq_true e]
      exact List.mem_cons_self
    | false =>
      rw [e] at h
      exact List.mem_cons_of_mem _ (ih h)
theorem bmS_ok {Z : List (Nat × Nat)} {I : Nat → Nat → Option bN} {p : Nat → Int} {n0 : Nat} {g : bG} {S J : bT} {lo : xL} {st : List Jvm.Term} {h : xH} (R : bR Z I p S lo st h) (hm : bmS I n0 g S J = true) : bR Z I (bsu p n0 g) J lo st h := by
  obtain ⟨r1, r2, r3, r4, r5, r6, r7, r8, r9, rx⟩ := R
  simp only [bmS, Bool.and_eq_true] at hm
  obtain ⟨m1, m2, m3, m4, m5, m6, m7, m8, m9⟩ := hm
  refine ⟨?_, m2, m3, m4, m5, ?_, bmst_ok m7 r7, ?_, r9, rx⟩
  · intro v l u hb
    have k := List.all_eq_true.mp m1 _ (blk_in hb)
    unfold bme at k
    simp only at k
    cases e : Nat.ble n0 v with
    | false =>
      rw [e] at k
      have hv : v < n0 := by
        rcases Nat.lt_or_ge v n0 with q | q
        · exact q
        · rw [Nat.ble_eq_true_of_le q] at e; cases e
      cases hb2 : blk S.1 v with
      | none => rw [hb2] at k; cases k
      | some b =>
        rw [hb2] at k
        simp only [Bool.and_eq_true, decide_eq_true_eq] at k
        have := r1 v b.1 b.2 hb2
        rw [bsu_lt v hv]
        omega
    | true =>
      rw [e] at k
      simp only at k
      cases hf : blF g v with
      | none => rw [hf] at k; cases k
      | some f =>
        rw [hf] at k
        simp only at k
        cases hb2 : brg S.1 f with
        | none => rw [hb2] at k; cases k
        | some b =>
          rw [hb2] at k
          simp only [Bool.and_eq_true, decide_eq_true_eq] at k
          have := brg_ok r1 (a := b.1) (b := b.2) hb2
          rw [bsu_at e hf]
          omega
  · intro i v hv
    have k := List.all_eq_true.mp m6 _ (blL_in hv)
    unfold bml at k
    simp only at k
    cases hb : blL S.2.2.1 i with
    | none => rw [hb] at k; cases k
    | some w =>
      rw [hb] at k
      obtain ⟨t, t1, t2⟩ := r6 i w hb
      exact ⟨t, t1, bmv_ok k t2⟩
  · refine ⟨r8.1, fun i q hq => ?_⟩
    obtain ⟨c, c1, c2, c3, c4⟩ := r8.2 i q hq
    refine ⟨c, c1, c2, c3, fun j t ht => ?_⟩
    have k := c4 j t ht
    cases hJ : blo J.2.2.2.2 i j with
    | some v =>
      have k2 := List.all_eq_true.mp m8 _ (blo_in hJ)
      unfold bmo at k2
      simp only at k2
      cases hb : blo S.2.2.2.2 i j with
      | none => rw [hb] at k2; cases k2
      | some w =>
        rw [hb] at k k2
        exact bmv_ok k2 k
    | none =>
      show ∃ e, I i j = some e ∧ bnv e t
      cases hb : blo S.2.2.2.2 i j with
      | none => rw [hb] at k; exact k
      | some w =>
        rw [hb] at k
        have k2 := List.all_eq_true.mp m9 _ (blo_in hb)
        unfold bmk at k2
        simp only [hJ, hb] at k2
        unfold bkeep at k2
        simp only at k2
        cases hI : I i j with
        | none => rw [hI] at k2; cases k2
        | some z =>
          rw [hI] at k2
          exact ⟨z, rfl, bkv_ok r1 k2 k⟩
