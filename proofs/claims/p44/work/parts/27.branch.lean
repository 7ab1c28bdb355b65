-- ===== a condition taken: what it says of the unknowns
/-- one unknown v of e, k times in it, where e is at most 0: bounded by the others -/
def brf1 (G : bE) (e : bF) (v : Nat) (k : Int) : Option bE := match blk G v with
  | none => some G
  | some b => match brg G (badd e (bscl (-k) (bvr v))) with
    | none => some G
    | some r => match decide (0 < k) with
      | true => (match decide (b.1 ≤ (-r.1) / k) with
        | false => none
        | true => some ((v, b.1, if b.2 ≤ (-r.1) / k then b.2 else (-r.1) / k) :: G))
      | false => match decide (k < 0) with
        | false => some G
        | true => (match decide (-((-r.1) / (-k)) ≤ b.2) with
          | false => none
          | true => some ((v, (if -((-r.1) / (-k)) ≤ b.1 then b.1 else -((-r.1) / (-k))), b.2) :: G))
theorem blk_lt {n v : Nat} {G : bE} {b : Int × Int} (h : bltE n G = true) (hb : blk G v = some b) : v < n := by
  induction G with
  | nil => cases hb
  | cons q t ih =>
    unfold bltE at h
    simp only [List.all_cons, Bool.and_eq_true] at h
    simp only [blk] at hb
    cases e : Nat.beq q.1 v with
    | true =>
      have := Nat.eq_of_beq_eq_true e
      have := Nat.le_of_ble_eq_true h.1
      omega
    | false =>
      rw [e] at hb
      exact ih h.2 hb
theorem bok_set {G : bE} {p : Nat → Int} (hG : bok G p) {v : Nat} {l u : Int} (h1 : l ≤ p v) (h2 : p v ≤ u) : bok ((v, l, u) :: G) p := by
  intro w a b hb
  simp only [blk] at hb
  cases e : Nat.beq v w with
  | true =>
    rw [e] at hb
    have e1 := Nat.eq_of_beq_eq_true e
    cases hb
    rw [← e1]
    exact ⟨h1, h2⟩
  | false =>
    rw [e] at hb
    exact hG w a b hb
theorem bltE_set {n v : Nat} {G : bE} {l u : Int} (h : bltE n G = true) (hv : v < n) : bltE n ((v, l, u) :: G) = true := by
  unfold bltE at h ⊢
  simp only [List.all_cons, Bool.and_eq_true]
  exact ⟨Nat.ble_eq_true_of_le hv, h⟩
/-- a refinement is right -/
def bRf (n : Nat) (p : Nat → Int) (o : Option bE) : Prop := match o with
  | none => False
  | some G => bok G p ∧ bltE n G = true
theorem brf1_ok {n : Nat} {G : bE} {p : Nat → Int} (hG : bok G p) (hn : bltE n G = true) {e : bF} (he : bfv p e ≤ 0) (v : Nat) (k : Int) : bRf n p (brf1 G e v k) := by
  unfold brf1
  cases hb : blk G v with
  | none => exact ⟨hG, hn⟩
  | some b =>
  simp only
  cases hr : brg G (badd e (bscl (-k) (bvr v))) with
  | none => exact ⟨hG, hn⟩
  | some r =>
  simp only
  have h1 := hG v b.1 b.2 hb
  have h2 := brg_ok hG (a := r.1) (b := r.2) hr
  have e1 : bfv p (bvr v) = p v := by simp only [bfv, bvr, bsm]; omega
  rw [badd_ok, bscl_ok, e1] at h2
  have e2 : -k * p v = -(k * p v) := Int.neg_mul _ _
  rw [e2] at h2
  have hk : k * p v ≤ -r.1 := by omega
  have hvn := blk_lt hn hb
  cases h3 : decide (0 < k) with
  | true =>
    have hk0 := of_decide_eq_true h3
    have h4 : p v ≤ (-r.1) / k := Int.le_ediv_of_mul_le hk0 (by rw [Int.mul_comm]; exact hk)
    simp only
    cases h5 : decide (b.1 ≤ (-r.1) / k) with
    | false =>
      have := of_decide_eq_false h5
      exact absurd (Int.le_trans h1.1 h4) this
    | true =>
      refine ⟨bok_set hG h1.1 ?_, bltE_set hn hvn⟩
      split
      · exact h1.2
      · exact h4
  | false =>
    simp only
    cases h6 : decide (k < 0) with
    | false => exact ⟨hG, hn⟩
    | true =>
      have hk0 := of_decide_eq_true h6
      have e3 : -(p v) * -k = k * p v := by rw [Int.neg_mul_neg, Int.mul_comm]
      have h4 : -(p v) ≤ (-r.1) / (-k) := Int.le_ediv_of_mul_le (by omega) (by rw [e3]; exact hk)
      simp only
      cases h5 : decide (-((-r.1) / (-k)) ≤ b.2) with
      | false =>
        have := of_decide_eq_false h5
        exact absurd (show -((-r.1) / (-k)) ≤ b.2 by omega) this
      | true =>
        refine ⟨bok_set hG ?_ h1.2, bltE_set hn hvn⟩
        split
        · exact h1.1
        · omega
def brfl (G : bE) (e : bF) (l : List (Nat × Int)) : Option bE := match l with
  | [] => some G
  | q :: t => match brf1 G e q.1 q.2 with
    | none => none
    | some G' => brfl G' e t
theorem brfl_ok {n : Nat} {p : Nat → Int} {e : bF} (he : bfv p e ≤ 0) : ∀ {l : List (Nat × Int)} {G : bE}, bok G p → bltE n G = true → bRf n p (brfl G e l) := by
  intro l
  induction l with
  | nil => intro G hG hn; exact ⟨hG, hn⟩
  | cons q t ih =>
    intro G hG hn
    have h1 := brf1_ok hG hn he q.1 q.2
    simp only [brfl]
    cases h2 : brf1 G e q.1 q.2 with
    | none => rw [h2] at h1; exact h1
    | some G' => rw [h2] at h1; exact ih h1.1 h1.2
/-- e is at most 0 -/
def bnp (G : bE) (e : bF) : Option bE := match e.2 with
  | [] => (match decide (e.1 ≤ 0) with
    | true => some G
    | false => none)
  | _ => brfl G e e.2
theorem bnp_ok {n : Nat} {G : bE} {p : Nat → Int} (hG : bok G p) (hn : bltE n G = true) {e : bF} (he : bfv p e ≤ 0) : bRf n p (bnp G e) := by
  unfold bnp
  split
  · rename_i h0
    have e1 : bfv p e = e.1 := by simp only [bfv, h0, bsm]; omega
    cases h : decide (e.1 ≤ 0) with
    | true => exact ⟨hG, hn⟩
    | false =>
      have := of_decide_eq_false h
      exact absurd (by rw [← e1]; exact he) this
  · exact brfl_ok he hG hn
/-- e is not 0: an end of its only unknown falls -/
def bnz (G : bE) (e : bF) : Option bE := match e.2 with
  | [] => (match decide (e.1 = 0) with
    | true => none
    | false => some G)
  | [q] => (match decide (q.2 = 1) with
    | true => (match blk G q.1 with
      | none => some G
      | some b => match decide (b.1 = -e.1) with
        | true => (match decide (b.1 + 1 ≤ b.2) with
          | true => some ((q.1, b.1 + 1, b.2) :: G)
          | false => none)
        | false => match decide (b.2 = -e.1) with
          | true => some ((q.1, b.1, b.2 - 1) :: G)
          | false => some G)
    | false => some G)
  | _ => some G
theorem bnz_ok {n : Nat} {G : bE} {p : Nat → Int} (hG : bok G p) (hn : bltE n G = true) {e : bF} (he : bfv p e ≠ 0) : bRf n p (bnz G e) := by
  unfold bnz
  split
  · rename_i h0
    have e1 : bfv p e = e.1 := by simp only [bfv, h0, bsm]; omega
    cases h : decide (e.1 = 0) with
    | true => exact absurd (e1.trans (of_decide_eq_true h)) he
    | false => exact ⟨hG, hn⟩
  · rename_i q h0
    have e1 : bfv p e = e.1 + q.2 * p q.1 := by simp only [bfv, h0, bsm]; omega
    cases h : decide (q.2 = 1) with
    | false => exact ⟨hG, hn⟩
    | true =>
      rw [of_decide_eq_true h, Int.one_mul] at e1
      simp only
      cases hb : blk G q.1 with
      | none => exact ⟨hG, hn⟩
      | some b =>
        have h1 := hG q.1 b.1 b.2 hb
        have hv := blk_lt hn hb
        simp only
        cases h2 : decide (b.1 = -e.1) with
        | true =>
          have h2 := of_decide_eq_true h2
          simp only
          cases h3 : decide (b.1 + 1 ≤ b.2) with
          | true => exact ⟨bok_set hG (by omega) h1.2, bltE_set hn hv⟩
          | false =>
            have := of_decide_eq_false h3
            show False
            omega
        | false =>
          simp only
          cases h3 : decide (b.2 = -e.1) with
          | true =>
            have h3 := of_decide_eq_true h3
            exact ⟨bok_set hG h1.1 (by omega), bltE_set hn hv⟩
          | false => exact ⟨hG, hn⟩
  · exact ⟨hG, hn⟩
/-- what a comparison says -/
def bcm (c : Jvm.ClassFile.Cond) (G : bE) (f g : bF) : Option bE := match c with
  | .lt => bnp G (badd (bsub f g) (bcn 1))
  | .le => bnp G (bsub f g)
  | .gt => bnp G (badd (bsub g f) (bcn 1))
  | .ge => bnp G (bsub g f)
  | .eq => (match bnp G (bsub f g) with
    | none => none
    | some G' => bnp G' (bsub g f))
  | .ne => bnz G (bsub f g)
def bngc (c : Jvm.ClassFile.Cond) : Jvm.ClassFile.Cond := match c with
  | .lt => .ge
  | .le => .gt
  | .gt => .le
  | .ge => .lt
  | .eq => .ne
  | .ne => .eq
theorem bcn_v {p : Nat → Int} {c : Int} : bfv p (bcn c) = c := by simp only [bfv, bcn, bsm]; omega
theorem bcm_ok {n : Nat} {G : bE} {p : Nat → Int} (hG : bok G p) (hn : bltE n G = true) {c : Jvm.ClassFile.Cond} {f g : bF} {x y : Int32} (hx : x.toInt = bfv p f) (hy : y.toInt = bfv p g) (h : xcm c x y) : bRf n p (bcm c G f g) := by
  cases c with
  | lt =>
    have := Int32.lt_iff_toInt_lt.mp h
    exact bnp_ok hG hn (by rw [badd_ok, bsub_ok, bcn_v]; omega)
  | le =>
    have := Int32.le_iff_toInt_le.mp h
    exact bnp_ok hG hn (by rw [bsub_ok]; omega)
  | gt =>
    have := Int32.lt_iff_toInt_lt.mp h
    exact bnp_ok hG hn (by rw [badd_ok, bsub_ok, bcn_v]; omega)
  | ge =>
    have := Int32.le_iff_toInt_le.mp h
    exact bnp_ok hG hn (by rw [bsub_ok]; omega)
  | eq =>
    have e1 : x = y := h
    subst e1
    have h1 := bnp_ok hG hn (e := bsub f g) (by rw [bsub_ok]; omega)
    simp only [bcm]
    cases h2 : bnp G (bsub f g) with
    | none => rw [h2] at h1; exact h1
    | some G' =>
      rw [h2] at h1
      exact bnp_ok h1.1 h1.2 (by rw [bsub_ok]; omega)
  | ne =>
    have h1 : ¬ x = y := h
    exact bnz_ok hG hn (by
      rw [bsub_ok]
      intro q
      exact h1 (Int32.toInt_inj.mp (by omega)))
theorem xcm_neg {c : Jvm.ClassFile.Cond} {x y : Int32} (h : ¬ xcm c x y) : xcm (bngc c) x y := by
  cases c with
  | eq => exact h
  | ne => exact Classical.not_not.mp h
  | lt => exact Int32.not_lt.mp h
  | ge => exact Int32.not_le.mp h
  | gt => exact Int32.not_lt.mp h
  | le => exact Int32.not_le.mp h
