-- ===== a number of four digits, by them
def bdg (i_ : Nat) (S_ : bT) : Option bT := match blL S_.2.2.1 i_ with
  | some (some (.inl f_)) => (match decide (f_.1 = 0) with
    | false => none
    | true => match f_.2 with
      | [q_] => (match decide (q_.2 = 1) with
        | false => none
        | true => match blk S_.1 q_.1 with
          | none => none
          | some b_ => match decide (0 ≤ b_.1) && decide (b_.2 ≤ 9999) with
            | false => none
            | true => some ((S_.2.1 + 1 + 1 + 1, (if b_.2 ≤ 9 then b_.1 else 0), (if b_.2 ≤ 9 then b_.2 else 9)) :: (S_.2.1 + 1 + 1, (if b_.2 ≤ 99 then b_.1 / 10 else 0), (if b_.2 ≤ 99 then b_.2 / 10 else 9)) :: (S_.2.1 + 1, (if b_.2 ≤ 999 then b_.1 / 100 else 0), (if b_.2 ≤ 999 then b_.2 / 100 else 9)) :: (S_.2.1, b_.1 / 1000, b_.2 / 1000) :: S_.1, S_.2.1 + 1 + 1 + 1 + 1, (i_, some (.inl (0, [(S_.2.1, 1000), (S_.2.1 + 1, 100), (S_.2.1 + 1 + 1, 10), (S_.2.1 + 1 + 1 + 1, 1)]))) :: S_.2.2.1, S_.2.2.2.1, S_.2.2.2.2))
      | _ => none)
  | _ => none
def bdgo (o : Option Nat) (S_ : bT) : Option bT := match o with
  | none => none
  | some i_ => bdg i_ S_
/-- the form of the digits -/
def bdgf (n : Nat) : bF := (0, [(n, 1000), (n + 1, 100), (n + 1 + 1, 10), (n + 1 + 1 + 1, 1)])
theorem bdg_ok {Z : List (Nat × Nat)} {I : Nat → Nat → Option bN} {p : Nat → Int} {i_ : Nat} {S_ J_ : bT} {lo : xL} {st : List Jvm.Term} {h : xH} (R : bR Z I p S_ lo st h) (hs : bdg i_ S_ = some J_) : ∃ p', (∀ v_, v_ < S_.2.1 → p' v_ = p v_) ∧ S_.2.1 ≤ J_.2.1 ∧ bR Z I p' J_ lo st h ∧ (∀ f_, blL S_.2.2.1 i_ = some (some (.inl f_)) → bfv p' (bdgf S_.2.1) = bfv p f_) ∧ bltE S_.2.1 S_.1 = true ∧ S_.2.1 + 4 ≤ J_.2.1 := by
  obtain ⟨G, n, la, sa, ov⟩ := S_
  unfold bdg at hs
  simp only at hs
  split at hs
  · rename_i f_ hf
    cases h0 : decide (f_.1 = 0) with
    | false => rw [h0] at hs; cases hs
    | true =>
    rw [h0] at hs
    simp only at hs
    split at hs
    · rename_i q_ hq
      cases h1 : decide (q_.2 = 1) with
      | false => rw [h1] at hs; cases hs
      | true =>
      rw [h1] at hs
      simp only at hs
      cases hb_ : blk G q_.1 with
      | none => rw [hb_] at hs; cases hs
      | some b_ =>
      rw [hb_] at hs
      simp only at hs
      cases hd_ : (decide (0 ≤ b_.1) && decide (b_.2 ≤ 9999)) with
      | false => rw [hd_] at hs; cases hs
      | true =>
      rw [hd_] at hs
      cases hs
      simp only [Bool.and_eq_true, decide_eq_true_eq] at hd_
      have f0_ : f_.1 = 0 := of_decide_eq_true h0
      have f1_ : q_.2 = 1 := of_decide_eq_true h1
      have R0_ := R
      obtain ⟨r1_, r2, r3, r4, r5_, r6, r7, r8, r9, rx_⟩ := R0_
      obtain ⟨t_, t1_, x_, rfl, hx⟩ := blL_ok r6 hf
      have e0_ : bfv p f_ = p q_.1 := by simp only [bfv, hq, bsm, f0_, f1_]; omega
      rw [e0_] at hx
      have hin := r1_ q_.1 b_.1 b_.2 hb_
      rw [← hx] at hin
      have R1 := bR_new R (x := x_.toInt / 1000) (l := b_.1 / 1000) (u := b_.2 / 1000) (by omega) (by omega)
      have R2 := bR_new R1 (x := x_.toInt / 100 % 10) (l := if b_.2 ≤ 999 then b_.1 / 100 else 0) (u := if b_.2 ≤ 999 then b_.2 / 100 else 9) (by split <;> omega) (by split <;> omega)
      have R3 := bR_new R2 (x := x_.toInt / 10 % 10) (l := if b_.2 ≤ 99 then b_.1 / 10 else 0) (u := if b_.2 ≤ 99 then b_.2 / 10 else 9) (by split <;> omega) (by split <;> omega)
      have R4 := bR_new R3 (x := x_.toInt % 10) (l := if b_.2 ≤ 9 then b_.1 else 0) (u := if b_.2 ≤ 9 then b_.2 else 9) (by split <;> omega) (by split <;> omega)
      have d3_ : bup (bup (bup (bup p n (x_.toInt / 1000)) (n + 1) (x_.toInt / 100 % 10)) (n + 1 + 1) (x_.toInt / 10 % 10)) (n + 1 + 1 + 1) (x_.toInt % 10) (n + 1 + 1 + 1) = x_.toInt % 10 := bup_self
      have d2_ : bup (bup (bup (bup p n (x_.toInt / 1000)) (n + 1) (x_.toInt / 100 % 10)) (n + 1 + 1) (x_.toInt / 10 % 10)) (n + 1 + 1 + 1) (x_.toInt % 10) (n + 1 + 1) = x_.toInt / 10 % 10 := by rw [bup_ne (by omega)]; exact bup_self
      have d1_ : bup (bup (bup (bup p n (x_.toInt / 1000)) (n + 1) (x_.toInt / 100 % 10)) (n + 1 + 1) (x_.toInt / 10 % 10)) (n + 1 + 1 + 1) (x_.toInt % 10) (n + 1) = x_.toInt / 100 % 10 := by rw [bup_ne (by omega), bup_ne (by omega)]; exact bup_self
      have d0_ : bup (bup (bup (bup p n (x_.toInt / 1000)) (n + 1) (x_.toInt / 100 % 10)) (n + 1 + 1) (x_.toInt / 10 % 10)) (n + 1 + 1 + 1) (x_.toInt % 10) n = x_.toInt / 1000 := by rw [bup_ne (by omega), bup_ne (by omega), bup_ne (by omega)]; exact bup_self
      refine ⟨bup (bup (bup (bup p n (x_.toInt / 1000)) (n + 1) (x_.toInt / 100 % 10)) (n + 1 + 1) (x_.toInt / 10 % 10)) (n + 1 + 1 + 1) (x_.toInt % 10), fun v_ hv => ?_, (show n ≤ n + 1 + 1 + 1 + 1 by omega), ?_, ?_, r2, (show n + 4 ≤ n + 1 + 1 + 1 + 1 by omega)⟩
      · have hv : v_ < n := hv
        rw [bup_ne (by omega), bup_ne (by omega), bup_ne (by omega), bup_ne (by omega)]
      · have R5 := R4
        obtain ⟨s1_, s2_, s3_, s4_, s5, s6_, s7, s8, s9, sx⟩ := R5
        refine ⟨s1_, s2_, ?_, s4_, s5, ?_, s7, s8, s9, sx⟩
        · unfold bLl at s3_ ⊢
          simp only [List.all_cons, Bool.and_eq_true]
          refine ⟨?_, s3_⟩
          simp only [bvl, blt, List.all_cons, List.all_nil, Bool.and_true, Bool.and_eq_true]
          exact ⟨Nat.ble_eq_true_of_le (by omega), Nat.ble_eq_true_of_le (by omega), Nat.ble_eq_true_of_le (by omega), Nat.ble_eq_true_of_le (by omega)⟩
        · intro k_ v_ hk
          simp only [blL] at hk
          cases ek : Nat.beq i_ k_ with
          | true =>
            rw [ek] at hk
            cases hk
            rw [← Nat.eq_of_beq_eq_true ek]
            refine ⟨_, t1_, x_, rfl, ?_⟩
            simp only [bfv, bsm, d0_, d1_, d2_, d3_]
            omega
          | false =>
            rw [ek] at hk
            exact s6_ k_ v_ hk
      · intro f2_ hf2
        have e2_ : f2_ = f_ := by
          have hf3 : blL la i_ = some (some (.inl f2_)) := hf2
          rw [hf] at hf3
          cases hf3
          rfl
        rw [e2_, e0_, ← hx]
        show bfv _ (bdgf n) = _
        simp only [bdgf, bfv, bsm, d0_, d1_, d2_, d3_]
        omega
    · cases hs
  · cases hs
/-- a loop's state by the digits of the number that grows; and that number by them -/
def bldg (o : Option Nat) (v_ : Nat) (J_ : bT) : bT × bF := match o with
  | none => (J_, bvr v_)
  | some i_ => match blL J_.2.2.1 i_ with
    | some (some (.inl f_)) => (match decide (f_ = bvr v_) with
      | false => (J_, bvr v_)
      | true => match bdg i_ J_ with
        | none => (J_, bvr v_)
        | some K_ => (K_, bdgf J_.2.1))
    | _ => (J_, bvr v_)
theorem bldg_ok {Z : List (Nat × Nat)} {I : Nat → Nat → Option bN} {p : Nat → Int} {o : Option Nat} {v_ : Nat} {J_ : bT} {lo : xL} {st : List Jvm.Term} {h : xH} (R : bR Z I p J_ lo st h) (hv : v_ < J_.2.1) : ∃ p', (∀ w_, w_ < J_.2.1 → p' w_ = p w_) ∧ J_.2.1 ≤ (bldg o v_ J_).1.2.1 ∧ bR Z I p' (bldg o v_ J_).1 lo st h ∧ bfv p' (bldg o v_ J_).2 = p v_ ∧ blt (bldg o v_ J_).1.2.1 (bldg o v_ J_).2 = true := by
  have e1_ : bfv p (bvr v_) = p v_ := by simp only [bfv, bvr, bsm]; omega
  have base_ : ∃ p', (∀ w_, w_ < J_.2.1 → p' w_ = p w_) ∧ J_.2.1 ≤ J_.2.1 ∧ bR Z I p' J_ lo st h ∧ bfv p' (bvr v_) = p v_ ∧ blt J_.2.1 (bvr v_) = true := ⟨p, fun _ _ => rfl, Nat.le_refl _, R, e1_, by
    simp only [blt, bvr, List.all_cons, List.all_nil, Bool.and_true]
    exact Nat.ble_eq_true_of_le hv⟩
  unfold bldg
  cases o with
  | none => exact base_
  | some i_ =>
    simp only
    split
    · rename_i f_ hf
      cases hd_ : decide (f_ = bvr v_) with
      | false => exact base_
      | true =>
        have hfv := of_decide_eq_true hd_
        simp only
        cases hb_ : bdg i_ J_ with
        | none => exact base_
        | some K_ =>
          obtain ⟨p', a1_, a2, a3, a4, a5, a6⟩ := bdg_ok R hb_
          refine ⟨p', a1_, a2, a3, ?_, ?_⟩
          · show bfv p' (bdgf J_.2.1) = p v_
            rw [a4 f_ hf, hfv, e1_]
          · show blt K_.2.1 (bdgf J_.2.1) = true
            simp only [bdgf, blt, List.all_cons, List.all_nil, Bool.and_true, Bool.and_eq_true]
            exact ⟨Nat.ble_eq_true_of_le (by omega), Nat.ble_eq_true_of_le (by omega), Nat.ble_eq_true_of_le (by omega), Nat.ble_eq_true_of_le (by omega)⟩
    · exact base_
