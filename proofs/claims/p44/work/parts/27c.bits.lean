-- ===== bits, longs, signs
theorem bi_cond (x_ : Int32) : (2 * x_.toBitVec.toNat < 4294967296 ∧ x_.toInt = (x_.toBitVec.toNat : Int)) ∨ (4294967296 ≤ 2 * x_.toBitVec.toNat ∧ x_.toInt = (x_.toBitVec.toNat : Int) - 4294967296) := by
  have e : x_.toInt = x_.toBitVec.toInt := rfl
  have k_ := BitVec.toInt_eq_toNat_cond x_.toBitVec
  rw [← e] at k_
  by_cases hc_ : 2 * x_.toBitVec.toNat < 2 ^ 32
  · rw [if_pos hc_] at k_
    exact Or.inl ⟨by omega, k_⟩
  · rw [if_neg hc_] at k_
    exact Or.inr ⟨by omega, by omega⟩
theorem bi_nn {x_ : Int32} (h : 0 ≤ x_.toInt) : x_.toInt = (x_.toBitVec.toNat : Int) := by
  have l : x_.toBitVec.toNat < 2 ^ 32 := x_.toBitVec.isLt
  rcases bi_cond x_ with ⟨-, k_⟩ | ⟨-, k_⟩
  · exact k_
  · omega
theorem bi_small {x_ : Int32} (h : x_.toBitVec.toNat < 2147483648) : x_.toInt = (x_.toBitVec.toNat : Int) := by
  rcases bi_cond x_ with ⟨-, k_⟩ | ⟨k_, -⟩
  · exact k_
  · omega
theorem bi_and {x_ y_ : Int32} (h : 0 ≤ y_.toInt) : 0 ≤ (x_ &&& y_).toInt ∧ (x_ &&& y_).toInt ≤ y_.toInt := by
  have e : (x_ &&& y_).toBitVec = x_.toBitVec &&& y_.toBitVec := rfl
  have hy := bi_nn h
  have hn : (x_ &&& y_).toBitVec.toNat ≤ y_.toBitVec.toNat := by rw [e, BitVec.toNat_and]; exact Nat.and_le_right
  have hb_ := bi_hi y_
  have hs := bi_small (x_ := x_ &&& y_) (by omega)
  omega
theorem bi_or {x_ y_ : Int32} {k_ : Nat} (hk : k_ < 31) (hx : 0 ≤ x_.toInt) (hy : 0 ≤ y_.toInt) (h1 : x_.toInt < ((2 ^ k_ : Nat) : Int)) (h2 : y_.toInt < ((2 ^ k_ : Nat) : Int)) : 0 ≤ (x_ ||| y_).toInt ∧ (x_ ||| y_).toInt < ((2 ^ k_ : Nat) : Int) := by
  have e : (x_ ||| y_).toBitVec = x_.toBitVec ||| y_.toBitVec := rfl
  have ex_ := bi_nn hx
  have ey := bi_nn hy
  have hn : (x_ ||| y_).toBitVec.toNat < 2 ^ k_ := by
    rw [e, BitVec.toNat_or]
    exact Nat.or_lt_two_pow (by omega) (by omega)
  have hp : 2 ^ k_ < 2 ^ 31 := Nat.pow_lt_pow_right (by omega) hk
  have hs := bi_small (x_ := x_ ||| y_) (by omega)
  omega
theorem bi_xor {x_ y_ : Int32} {k_ : Nat} (hk : k_ < 31) (hx : 0 ≤ x_.toInt) (hy : 0 ≤ y_.toInt) (h1 : x_.toInt < ((2 ^ k_ : Nat) : Int)) (h2 : y_.toInt < ((2 ^ k_ : Nat) : Int)) : 0 ≤ (x_ ^^^ y_).toInt ∧ (x_ ^^^ y_).toInt < ((2 ^ k_ : Nat) : Int) := by
  have e : (x_ ^^^ y_).toBitVec = x_.toBitVec ^^^ y_.toBitVec := rfl
  have ex_ := bi_nn hx
  have ey := bi_nn hy
  have hn : (x_ ^^^ y_).toBitVec.toNat < 2 ^ k_ := by
    rw [e, BitVec.toNat_xor]
    exact Nat.xor_lt_two_pow (by omega) (by omega)
  have hp : 2 ^ k_ < 2 ^ 31 := Nat.pow_lt_pow_right (by omega) hk
  have hs := bi_small (x_ := x_ ^^^ y_) (by omega)
  omega
theorem bi_ushr8 (x_ : Int32) : 0 ≤ ((x_.toUInt32 >>> (Int32.toUInt32 8 &&& Int32.toUInt32 31)).toInt32).toInt ∧ ((x_.toUInt32 >>> (Int32.toUInt32 8 &&& Int32.toUInt32 31)).toInt32).toInt ≤ 16777215 := by
  have e8 : (Int32.toUInt32 8 &&& Int32.toUInt32 31) = (8 : UInt32) := by decide
  rw [e8]
  have e : ((x_.toUInt32 >>> (8 : UInt32)).toInt32).toBitVec.toNat = (x_.toUInt32 >>> (8 : UInt32)).toNat := rfl
  have e2_ : (x_.toUInt32 >>> (8 : UInt32)).toNat = x_.toUInt32.toNat >>> ((8 : UInt32).toNat % 32) := UInt32.toNat_shiftRight _ _
  have e3_ : ((8 : UInt32).toNat % 32) = 8 := by decide
  rw [e3_, Nat.shiftRight_eq_div_pow] at e2_
  have l : x_.toUInt32.toNat < 2 ^ 32 := x_.toUInt32.toBitVec.isLt
  have hs := bi_small (x_ := (x_.toUInt32 >>> (8 : UInt32)).toInt32) (by omega)
  omega
/-- both are one number -/
def bpn2 (G : bE) (f_ g_ : bF) : Option (Int32 × Int32) := match brg G f_ with
  | none => none
  | some a_ => match brg G g_ with
    | none => none
    | some b_ => match decide (a_.1 = a_.2) && decide (b_.1 = b_.2) with
      | true => some (Int32.ofInt a_.1, Int32.ofInt b_.1)
      | false => none
theorem bpn2_ok {G : bE} {p : Nat → Int} {f_ g_ : bF} {q_ : Int32 × Int32} {x_ y_ : Int32} (hG : bok G p) (h : bpn2 G f_ g_ = some q_) (hx : x_.toInt = bfv p f_) (hy : y_.toInt = bfv p g_) : x_ = q_.1 ∧ y_ = q_.2 := by
  unfold bpn2 at h
  cases h1 : brg G f_ with
  | none => rw [h1] at h; cases h
  | some a_ =>
  rw [h1] at h
  simp only at h
  cases h2 : brg G g_ with
  | none => rw [h2] at h; cases h
  | some b_ =>
  rw [h2] at h
  simp only at h
  cases h3 : (decide (a_.1 = a_.2) && decide (b_.1 = b_.2)) with
  | false => rw [h3] at h; cases h
  | true =>
    rw [h3] at h
    cases h
    simp only [Bool.and_eq_true, decide_eq_true_eq] at h3
    have e1_ := brg_ok hG (a := a_.1) (b := a_.2) h1
    have e2_ := brg_ok hG (a := b_.1) (b := b_.2) h2
    refine ⟨?_, ?_⟩
    · show x_ = Int32.ofInt a_.1
      rw [show a_.1 = x_.toInt by omega, Int32.ofInt_toInt]
    · show y_ = Int32.ofInt b_.1
      rw [show b_.1 = y_.toInt by omega, Int32.ofInt_toInt]
/-- both are not negative and less than 2 to that -/
def blp (k_ : Nat) (G : bE) (f_ g_ : bF) : Bool := match brg G f_ with
  | none => false
  | some r_ => match brg G g_ with
    | none => false
    | some s_ => (decide (0 ≤ r_.1) && decide (0 ≤ s_.1)) && (decide (r_.2 < ((2 ^ k_ : Nat) : Int)) && decide (s_.2 < ((2 ^ k_ : Nat) : Int)))
/-- longs pushed: nothing is known of them -/
def blng (pc w_ : Nat) (G : bE) (n : Nat) (la : bL) (s_ : List bV) (ov : bO) : Option bQ := some (pc + w_, G, n, la, none :: s_, ov)
def bsb (pc : Nat) (e : Instr × Nat × List Nat) (G : bE) (n : Nat) (la : bL) (sa : List bV) (ov : bO) : Option bQ := match e.1 with
  | .iand => match sa with
    | some (.inl g_) :: some (.inl _) :: s_ => match brg G g_ with
      | none => none
      | some r_ => match decide (0 ≤ r_.1) with
        | true => bany pc G n la s_ ov 0 r_.2
        | false => bany pc G n la s_ ov (-2147483648) 2147483647
    | _ => none
  | .ior => match sa with
    | some (.inl g_) :: some (.inl f_) :: s_ => match blp 1 G f_ g_ with
      | true => bany pc G n la s_ ov 0 1
      | false => match blp 13 G f_ g_ with
        | true => bany pc G n la s_ ov 0 8191
        | false => bany pc G n la s_ ov (-2147483648) 2147483647
    | _ => none
  | .ixor => match sa with
    | some (.inl g_) :: some (.inl f_) :: s_ => match bpn2 G f_ g_ with
      | some q_ => some (pc + 1, G, n, la, bint (q_.1 ^^^ q_.2) :: s_, ov)
      | none => match blp 1 G f_ g_ with
        | true => bany pc G n la s_ ov 0 1
        | false => match blp 6 G f_ g_ with
          | true => bany pc G n la s_ ov 0 63
          | false => bany pc G n la s_ ov (-2147483648) 2147483647
    | _ => none
  | .ishl => match sa with
    | some (.inl _) :: some (.inl _) :: s_ => bany pc G n la s_ ov (-2147483648) 2147483647
    | _ => none
  | .ishr => match sa with
    | some (.inl _) :: some (.inl _) :: s_ => bany pc G n la s_ ov (-2147483648) 2147483647
    | _ => none
  | .iushr => match sa with
    | some (.inl g_) :: some (.inl _) :: s_ => match g_.2 with
      | [] => (match decide (g_.1 = 8) with
        | true => bany pc G n la s_ ov 0 16777215
        | false => bany pc G n la s_ ov (-2147483648) 2147483647)
      | _ => bany pc G n la s_ ov (-2147483648) 2147483647
    | _ => none
  | .ineg => match sa with
    | some (.inl f_) :: s_ => bari pc G n la s_ ov (bscl (-1) f_)
    | _ => none
  | .i2b => match sa with
    | some (.inl _) :: s_ => bany pc G n la s_ ov (-2147483648) 2147483647
    | _ => none
  | .i2s => match sa with
    | some (.inl _) :: s_ => bany pc G n la s_ ov (-2147483648) 2147483647
    | _ => none
  | .l2i => match sa with
    | none :: s_ => bany pc G n la s_ ov (-2147483648) 2147483647
    | _ => none
  | .i2l => match sa with
    | some (.inl _) :: s_ => blng pc 1 G n la s_ ov
    | _ => none
  | .lushr => match sa with
    | some (.inl _) :: none :: s_ => blng pc 1 G n la s_ ov
    | _ => none
  | .lshr => match sa with
    | some (.inl _) :: none :: s_ => blng pc 1 G n la s_ ov
    | _ => none
  | .lshl => match sa with
    | some (.inl _) :: none :: s_ => blng pc 1 G n la s_ ov
    | _ => none
  | .land => match sa with
    | none :: none :: s_ => blng pc 1 G n la s_ ov
    | _ => none
  | .lor => match sa with
    | none :: none :: s_ => blng pc 1 G n la s_ ov
    | _ => none
  | .lload_n i_ => match blL la i_.val with
    | some none => blng pc 1 G n la sa ov
    | _ => none
  | .ldc2_w _ => match e.2.2 with
    | [_, _] => blng pc 3 G n la sa ov
    | _ => none
  | .invokestatic _ => match e.2.2 with
    | [_, cm, _, _, _] => match sa with
      | some (.inl g_) :: some (.inl f_) :: s_ => match Nat.ble s_.length 6 && s_.all (fun v_ => !(bgL v_)) with
        | false => none
        | true => match brg G f_ with
          | none => none
          | some r_ => match brg G g_ with
            | none => none
            | some q_ => match Nat.beq cm 901 with
              | true => (match decide (r_.2 ≤ q_.1) with
                | true => some (pc + 3, G, n, la, some (.inl g_) :: s_, ov)
                | false => match decide (q_.2 ≤ r_.1) with
                  | true => some (pc + 3, G, n, la, some (.inl f_) :: s_, ov)
                  | false => bany (pc + 2) G n la s_ ov (if r_.1 ≤ q_.1 then q_.1 else r_.1) (if r_.2 ≤ q_.2 then q_.2 else r_.2))
              | false => match Nat.beq cm 902 with
                | true => (match decide (r_.2 ≤ q_.1) with
                  | true => some (pc + 3, G, n, la, some (.inl f_) :: s_, ov)
                  | false => match decide (q_.2 ≤ r_.1) with
                    | true => some (pc + 3, G, n, la, some (.inl g_) :: s_, ov)
                    | false => bany (pc + 2) G n la s_ ov (if r_.1 ≤ q_.1 then r_.1 else q_.1) (if r_.2 ≤ q_.2 then r_.2 else q_.2))
                | false => none
      | _ => none
    | _ => none
  | _ => none
section
variable {Z : List (Nat × Nat)} {I : Nat → Nat → Option bN} {W : bW} {p : Nat → Int} {mi pc : Nat} {e : Instr × Nat × List Nat} {G : bE} {n : Nat} {la : bL} {sa : List bV} {ov : bO} {lo : xL} {st : List Jvm.Term} {h : xH}
theorem blp_ok {k_ : Nat} {f_ g_ : bF} {x_ y_ : Int32} (hG : bok G p) (h : blp k_ G f_ g_ = true) (hx : x_.toInt = bfv p f_) (hy : y_.toInt = bfv p g_) : (0 ≤ x_.toInt ∧ 0 ≤ y_.toInt) ∧ x_.toInt < ((2 ^ k_ : Nat) : Int) ∧ y_.toInt < ((2 ^ k_ : Nat) : Int) := by
  unfold blp at h
  cases hr : brg G f_ with
  | none => rw [hr] at h; cases h
  | some r_ =>
    rw [hr] at h
    simp only at h
    cases hq : brg G g_ with
    | none => rw [hq] at h; cases h
    | some s_ =>
      rw [hq] at h
      simp only [Bool.and_eq_true, decide_eq_true_eq] at h
      have h1 := brg_ok hG (a := r_.1) (b := r_.2) hr
      have h2 := brg_ok hG (a := s_.1) (b := s_.2) hq
      omega
theorem bSr_len {p : Nat → Int} : ∀ {s_ : List bV} {st : List Jvm.Term}, bSr p s_ st → s_.all (fun v_ => !(bgL v_)) = true → st.length = s_.length ∧ st.all (fun t_ => !(xG t_)) = true := by
  intro s_
  induction s_ with
  | nil => intro st k_ _; cases st with
    | nil => exact ⟨rfl, rfl⟩
    | cons u_ w_ => exact absurd k_ id
  | cons v_ t_ ih_ => intro st k_ h; cases st with
    | nil => exact absurd k_ id
    | cons u_ w_ =>
      simp only [List.all_cons, Bool.and_eq_true] at h
      have i1_ := ih_ k_.2 h.2
      refine ⟨by simp only [List.length_cons, i1_.1], ?_⟩
      simp only [List.all_cons, Bool.and_eq_true]
      exact ⟨by rw [bga_G k_.1]; exact h.1, i1_.2⟩
theorem bSt_lng {w_ : Nat} {x_ : Int64} {s_ : List Jvm.Term} {q_ : bQ} (R : bR Z I p (G, n, la, sa, ov) lo s_ h) (hs : blng pc w_ G n la sa ov = some q_) (hx : ∀ kk : Nat → xL → List Jvm.Term → xH → List xB → Option xO, xsp mi pc e lo st h [] kk = xpu pc w_ lo s_ h [] (.long x_) kk) : bSt Z I W p mi pc e n lo st h q_ := by
  cases hs
  exact bSt_push R rfl ⟨x_, rfl⟩ hx
theorem bSt_any3 {l u_ : Int} {x_ : Int32} {s_ : List Jvm.Term} {q_ : bQ} (R : bR Z I p (G, n, la, sa, ov) lo s_ h) (h1 : l ≤ x_.toInt) (h2 : x_.toInt ≤ u_) (hs : bany (pc + 2) G n la sa ov l u_ = some q_) (hx : ∀ kk : Nat → xL → List Jvm.Term → xH → List xB → Option xO, xsp mi pc e lo st h [] kk = xpu pc 3 lo s_ h [] (.int x_) kk) : bSt Z I W p mi pc e n lo st h q_ := by
  unfold bany at hs
  cases hb_ : decide (l = u_) with
  | true =>
    rw [hb_] at hs
    cases hs
    have hlu := of_decide_eq_true hb_
    exact bSt_push (w := 3) R rfl ⟨x_, rfl, by rw [bcn_v]; omega⟩ hx
  | false =>
    rw [hb_] at hs
    cases hs
    exact ⟨bup p n x_.toInt, lo, .int x_ :: s_, h, fun v_ hv => bup_ne (by omega), Nat.le_succ _, bR_push (bR_new R h1 h2) bvr_l ⟨x_, rfl, bvr_v.symm⟩, bfr_rfl, fun kk => (hx kk).trans (by simp only [xpu, xfT_eq, xfN_eq])⟩
set_option maxHeartbeats 8000000 in
theorem bsb_ok {q_ : bQ} (R : bR Z I p (G, n, la, sa, ov) lo st h) (hs : bsb pc e G n la sa ov = some q_) : bSt Z I W p mi pc e n lo st h q_ := by
  obtain ⟨i_, ln, ax⟩ := e
  have r1_ := R.1
  cases i_ with
  | iand =>
    simp only [bsb] at hs
    split at hs
    · rename_i g_ f_ s0_
      obtain ⟨t_, s_, rfl⟩ := bR_top R
      obtain ⟨R1, hv, y_, rfl, hy⟩ := bR_pop R
      obtain ⟨t_, s_, rfl⟩ := bR_top R1
      obtain ⟨R2, hw, x_, rfl, hx⟩ := bR_pop R1
      have hxs : ∀ kk : Nat → xL → List Jvm.Term → xH → List xB → Option xO, xsp mi pc (.iand, ln, ax) lo (.int y_ :: .int x_ :: s_) h [] kk = xpu pc 1 lo s_ h [] (.int (x_ &&& y_)) kk := fun kk => by simp only [xsp, xI, Bool.and_self, cond_true, xb2, xlit, xo2, xti]
      cases hr : brg G g_ with
      | none => rw [hr] at hs; cases hs
      | some r_ =>
        rw [hr] at hs
        simp only at hs
        have h1 := brg_ok r1_ (a := r_.1) (b := r_.2) hr
        cases hd_ : decide (0 ≤ r_.1) with
        | true =>
          rw [hd_] at hs
          have hd_ := of_decide_eq_true hd_
          have k_ := bi_and (x_ := x_) (y_ := y_) (by omega)
          exact bSt_any R2 k_.1 (by omega) hs hxs
        | false =>
          rw [hd_] at hs
          exact bSt_any R2 (bi_lo _) (bi_hi _) hs hxs
    · cases hs
  | ior =>
    simp only [bsb] at hs
    split at hs
    · rename_i g_ f_ s0_
      obtain ⟨t_, s_, rfl⟩ := bR_top R
      obtain ⟨R1, hv, y_, rfl, hy⟩ := bR_pop R
      obtain ⟨t_, s_, rfl⟩ := bR_top R1
      obtain ⟨R2, hw, x_, rfl, hx⟩ := bR_pop R1
      have hxs : ∀ kk : Nat → xL → List Jvm.Term → xH → List xB → Option xO, xsp mi pc (.ior, ln, ax) lo (.int y_ :: .int x_ :: s_) h [] kk = xpu pc 1 lo s_ h [] (.int (x_ ||| y_)) kk := fun kk => by simp only [xsp, xI, Bool.and_self, cond_true, xb2, xlit, xo2, xti]
      cases h1 : blp 1 G f_ g_ with
      | true =>
        rw [h1] at hs
        obtain ⟨⟨a1_, a2⟩, a3, a4⟩ := blp_ok r1_ h1 hx hy
        have k_ := bi_or (k_ := 1) (by omega) a1_ a2 a3 a4
        exact bSt_any R2 k_.1 (by have := k_.2; omega) hs hxs
      | false =>
        rw [h1] at hs
        simp only at hs
        cases h2 : blp 13 G f_ g_ with
        | true =>
          rw [h2] at hs
          obtain ⟨⟨a1_, a2⟩, a3, a4⟩ := blp_ok r1_ h2 hx hy
          have k_ := bi_or (k_ := 13) (by omega) a1_ a2 a3 a4
          exact bSt_any R2 k_.1 (by have := k_.2; omega) hs hxs
        | false =>
          rw [h2] at hs
          exact bSt_any R2 (bi_lo _) (bi_hi _) hs hxs
    · cases hs
  | ixor =>
    simp only [bsb] at hs
    split at hs
    · rename_i g_ f_ s0_
      obtain ⟨t_, s_, rfl⟩ := bR_top R
      obtain ⟨R1, hv, y_, rfl, hy⟩ := bR_pop R
      obtain ⟨t_, s_, rfl⟩ := bR_top R1
      obtain ⟨R2, hw, x_, rfl, hx⟩ := bR_pop R1
      have hxs : ∀ kk : Nat → xL → List Jvm.Term → xH → List xB → Option xO, xsp mi pc (.ixor, ln, ax) lo (.int y_ :: .int x_ :: s_) h [] kk = xpu pc 1 lo s_ h [] (.int (x_ ^^^ y_)) kk := fun kk => by simp only [xsp, xI, Bool.and_self, cond_true, xb2, xlit, xo2, xti]
      cases h0 : bpn2 G f_ g_ with
      | some q_ =>
        rw [h0] at hs
        cases hs
        obtain ⟨u1_, u2_⟩ := bpn2_ok r1_ h0 hx hy
        exact bSt_push R2 rfl bint_ok (fun kk => by rw [hxs kk, u1_, u2_])
      | none =>
      rw [h0] at hs
      simp only at hs
      cases h1 : blp 1 G f_ g_ with
      | true =>
        rw [h1] at hs
        obtain ⟨⟨a1_, a2⟩, a3, a4⟩ := blp_ok r1_ h1 hx hy
        have k_ := bi_xor (k_ := 1) (by omega) a1_ a2 a3 a4
        exact bSt_any R2 k_.1 (by have := k_.2; omega) hs hxs
      | false =>
        rw [h1] at hs
        simp only at hs
        cases h2 : blp 6 G f_ g_ with
        | true =>
          rw [h2] at hs
          obtain ⟨⟨a1_, a2⟩, a3, a4⟩ := blp_ok r1_ h2 hx hy
          have k_ := bi_xor (k_ := 6) (by omega) a1_ a2 a3 a4
          exact bSt_any R2 k_.1 (by have := k_.2; omega) hs hxs
        | false =>
          rw [h2] at hs
          exact bSt_any R2 (bi_lo _) (bi_hi _) hs hxs
    · cases hs
  | ishl =>
    simp only [bsb] at hs
    split at hs
    · obtain ⟨t_, s_, rfl⟩ := bR_top R
      obtain ⟨R1, hv, y_, rfl, hy⟩ := bR_pop R
      obtain ⟨t_, s_, rfl⟩ := bR_top R1
      obtain ⟨R2, hw, x_, rfl, hx⟩ := bR_pop R1
      exact bSt_any (x := x_ <<< (y_ &&& 31)) R2 (bi_lo _) (bi_hi _) hs (fun kk => by simp only [xsp, xI, Bool.and_self, cond_true, xb2, xlit, xo2, xti])
    · cases hs
  | ishr =>
    simp only [bsb] at hs
    split at hs
    · obtain ⟨t_, s_, rfl⟩ := bR_top R
      obtain ⟨R1, hv, y_, rfl, hy⟩ := bR_pop R
      obtain ⟨t_, s_, rfl⟩ := bR_top R1
      obtain ⟨R2, hw, x_, rfl, hx⟩ := bR_pop R1
      exact bSt_any (x := x_ >>> (y_ &&& 31)) R2 (bi_lo _) (bi_hi _) hs (fun kk => by simp only [xsp, xI, Bool.and_self, cond_true, xb2, xlit, xo2, xti])
    · cases hs
  | iushr =>
    simp only [bsb] at hs
    split at hs
    · rename_i g_ f_ s0_
      obtain ⟨t_, s_, rfl⟩ := bR_top R
      obtain ⟨R1, hv, y_, rfl, hy⟩ := bR_pop R
      obtain ⟨t_, s_, rfl⟩ := bR_top R1
      obtain ⟨R2, hw, x_, rfl, hx⟩ := bR_pop R1
      have hxs : ∀ kk : Nat → xL → List Jvm.Term → xH → List xB → Option xO, xsp mi pc (.iushr, ln, ax) lo (.int y_ :: .int x_ :: s_) h [] kk = xpu pc 1 lo s_ h [] (.int ((x_.toUInt32 >>> (y_.toUInt32 &&& Int32.toUInt32 31)).toInt32)) kk := fun kk => by simp only [xsp, xI, Bool.and_self, cond_true, xb2, xlit, xo2, xti]
      split at hs
      · rename_i hg
        cases hd_ : decide (g_.1 = 8) with
        | false =>
          rw [hd_] at hs
          exact bSt_any R2 (bi_lo _) (bi_hi _) hs hxs
        | true =>
          rw [hd_] at hs
          have hd_ := of_decide_eq_true hd_
          have e0_ : (8 : Int32).toInt = 8 := rfl
          have hy8 : y_ = 8 := Int32.toInt_inj.mp (by rw [hy, bcst_v hg, hd_, e0_])
          subst hy8
          have k_ := bi_ushr8 x_
          exact bSt_any R2 k_.1 k_.2 hs hxs
      · exact bSt_any R2 (bi_lo _) (bi_hi _) hs hxs
    · cases hs
  | ineg =>
    simp only [bsb] at hs
    split at hs
    · obtain ⟨t_, s_, rfl⟩ := bR_top R
      obtain ⟨R1, hv, x_, rfl, hx⟩ := bR_pop R
      refine bSt_ari (x := -x_) R1 (blt_scl hv) ?_ hs (fun kk => by simp only [xsp, xI, cond_true, xb1, xlit, xo1, xti])
      rw [bscl_ok, Int32.toInt_neg, hx]
      exact congrArg (fun z => Int.bmod z (2 ^ 32)) (by omega)
    · cases hs
  | i2b =>
    simp only [bsb] at hs
    split at hs
    · obtain ⟨t_, s_, rfl⟩ := bR_top R
      obtain ⟨R1, hv, x_, rfl, hx⟩ := bR_pop R
      exact bSt_any (x := x_.toInt8.toInt32) R1 (bi_lo _) (bi_hi _) hs (fun kk => by simp only [xsp, xI, cond_true, xb1, xlit, xo1, xti])
    · cases hs
  | i2s =>
    simp only [bsb] at hs
    split at hs
    · obtain ⟨t_, s_, rfl⟩ := bR_top R
      obtain ⟨R1, hv, x_, rfl, hx⟩ := bR_pop R
      exact bSt_any (x := x_.toInt16.toInt32) R1 (bi_lo _) (bi_hi _) hs (fun kk => by simp only [xsp, xI, cond_true, xb1, xlit, xo1, xti])
    · cases hs
  | l2i =>
    simp only [bsb] at hs
    split at hs
    · obtain ⟨t_, s_, rfl⟩ := bR_top R
      obtain ⟨R1, hv, x_, rfl⟩ := bR_pop R
      exact bSt_any (x := x_.toInt32) R1 (bi_lo _) (bi_hi _) hs (fun kk => by simp only [xsp, xG, cond_true, xl1])
    · cases hs
  | i2l =>
    simp only [bsb] at hs
    split at hs
    · obtain ⟨t_, s_, rfl⟩ := bR_top R
      obtain ⟨R1, hv, x_, rfl, hx⟩ := bR_pop R
      exact bSt_lng (x_ := x_.toInt64) R1 hs (fun kk => by simp only [xsp, xI, cond_true, xl0])
    · cases hs
  | lushr =>
    simp only [bsb] at hs
    split at hs
    · obtain ⟨t_, s_, rfl⟩ := bR_top R
      obtain ⟨R1, hv, y_, rfl, hy⟩ := bR_pop R
      obtain ⟨t_, s_, rfl⟩ := bR_top R1
      obtain ⟨R2, hw, x_, rfl⟩ := bR_pop R1
      exact bSt_lng (x_ := xtl (xo2 .lushr (.long x_) (.int y_))) R2 hs (fun kk => by simp only [xsp, xG, xI, Bool.and_self, cond_true, xl2])
    · cases hs
  | lshr =>
    simp only [bsb] at hs
    split at hs
    · obtain ⟨t_, s_, rfl⟩ := bR_top R
      obtain ⟨R1, hv, y_, rfl, hy⟩ := bR_pop R
      obtain ⟨t_, s_, rfl⟩ := bR_top R1
      obtain ⟨R2, hw, x_, rfl⟩ := bR_pop R1
      exact bSt_lng (x_ := xtl (xo2 .lshr (.long x_) (.int y_))) R2 hs (fun kk => by simp only [xsp, xG, xI, Bool.and_self, cond_true, xl2])
    · cases hs
  | lshl =>
    simp only [bsb] at hs
    split at hs
    · obtain ⟨t_, s_, rfl⟩ := bR_top R
      obtain ⟨R1, hv, y_, rfl, hy⟩ := bR_pop R
      obtain ⟨t_, s_, rfl⟩ := bR_top R1
      obtain ⟨R2, hw, x_, rfl⟩ := bR_pop R1
      exact bSt_lng (x_ := xtl (xo2 .lshl (.long x_) (.int y_))) R2 hs (fun kk => by simp only [xsp, xG, xI, Bool.and_self, cond_true, xl2])
    · cases hs
  | land =>
    simp only [bsb] at hs
    split at hs
    · obtain ⟨t_, s_, rfl⟩ := bR_top R
      obtain ⟨R1, hv, y_, rfl⟩ := bR_pop R
      obtain ⟨t_, s_, rfl⟩ := bR_top R1
      obtain ⟨R2, hw, x_, rfl⟩ := bR_pop R1
      exact bSt_lng (x_ := xtl (xo2 .land (.long x_) (.long y_))) R2 hs (fun kk => by simp only [xsp, xG, Bool.and_self, cond_true, xl2])
    · cases hs
  | lor =>
    simp only [bsb] at hs
    split at hs
    · obtain ⟨t_, s_, rfl⟩ := bR_top R
      obtain ⟨R1, hv, y_, rfl⟩ := bR_pop R
      obtain ⟨t_, s_, rfl⟩ := bR_top R1
      obtain ⟨R2, hw, x_, rfl⟩ := bR_pop R1
      exact bSt_lng (x_ := xtl (xo2 .lor (.long x_) (.long y_))) R2 hs (fun kk => by simp only [xsp, xG, Bool.and_self, cond_true, xl2])
    · cases hs
  | lload_n i_ =>
    simp only [bsb] at hs
    split at hs
    · rename_i hf
      obtain ⟨r1_, r2, r3, r4, r5_, r6, r7, r8, r9, rx_⟩ := R
      obtain ⟨t_, ht, x_, rfl⟩ := blL_ok r6 hf
      exact bSt_lng (x_ := x_) ⟨r1_, r2, r3, r4, r5_, r6, r7, r8, r9, rx_⟩ hs (fun kk => by simp only [xsp, ht, xG, cond_true])
    · cases hs
  | ldc2_w idx_ =>
    simp only [bsb] at hs
    rcases ax with _ | ⟨x0_, _ | ⟨m_, _ | ⟨x9, t9⟩⟩⟩ <;> first | (cases hs; done) | skip
    exact bSt_lng (x_ := Int64.ofNat m_) R hs (fun kk => by simp only [xsp])
  | invokestatic idx_ =>
    simp only [bsb] at hs
    rcases ax with _ | ⟨x0_, _ | ⟨cm, _ | ⟨a1_, _ | ⟨b1, _ | ⟨d1_, _ | ⟨x9, t9⟩⟩⟩⟩⟩⟩ <;> first | (cases hs; done) | skip
    simp only at hs
    split at hs
    · rename_i g_ f_ s0_
      cases hk : (Nat.ble s0_.length 6 && s0_.all (fun v_ => !(bgL v_))) with
      | false => rw [hk] at hs; cases hs
      | true =>
      rw [hk] at hs
      simp only at hs
      cases hr : brg G f_ with
      | none => rw [hr] at hs; cases hs
      | some r_ =>
      rw [hr] at hs
      simp only at hs
      cases hq : brg G g_ with
      | none => rw [hq] at hs; cases hs
      | some w_ =>
      rw [hq] at hs
      simp only at hs
      simp only [Bool.and_eq_true] at hk
      obtain ⟨t_, s_, rfl⟩ := bR_top R
      obtain ⟨R1, hv, y_, rfl, hy⟩ := bR_pop R
      obtain ⟨t_, s_, rfl⟩ := bR_top R1
      obtain ⟨R2, hw, x_, rfl, hx⟩ := bR_pop R1
      have h1 := brg_ok r1_ (a := r_.1) (b := r_.2) hr
      have h2 := brg_ok r1_ (a := w_.1) (b := w_.2) hq
      have key_ := bSr_len R2.2.2.2.2.2.2.1 hk.2
      have hle : Nat.ble s_.length 6 = true := by rw [key_.1]; exact hk.1
      cases hm_ : Nat.beq cm 901 with
      | true =>
        rw [hm_] at hs
        have hm2 := Nat.eq_of_beq_eq_true hm_
        subst hm2
        have em : (x_ < y_ ∧ xti (xo2 .fcmpl (.int x_) (.int y_)) = y_) ∨ (¬ x_ < y_ ∧ xti (xo2 .fcmpl (.int x_) (.int y_)) = x_) := by
          by_cases c_ : x_ < y_
          · exact Or.inl ⟨c_, if_pos c_⟩
          · exact Or.inr ⟨c_, if_neg c_⟩
        cases hd1 : decide (r_.2 ≤ w_.1) with
        | true =>
          rw [hd1] at hs
          cases hs
          have hd1 := of_decide_eq_true hd1
          refine bSt_push (t := .int (xti (xo2 .fcmpl (.int x_) (.int y_)))) R2 hv ⟨_, rfl, ?_⟩ (fun kk => by simp only [xsp, hle, key_.2, xI, Bool.and_self, cond_true, hm_, xb2, xlit])
          rcases em with ⟨c_, ce⟩ | ⟨c_, ce⟩
          · rw [ce]
            exact hy
          · rw [ce]
            have := Int32.le_iff_toInt_le.mp (Int32.not_lt.mp c_)
            omega
        | false =>
        rw [hd1] at hs
        simp only at hs
        cases hd2 : decide (w_.2 ≤ r_.1) with
        | true =>
          rw [hd2] at hs
          cases hs
          have hd2 := of_decide_eq_true hd2
          refine bSt_push (t := .int (xti (xo2 .fcmpl (.int x_) (.int y_)))) R2 hw ⟨_, rfl, ?_⟩ (fun kk => by simp only [xsp, hle, key_.2, xI, Bool.and_self, cond_true, hm_, xb2, xlit])
          rcases em with ⟨c_, ce⟩ | ⟨c_, ce⟩
          · rw [ce]
            have := Int32.lt_iff_toInt_lt.mp c_
            omega
          · rw [ce]
            exact hx
        | false =>
        rw [hd2] at hs
        simp only at hs
        refine bSt_any3 (x_ := xti (xo2 .fcmpl (.int x_) (.int y_))) R2 ?_ ?_ hs (fun kk => by simp only [xsp, hle, key_.2, xI, Bool.and_self, cond_true, hm_, xb2, xlit])
        · rcases em with ⟨c_, ce⟩ | ⟨c_, ce⟩
          · rw [ce]
            have := Int32.lt_iff_toInt_lt.mp c_
            split <;> omega
          · rw [ce]
            have := Int32.le_iff_toInt_le.mp (Int32.not_lt.mp c_)
            split <;> omega
        · rcases em with ⟨c_, ce⟩ | ⟨c_, ce⟩
          · rw [ce]
            have := Int32.lt_iff_toInt_lt.mp c_
            split <;> omega
          · rw [ce]
            have := Int32.le_iff_toInt_le.mp (Int32.not_lt.mp c_)
            split <;> omega
      | false =>
        rw [hm_] at hs
        simp only at hs
        cases hm2 : Nat.beq cm 902 with
        | false => rw [hm2] at hs; cases hs
        | true =>
          rw [hm2] at hs
          have em : (y_ < x_ ∧ xti (xo2 .fcmpg (.int x_) (.int y_)) = y_) ∨ (¬ y_ < x_ ∧ xti (xo2 .fcmpg (.int x_) (.int y_)) = x_) := by
            by_cases c_ : y_ < x_
            · exact Or.inl ⟨c_, if_pos c_⟩
            · exact Or.inr ⟨c_, if_neg c_⟩
          cases hd1 : decide (r_.2 ≤ w_.1) with
          | true =>
            rw [hd1] at hs
            cases hs
            have hd1 := of_decide_eq_true hd1
            refine bSt_push (t := .int (xti (xo2 .fcmpg (.int x_) (.int y_)))) R2 hw ⟨_, rfl, ?_⟩ (fun kk => by simp only [xsp, hle, key_.2, xI, Bool.and_self, cond_true, hm_, hm2, cond_false, xb2, xlit])
            rcases em with ⟨c_, ce⟩ | ⟨c_, ce⟩
            · rw [ce]
              have := Int32.lt_iff_toInt_lt.mp c_
              omega
            · rw [ce]
              exact hx
          | false =>
          rw [hd1] at hs
          simp only at hs
          cases hd2 : decide (w_.2 ≤ r_.1) with
          | true =>
            rw [hd2] at hs
            cases hs
            have hd2 := of_decide_eq_true hd2
            refine bSt_push (t := .int (xti (xo2 .fcmpg (.int x_) (.int y_)))) R2 hv ⟨_, rfl, ?_⟩ (fun kk => by simp only [xsp, hle, key_.2, xI, Bool.and_self, cond_true, hm_, hm2, cond_false, xb2, xlit])
            rcases em with ⟨c_, ce⟩ | ⟨c_, ce⟩
            · rw [ce]
              exact hy
            · rw [ce]
              have := Int32.le_iff_toInt_le.mp (Int32.not_lt.mp c_)
              omega
          | false =>
          rw [hd2] at hs
          simp only at hs
          refine bSt_any3 (x_ := xti (xo2 .fcmpg (.int x_) (.int y_))) R2 ?_ ?_ hs (fun kk => by simp only [xsp, hle, key_.2, xI, Bool.and_self, cond_true, hm_, hm2, cond_false, xb2, xlit])
          · rcases em with ⟨c_, ce⟩ | ⟨c_, ce⟩
            · rw [ce]
              have := Int32.lt_iff_toInt_lt.mp c_
              split <;> omega
            · rw [ce]
              have := Int32.le_iff_toInt_le.mp (Int32.not_lt.mp c_)
              split <;> omega
          · rcases em with ⟨c_, ce⟩ | ⟨c_, ce⟩
            · rw [ce]
              have := Int32.lt_iff_toInt_lt.mp c_
              split <;> omega
            · rw [ce]
              have := Int32.le_iff_toInt_le.mp (Int32.not_lt.mp c_)
              split <;> omega
    · cases hs
  | _ => cases hs
end
