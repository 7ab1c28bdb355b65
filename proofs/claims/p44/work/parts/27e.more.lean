-- ===== longs in locals, sums of longs, chars, static arrays, String constants
def bs2 (la : bL) (i_ : Nat) (v_ : bV) : bL := (i_, v_) :: la.filter (fun q_ => !(Nat.beq q_.1 i_) && (!(Nat.beq q_.1 (i_ + 1)) && !(Nat.beq (q_.1 + 1) i_ && blg la q_.1)))
theorem bs2_ok {p : Nat → Int} {i_ : Nat} {v_ : bV} {t_ : Jvm.Term} (g_ : bga p v_ t_) {la : bL} {lo : xL} (h : bLr p la lo) : bLr p (bs2 la i_ v_) (xs2 lo i_ t_) := by
  intro k_ w_ hw
  unfold bs2 at hw
  unfold xs2
  simp only [blL] at hw
  simp only [xlk]
  cases e : Nat.beq i_ k_ with
  | true =>
    rw [e] at hw
    cases hw
    exact ⟨t_, rfl, g_⟩
  | false =>
    rw [e] at hw
    simp only at hw ⊢
    have k1_ := blL_filter (g := fun m_ => !(Nat.beq m_ i_) && (!(Nat.beq m_ (i_ + 1)) && !(Nat.beq (m_ + 1) i_ && blg la m_))) hw
    obtain ⟨u_, u1_, u2_⟩ := h k_ w_ k1_.1
    refine ⟨u_, xlk_filter u1_ ?_, u2_⟩
    have k2_ := k1_.2
    simp only [blg, k1_.1, ← bga_G u2_] at k2_
    exact k2_
theorem bs2_l {n i_ : Nat} {v_ : bV} {la : bL} (hv : bvl n v_ = true) (h : bLl n la = true) : bLl n (bs2 la i_ v_) = true := by
  unfold bLl bs2
  simp only [List.all_cons, Bool.and_eq_true]
  refine ⟨hv, List.all_eq_true.mpr (fun q_ hq => List.all_eq_true.mp h q_ (List.mem_filter.mp hq).1)⟩
/-- the least and the most of a static array -/
def bmm (l : List Int) : Int × Int := match l with
  | [] => (0, 0)
  | y_ :: t_ => match t_ with
    | [] => ((Int32.ofInt y_).toInt, (Int32.ofInt y_).toInt)
    | _ => (if (Int32.ofInt y_).toInt ≤ (bmm t_).1 then (Int32.ofInt y_).toInt else (bmm t_).1, if (bmm t_).2 ≤ (Int32.ofInt y_).toInt then (Int32.ofInt y_).toInt else (bmm t_).2)
theorem bmm_ok : ∀ {l : List Int} {y_ : Int}, y_ ∈ l → (bmm l).1 ≤ (Int32.ofInt y_).toInt ∧ (Int32.ofInt y_).toInt ≤ (bmm l).2 := by
  intro l
  induction l with
  | nil => intro y_ h; cases h
  | cons x_ t_ ih_ =>
    intro y_ h
    cases t_ with
    | nil =>
      have e := List.mem_singleton.mp h
      subst e
      exact ⟨Int.le_refl _, Int.le_refl _⟩
    | cons x2_ t2_ =>
      have e : bmm (x_ :: x2_ :: t2_) = (if (Int32.ofInt x_).toInt ≤ (bmm (x2_ :: t2_)).1 then (Int32.ofInt x_).toInt else (bmm (x2_ :: t2_)).1, if (bmm (x2_ :: t2_)).2 ≤ (Int32.ofInt x_).toInt then (Int32.ofInt x_).toInt else (bmm (x2_ :: t2_)).2) := rfl
      rw [e]
      rcases List.mem_cons.mp h with h1 | h1
      · subst h1
        constructor <;> (simp only; split <;> omega)
      · have := ih_ h1
        constructor <;> (simp only; split <;> omega)
noncomputable def bsmo (mi pc : Nat) (e : Instr × Nat × List Nat) (G : bE) (n : Nat) (la : bL) (sa : List bV) (ov : bO) : Option bQ := match e.1 with
  | .getstatic _ => match e.2.2 with
    | [_, j_] => (match Nat.ble j_ 49 with
      | true => some (pc + 3, G, n, la, some (.inr [.arg (150 + j_)]) :: sa, ov)
      | false => none)
    | _ => none
  | .ldc _ => match e.2.2 with
    | [_, k_, _] => (match Nat.ble k_ 40 with
      | true => some (pc + 2, G, n, la, some (.inr [.arg (101 + k_)]) :: sa, ov)
      | false => none)
    | _ => none
  | .lload i_ => match blL la i_ with
    | some none => blng pc 2 G n la sa ov
    | _ => none
  | .lconst _ => blng pc 1 G n la sa ov
  | .ladd => match sa with
    | none :: none :: s_ => blng pc 1 G n la s_ ov
    | _ => none
  | .lsub => match sa with
    | none :: none :: s_ => blng pc 1 G n la s_ ov
    | _ => none
  | .i2c => match sa with
    | some (.inl _) :: s_ => bany pc G n la s_ ov 0 65535
    | _ => none
  | .lstore_n i_ => match sa with
    | none :: s_ => (match Nat.ble (i_.val + 2) (xm mi) with
      | true => some (pc + 1, G, n, bs2 la i_.val none, s_, ov)
      | false => none)
    | _ => none
  | .lstore i_ => match sa with
    | none :: s_ => (match Nat.ble (i_ + 2) (xm mi) with
      | true => some (pc + 2, G, n, bs2 la i_ none, s_, ov)
      | false => none)
    | _ => none
  | .iaload => match sa with
    | some (.inl f_) :: some (.inr [.arg z_]) :: s_ => (match Nat.ble 150 z_ && Nat.ble z_ 199 with
      | false => none
      | true => match xsta (z_ - 150) with
        | none => none
        | some q_ => match brg G f_ with
          | none => none
          | some b_ => match decide (0 ≤ b_.1) && decide (b_.2 < (q_.2.2.2.length : Int)) with
            | false => none
            | true => match decide (b_.1 = b_.2) with
              | true => some (pc + 1, G, n, la, bint (Int32.ofInt (q_.2.2.2.getD b_.1.toNat 0)) :: s_, ov)
              | false => bany pc G n la s_ ov (bmm q_.2.2.2).1 (bmm q_.2.2.2).2)
    | _ => none
  | _ => none
section
variable {Z : List (Nat × Nat)} {I : Nat → Nat → Option bN} {W : bW} {p : Nat → Int} {mi pc : Nat} {e : Instr × Nat × List Nat} {G : bE} {n : Nat} {la : bL} {sa : List bV} {ov : bO} {lo : xL} {st : List Jvm.Term} {h : xH}
theorem bR_store2 (R : bR Z I p (G, n, la, sa, ov) lo st h) {v_ : bV} {t_ : Jvm.Term} (i_ : Nat) (hv : bvl n v_ = true) (g_ : bga p v_ t_) : bR Z I p (G, n, bs2 la i_ v_, sa, ov) (xs2 lo i_ t_) st h := by
  obtain ⟨r1_, r2, r3, r4, r5_, r6, r7, r8, r9, rx_⟩ := R
  refine ⟨r1_, r2, bs2_l hv r3, r4, r5_, bs2_ok g_ r6, r7, r8, r9, ?_⟩
  unfold xok at rx_ ⊢
  simp only [Bool.and_eq_true] at rx_ ⊢
  refine ⟨?_, rx_.2⟩
  unfold xs2
  simp only [List.all_cons, Bool.and_eq_true]
  exact ⟨bga_x g_, List.all_eq_true.mpr (fun q_ hq => List.all_eq_true.mp rx_.1 q_ (List.mem_filter.mp hq).1)⟩
theorem bSt_store2 {w_ i_ : Nat} {v_ : bV} {t_ : Jvm.Term} {s_ : List Jvm.Term} (R : bR Z I p (G, n, la, sa, ov) lo s_ h) (hv : bvl n v_ = true) (g_ : bga p v_ t_) (hx : ∀ kk : Nat → xL → List Jvm.Term → xH → List xB → Option xO, xsp mi pc e lo st h [] kk = kk (pc + w_) (xs2 lo i_ t_) s_ h []) : bSt Z I W p mi pc e n lo st h (pc + w_, G, n, bs2 la i_ v_, sa, ov) :=
  ⟨p, xs2 lo i_ t_, s_, h, fun _ _ => rfl, Nat.le_refl _, bR_store2 R i_ hv g_, bfr_rfl, hx⟩
theorem barg {k_ : Nat} (h1 : 100 ≤ k_) (h2 : k_ < 200) : xF (.arg k_) = true := by
  have e1_ : xiv k_ = false := by
    unfold xiv
    have a_ : Nat.ble k_ 49 = false := by
      cases e : Nat.ble k_ 49 with
      | false => rfl
      | true => have := Nat.le_of_ble_eq_true e; omega
    have b_ : Nat.ble 200 k_ = false := by
      cases e : Nat.ble 200 k_ with
      | false => rfl
      | true => have := Nat.le_of_ble_eq_true e; omega
    rw [a_, b_]
    rfl
  have e2_ : Nat.ble k_ 99 = false := by
    cases e : Nat.ble k_ 99 with
    | false => rfl
    | true => have := Nat.le_of_ble_eq_true e; omega
  simp only [xF, e1_, e2_, cond_false]
theorem bsmo_ok {q_ : bQ} (R : bR Z I p (G, n, la, sa, ov) lo st h) (hs : bsmo mi pc e G n la sa ov = some q_) : bSt Z I W p mi pc e n lo st h q_ := by
  obtain ⟨i_, ln, ax⟩ := e
  cases i_ with
  | getstatic idx_ =>
    simp only [bsmo] at hs
    rcases ax with _ | ⟨x0_, _ | ⟨j_, _ | ⟨x9, t9⟩⟩⟩ <;> first | (cases hs; done) | skip
    simp only at hs
    cases hj : Nat.ble j_ 49 with
    | false => rw [hj] at hs; cases hs
    | true =>
      rw [hj] at hs
      cases hs
      have := Nat.le_of_ble_eq_true hj
      exact bSt_push (t := .arg (150 + j_)) R rfl ⟨List.mem_cons_self, barg (by omega) (by omega), rfl⟩ (fun kk => by simp only [xsp])
  | ldc idx_ =>
    simp only [bsmo] at hs
    rcases ax with _ | ⟨x0_, _ | ⟨j_, _ | ⟨x9, _ | ⟨x8, t9⟩⟩⟩⟩ <;> first | (cases hs; done) | skip
    simp only at hs
    cases hj : Nat.ble j_ 40 with
    | false => rw [hj] at hs; cases hs
    | true =>
      rw [hj] at hs
      cases hs
      have := Nat.le_of_ble_eq_true hj
      exact bSt_push (t := .arg (101 + j_)) R rfl ⟨List.mem_cons_self, barg (by omega) (by omega), rfl⟩ (fun kk => by simp only [xsp])
  | lload i_ =>
    simp only [bsmo] at hs
    split at hs
    · rename_i hf
      obtain ⟨r1_, r2, r3, r4, r5_, r6, r7, r8, r9, rx_⟩ := R
      obtain ⟨t_, ht, x_, rfl⟩ := blL_ok r6 hf
      exact bSt_lng (x_ := x_) ⟨r1_, r2, r3, r4, r5_, r6, r7, r8, r9, rx_⟩ hs (fun kk => by simp only [xsp, ht, xG, cond_true])
    · cases hs
  | lconst m_ =>
    simp only [bsmo] at hs
    exact bSt_lng (x_ := Int64.ofNat m_.val) R hs (fun kk => by simp only [xsp])
  | ladd =>
    simp only [bsmo] at hs
    split at hs
    · obtain ⟨t_, s_, rfl⟩ := bR_top R
      obtain ⟨R1, hv, y_, rfl⟩ := bR_pop R
      obtain ⟨t_, s_, rfl⟩ := bR_top R1
      obtain ⟨R2, hw, x_, rfl⟩ := bR_pop R1
      exact bSt_lng (x_ := xtl (xo2 .ladd (.long x_) (.long y_))) R2 hs (fun kk => by simp only [xsp, xG, Bool.and_self, cond_true, xl2])
    · cases hs
  | lsub =>
    simp only [bsmo] at hs
    split at hs
    · obtain ⟨t_, s_, rfl⟩ := bR_top R
      obtain ⟨R1, hv, y_, rfl⟩ := bR_pop R
      obtain ⟨t_, s_, rfl⟩ := bR_top R1
      obtain ⟨R2, hw, x_, rfl⟩ := bR_pop R1
      exact bSt_lng (x_ := xtl (xo2 .lsub (.long x_) (.long y_))) R2 hs (fun kk => by simp only [xsp, xG, Bool.and_self, cond_true, xl2])
    · cases hs
  | i2c =>
    simp only [bsmo] at hs
    split at hs
    · obtain ⟨t_, s_, rfl⟩ := bR_top R
      obtain ⟨R1, hv, x_, rfl, hx⟩ := bR_pop R
      have hc_ : 0 ≤ ((x_.toUInt32 % 65536).toInt32).toInt ∧ ((x_.toUInt32 % 65536).toInt32).toInt ≤ 65535 := by
        have h1 : (x_.toUInt32 % 65536).toNat < 65536 := by
          rw [UInt32.toNat_mod]
          exact Nat.mod_lt _ (by decide)
        have h2 : ((x_.toUInt32 % 65536).toInt32).toInt = (((x_.toUInt32 % 65536).toNat : Nat) : Int) := by
          show ((x_.toUInt32 % 65536).toBitVec).toInt = _
          rw [BitVec.toInt_eq_toNat_of_lt (by
            show 2 * (x_.toUInt32 % 65536).toNat < 2 ^ 32
            omega)]
          rfl
        omega
      exact bSt_any (x := (x_.toUInt32 % 65536).toInt32) R1 hc_.1 hc_.2 hs (fun kk => by simp only [xsp, xI, cond_true, xb1, xlit, xo1, xti])
    · cases hs
  | lstore_n i_ =>
    simp only [bsmo] at hs
    split at hs
    · obtain ⟨t_, s_, rfl⟩ := bR_top R
      obtain ⟨R1, hv, x_, rfl⟩ := bR_pop R
      cases hk : Nat.ble (i_.val + 2) (xm mi) with
      | false => rw [hk] at hs; cases hs
      | true =>
        rw [hk] at hs
        cases hs
        exact bSt_store2 (t_ := .long x_) R1 rfl ⟨x_, rfl⟩ (fun kk => by simp only [xsp, xG, hk, Bool.and_self, cond_true, xfL_eq, xfN_eq])
    · cases hs
  | lstore i_ =>
    simp only [bsmo] at hs
    split at hs
    · obtain ⟨t_, s_, rfl⟩ := bR_top R
      obtain ⟨R1, hv, x_, rfl⟩ := bR_pop R
      cases hk : Nat.ble (i_ + 2) (xm mi) with
      | false => rw [hk] at hs; cases hs
      | true =>
        rw [hk] at hs
        cases hs
        exact bSt_store2 (t_ := .long x_) R1 rfl ⟨x_, rfl⟩ (fun kk => by simp only [xsp, xG, hk, Bool.and_self, cond_true, xfL_eq, xfN_eq])
    · cases hs
  | iaload =>
    simp only [bsmo] at hs
    split at hs
    · rename_i f_ z_ s_
      cases hz : (Nat.ble 150 z_ && Nat.ble z_ 199) with
      | false => rw [hz] at hs; cases hs
      | true =>
      rw [hz] at hs
      simp only at hs
      cases hq : xsta (z_ - 150) with
      | none => rw [hq] at hs; cases hs
      | some q0 =>
      rw [hq] at hs
      simp only at hs
      cases hb_ : brg G f_ with
      | none => rw [hb_] at hs; cases hs
      | some b_ =>
      rw [hb_] at hs
      simp only at hs
      cases hk : (decide (0 ≤ b_.1) && decide (b_.2 < (q0.2.2.2.length : Int))) with
      | false => rw [hk] at hs; cases hs
      | true =>
      rw [hk] at hs
      simp only [Bool.and_eq_true, decide_eq_true_eq] at hk
      obtain ⟨t_, s1_, rfl⟩ := bR_top R
      obtain ⟨R1, hv, x_, rfl, hx⟩ := bR_pop R
      obtain ⟨t_, s2_, rfl⟩ := bR_top R1
      obtain ⟨R2, -, g2⟩ := bR_pop R1
      have e2_ := List.mem_singleton.mp g2.1
      subst e2_
      have k2_ := brg_ok R.1 (a := b_.1) (b := b_.2) hb_
      have hz2 := hz
      simp only [Bool.and_eq_true] at hz2
      have hz1 := Nat.le_of_ble_eq_true hz2.1
      have e100_ : Nat.beq z_ 100 = false := by
        cases e : Nat.beq z_ 100 with
        | false => rfl
        | true => have := Nat.eq_of_beq_eq_true e; omega
      have hxi : xix (.int x_) q0.2.2.2.length = some x_.toInt.toNat := xix_at (by omega) (by omega)
      have hlt : x_.toInt.toNat < q0.2.2.2.length := by omega
      have hmem : q0.2.2.2.getD x_.toInt.toNat 0 ∈ q0.2.2.2 := by
        rw [List.getD_eq_getElem?_getD, List.getElem?_eq_getElem hlt]
        exact List.getElem_mem hlt
      have km := bmm_ok hmem
      cases hd : decide (b_.1 = b_.2) with
      | true =>
        rw [hd] at hs
        cases hs
        have hd1 := of_decide_eq_true hd
        rw [show b_.1 = x_.toInt by omega]
        exact bSt_push R2 rfl bint_ok (fun kk => by simp only [xsp, e100_, Bool.false_and, cond_false, hz, cond_true, hq, hxi])
      | false =>
      rw [hd] at hs
      exact bSt_any (x := Int32.ofInt (q0.2.2.2.getD x_.toInt.toNat 0)) R2 km.1 km.2 hs (fun kk => by simp only [xsp, e100_, Bool.false_and, cond_false, hz, cond_true, hq, hxi])
    · cases hs
  | _ => cases hs
end
