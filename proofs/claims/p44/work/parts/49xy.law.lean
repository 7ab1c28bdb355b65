-- ===== THE LAW: a turn, with pairs
/-- so many ints -/
def lwI (n_ : Nat) : List bP := List.replicate n_ (some (.inl (-2147483648, 2147483647)))
theorem lwVs_ok (r_ : Nat → Value) (i_ : Nat) : ∀ js : List Nat, bPs (lwI js.length) (lwVs r_ i_ js) := by
  intro js
  induction js with
  | nil => trivial
  | cons j_ t_ ih_ =>
    have e_ : bqv (some (.inl (-2147483648, 2147483647))) (lwV r_ (i_ + j_)) := ⟨_, rfl, bi_lo _, bi_hi _⟩
    exact ⟨e_, ih_⟩
theorem lwVs_sz (r_ : Nat → Value) (i_ : Nat) : ∀ js : List Nat, xasz (lwVs r_ i_ js) = js.length := by
  intro js
  induction js with
  | nil => rfl
  | cons j_ t_ ih_ =>
    show 1 + xasz (lwVs r_ i_ t_) = t_.length + 1
    rw [ih_]
    omega
theorem lwVs_ln (r_ : Nat → Value) (i_ : Nat) (js : List Nat) : (lwVs r_ i_ js).length = js.length := List.length_map ..
def lwHalf (pc : Nat) (z_ : Fin 4) (cm a_ : Nat) (js : List Nat) : Bool := lwe pc (.aload_n z_, 1, []) && (lwArgs (pc + 1) js && (lwInv (pc + 1 + 5 * js.length) cm && lwM cm a_ js.length js.length))
def lwGt (pc : Nat) : Bool := match xcd xlaw pc with
  | some (.goto off_, 3, []) => decide ((pc : Int) + off_ = .ofNat 1676)
  | _ => false
def lwTurn (pc cmx cmm : Nat) (js : List Nat) : Bool := lwHalf pc 1 cmx 0 js && (lwe (pc + 4 + 5 * js.length) (.pop, 1, []) && (lwHalf (pc + 5 + 5 * js.length) 2 cmm 338 js && (lwe (pc + 9 + 10 * js.length) (.pop, 1, []) && lwGt (pc + 10 + 10 * js.length))))
/-- a turn of the law's from a place of its switch -/
def lwGg (RR : xH → Prop) (r_ : Nat → Value) (i_ pc : Nat) (h_ : xH) : Prop := ∃ h', xTr r_ 1000 xlaw pc (lwS i_) [] h_ 1676 (lwS i_) [] h' ∧ bInv bZ bIj h' ∧ bXm h' ∧ RR h'
def lwCe (pc : Nat) : Bool := match xcd xlaw pc with
  | some (.if_icmp .eq off_, 3, []) => decide ((pc : Int) + off_ = .ofNat 1676)
  | _ => false
def lwTurnC (pc cmx cmm : Nat) (js : List Nat) : Bool := lwHalf pc 1 cmx 0 js && (lwHalf (pc + 4 + 5 * js.length) 2 cmm 338 js && lwCe (pc + 8 + 10 * js.length))
/-- a pair of calls, one of each side, over a relation -/
def lwPg (RR : xH → Prop) (eq_ : Bool) (cmx cmm : Nat) (es : List bP) : Prop := ∀ (h_ : xH) (as_ : List Jvm.Term), bInv bZ bIj h_ → bXm h_ → RR h_ → bPs es as_ → ∃ (v_ : Int32) (h1 : xH), xrun 999 cmx 0 (xal 0 (.index 0 :: as_)) [] h_ (some (.int v_), h1, []) ∧ bInv bZ bIj h1 ∧ bXm h1 ∧ ∃ (v2 : Int32) (h2 : xH), xrun 999 cmm 0 (xal 0 (.index 338 :: as_)) [] h1 (some (.int v2), h2, []) ∧ bInv bZ bIj h2 ∧ bXm h2 ∧ RR h2 ∧ (eq_ = true → v_ = v2)
section
variable {r_ : Nat → Value} {i_ L_ : Nat} {h_ : xH}
theorem lw_gt (hT_ : xTok) {d_ pc : Nat} {lo_ : xL} {st_ : List Jvm.Term} (hc_ : lwGt pc = true) : xTr r_ d_ xlaw pc lo_ st_ h_ 1676 lo_ st_ h_ := by
  unfold lwGt at hc_
  split at hc_
  · rename_i off_ e_
    exact xTr_goto hT_ e_ (of_decide_eq_true hc_)
  · cases hc_
theorem lw_ce (hT_ : xTok) {d_ pc : Nat} {lo_ : xL} {st_ : List Jvm.Term} {v_ : Int32} (hc_ : lwCe pc = true) : xTr r_ d_ xlaw pc lo_ (.int v_ :: .int v_ :: st_) h_ 1676 lo_ st_ h_ := by
  unfold lwCe at hc_
  split at hc_
  · rename_i off_ e_
    exact xTr_icm (z_ := true) (t_ := 1676) hT_ e_ (of_decide_eq_true hc_) (decide_eq_true rfl)
  · cases hc_
theorem lw_half (hT_ : xTok) (hr : xRr r_) (hL : r_ 49 = .int (nI L_)) (hL31 : L_ < 2 ^ 31) (hi_ : i_ + 6 ≤ L_) {z_ : Fin 4} {pc cm a_ : Nat} {js : List Nat} {s' : List Jvm.Term} {h' : xH} {v_ : Int32} (hc_ : lwHalf pc z_ cm a_ js = true) (hz : xlk (lwS i_) z_.val = some (.index a_)) (hh : bInv bZ bIj h_) (hs : s' = [] ∨ ∃ u_, s' = [.int u_]) (S_ : xrun 999 cm 0 (xal 0 (.index a_ :: lwVs r_ i_ js)) [] h_ (some (.int v_), h', [])) (hw : xhw h') : xTr r_ 1000 xlaw pc (lwS i_) s' h_ (pc + 4 + 5 * js.length) (lwS i_) (.int v_ :: s') h' := by
  unfold lwHalf at hc_
  simp only [Bool.and_eq_true] at hc_
  obtain ⟨c1_, c2_, c3_, c4_⟩ := hc_
  have T1 : xTr r_ 1000 xlaw pc (lwS i_) s' h_ (pc + 1) (lwS i_) (.index a_ :: s') h_ := xTr_al hT_ (of_decide_eq_true c1_) hz rfl
  have T2 : xTr r_ 1000 xlaw (pc + 1) (lwS i_) (.index a_ :: s') h_ (pc + 1 + 5 * js.length) (lwS i_) ((lwVs r_ i_ js).reverse ++ .index a_ :: s') h_ := lw_args hT_ hL hL31 hi_ js (pc + 1) (.index a_ :: s') c2_
  have T3 : xTr r_ 1000 xlaw (pc + 1 + 5 * js.length) (lwS i_) ((lwVs r_ i_ js).reverse ++ .index a_ :: s') h_ (pc + 1 + 5 * js.length + 3) (lwS i_) (.int v_ :: s') h' := lw_call hT_ hr c3_ (by rw [lwVs_ln]; exact c4_) (lwVs_sz r_ i_ js) hh hs S_ hw
  have e_ : pc + 1 + 5 * js.length + 3 = pc + 4 + 5 * js.length := by omega
  rw [e_] at T3
  exact xTr_tt T1 (xTr_tt T2 T3)
theorem lw_turn {RR : xH → Prop} (hT_ : xTok) (hr : xRr r_) (hL : r_ 49 = .int (nI L_)) (hL31 : L_ < 2 ^ 31) (hi_ : i_ + 6 ≤ L_) (hh : bInv bZ bIj h_) (hX : bXm h_) (hR : RR h_) {pc cmx cmm : Nat} {js : List Nat} {eq_ : Bool} (hc_ : lwTurn pc cmx cmm js = true) (hp : lwPg RR eq_ cmx cmm (lwI js.length)) : lwGg RR r_ i_ pc h_ := by
  unfold lwTurn at hc_
  simp only [Bool.and_eq_true] at hc_
  obtain ⟨c1_, c2_, c3_, c4_, c5_⟩ := hc_
  obtain ⟨v1_, h1, S1, H1_, X1, K_⟩ := hp h_ _ hh hX hR (lwVs_ok r_ i_ js)
  obtain ⟨v2, h2, S2, H2_, X2, R2_, -⟩ := K_
  have T1 := lw_half (s' := []) hT_ hr hL hL31 hi_ c1_ rfl hh (Or.inl rfl) S1 H1_.2
  have T2 : xTr r_ 1000 xlaw (pc + 4 + 5 * js.length) (lwS i_) [.int v1_] h1 (pc + 4 + 5 * js.length + 1) (lwS i_) [] h1 := xTr_pop hT_ (of_decide_eq_true c2_)
  have T3 := lw_half (s' := []) hT_ hr hL hL31 hi_ c3_ rfl H1_ (Or.inl rfl) S2 H2_.2
  have e1_ : pc + 4 + 5 * js.length + 1 = pc + 5 + 5 * js.length := by omega
  have e2_ : pc + 5 + 5 * js.length + 4 + 5 * js.length = pc + 9 + 10 * js.length := by omega
  rw [e1_] at T2
  rw [e2_] at T3
  have T4 : xTr r_ 1000 xlaw (pc + 9 + 10 * js.length) (lwS i_) [.int v2] h2 (pc + 9 + 10 * js.length + 1) (lwS i_) [] h2 := xTr_pop hT_ (of_decide_eq_true c4_)
  have e3_ : pc + 9 + 10 * js.length + 1 = pc + 10 + 10 * js.length := by omega
  rw [e3_] at T4
  exact ⟨h2, xTr_tt T1 (xTr_tt T2 (xTr_tt T3 (xTr_tt T4 (lw_gt hT_ c5_)))), H2_, X2, R2_⟩
/-- a turn that compares -/
theorem lw_turnc {RR : xH → Prop} (hT_ : xTok) (hr : xRr r_) (hL : r_ 49 = .int (nI L_)) (hL31 : L_ < 2 ^ 31) (hi_ : i_ + 6 ≤ L_) (hh : bInv bZ bIj h_) (hX : bXm h_) (hR : RR h_) {pc cmx cmm : Nat} {js : List Nat} (hc_ : lwTurnC pc cmx cmm js = true) (hp : lwPg RR true cmx cmm (lwI js.length)) : lwGg RR r_ i_ pc h_ := by
  unfold lwTurnC at hc_
  simp only [Bool.and_eq_true] at hc_
  obtain ⟨c1_, c3_, c5_⟩ := hc_
  obtain ⟨v1_, h1, S1, H1_, X1, K_⟩ := hp h_ _ hh hX hR (lwVs_ok r_ i_ js)
  obtain ⟨v2, h2, S2, H2_, X2, R2_, E2⟩ := K_
  have ev_ := E2 rfl
  subst ev_
  have T1 := lw_half (s' := []) hT_ hr hL hL31 hi_ c1_ rfl hh (Or.inl rfl) S1 H1_.2
  have T3 := lw_half (s' := [.int v1_]) hT_ hr hL hL31 hi_ c3_ rfl H1_ (Or.inr ⟨v1_, rfl⟩) S2 H2_.2
  have e2_ : pc + 4 + 5 * js.length + 4 + 5 * js.length = pc + 8 + 10 * js.length := by omega
  rw [e2_] at T3
  have T4 : xTr r_ 1000 xlaw (pc + 8 + 10 * js.length) (lwS i_) [.int v1_, .int v1_] h2 1676 (lwS i_) [] h2 := lw_ce hT_ c5_
  exact ⟨h2, xTr_tt T1 (xTr_tt T3 T4), H2_, X2, R2_⟩
end
-- ===== feed: a long of two ints
section
variable {r_ : Nat → Value} {d_ mi pc i_ L_ : Nat} {lo_ : xL} {st_ : List Jvm.Term} {h_ : xH}
theorem xTr_i2l (hT_ : xTok) {a_ : Int32} (hcd : xcd mi pc = some (.i2l, 1, [])) : xTr r_ d_ mi pc lo_ (.int a_ :: st_) h_ (pc + 1) lo_ (.long a_.toInt64 :: st_) h_ := xTr_cs hT_ hcd (by simp only [xsp, xI, cond_true, xpu, xfT_eq, xfN_eq, xl0])
theorem xTr_lsh (hT_ : xTok) {a_ : Int64} {b_ : Int32} (hcd : xcd mi pc = some (.lshl, 1, [])) : xTr r_ d_ mi pc lo_ (.int b_ :: .long a_ :: st_) h_ (pc + 1) lo_ (.long (xtl (xo2 .lshl (.long a_) (.int b_))) :: st_) h_ := xTr_cs hT_ hcd (by simp only [xsp, xI, xG, Bool.and_self, cond_true, xpu, xfT_eq, xfN_eq, xl2])
theorem xTr_lan (hT_ : xTok) {a_ b_ : Int64} (hcd : xcd mi pc = some (.land, 1, [])) : xTr r_ d_ mi pc lo_ (.long b_ :: .long a_ :: st_) h_ (pc + 1) lo_ (.long (xtl (xo2 .land (.long a_) (.long b_))) :: st_) h_ := xTr_cs hT_ hcd (by simp only [xsp, xG, Bool.and_self, cond_true, xpu, xfT_eq, xfN_eq, xl2])
theorem xTr_lor (hT_ : xTok) {a_ b_ : Int64} (hcd : xcd mi pc = some (.lor, 1, [])) : xTr r_ d_ mi pc lo_ (.long b_ :: .long a_ :: st_) h_ (pc + 1) lo_ (.long (xtl (xo2 .lor (.long a_) (.long b_))) :: st_) h_ := xTr_cs hT_ hcd (by simp only [xsp, xG, Bool.and_self, cond_true, xpu, xfT_eq, xfN_eq, xl2])
theorem xTr_ld2 (hT_ : xTok) {q_ p_ n_ : Nat} (hcd : xcd mi pc = some (.ldc2_w q_, 3, [p_, n_])) : xTr r_ d_ mi pc lo_ st_ h_ (pc + 3) lo_ (.long (Int64.ofNat n_) :: st_) h_ := xTr_cs hT_ hcd (by simp only [xsp, xpu, xfT_eq, xfN_eq])
def lwLd (pc : Nat) : Bool := match xcd xlaw pc with
  | some (.ldc2_w _, 3, [_, n_]) => Nat.beq n_ 4294967295
  | _ => false
theorem lw_ld (hT_ : xTok) (hc_ : lwLd pc = true) : xTr r_ d_ xlaw pc lo_ st_ h_ (pc + 3) lo_ (.long (Int64.ofNat 4294967295) :: st_) h_ := by
  unfold lwLd at hc_
  split at hc_
  · rename_i e_
    rw [← Nat.eq_of_beq_eq_true hc_]
    exact xTr_ld2 hT_ e_
  · cases hc_
def lwFd (pc : Nat) : Bool := lwArg pc 1 && (lwe (pc + 5) (.i2l, 1, []) && (lwe (pc + 6) (.bipush 32, 2, []) && (lwe (pc + 8) (.lshl, 1, []) && (lwArg (pc + 9) 2 && (lwe (pc + 14) (.i2l, 1, []) && (lwLd (pc + 15) && (lwe (pc + 18) (.land, 1, []) && (lwe (pc + 19) (.lor, 1, []) && lwArg (pc + 20) 3))))))))
/-- the word that feed gets -/
noncomputable def fwd (r_ : Nat → Value) (i_ : Nat) : Int64 := xtl (xo2 .lor (.long (xtl (xo2 .lshl (.long (xti (r_ (200 + (i_ + 1)))).toInt64) (.int (Int8.ofInt 32).toInt32)))) (.long (xtl (xo2 .land (.long (xti (r_ (200 + (i_ + 2)))).toInt64) (.long (Int64.ofNat 4294967295))))))
theorem lw_fd (hT_ : xTok) (hL : r_ 49 = .int (nI L_)) (hL31 : L_ < 2 ^ 31) (hi_ : i_ + 6 ≤ L_) (hc_ : lwFd pc = true) : xTr r_ d_ xlaw pc (lwS i_) st_ h_ (pc + 25) (lwS i_) (lwV r_ (i_ + 3) :: .long (fwd r_ i_) :: st_) h_ := by
  unfold lwFd at hc_
  simp only [Bool.and_eq_true] at hc_
  obtain ⟨c1_, c2_, c3_, c4_, c5_, c6_, c7_, c8_, c9_, c10_⟩ := hc_
  have T1 : xTr r_ d_ xlaw pc (lwS i_) st_ h_ (pc + 5) (lwS i_) (lwV r_ (i_ + 1) :: st_) h_ := lw_arg hT_ hL hL31 (by omega) hi_ c1_
  have T2 : xTr r_ d_ xlaw (pc + 5) (lwS i_) (lwV r_ (i_ + 1) :: st_) h_ (pc + 6) (lwS i_) (.long (xti (r_ (200 + (i_ + 1)))).toInt64 :: st_) h_ := xTr_i2l hT_ (of_decide_eq_true c2_)
  have T3 : xTr r_ d_ xlaw (pc + 6) (lwS i_) (.long (xti (r_ (200 + (i_ + 1)))).toInt64 :: st_) h_ (pc + 8) (lwS i_) (.int (Int8.ofInt 32).toInt32 :: .long (xti (r_ (200 + (i_ + 1)))).toInt64 :: st_) h_ := xTr_bp hT_ (of_decide_eq_true c3_)
  have T4 := xTr_lsh (r_ := r_) (d_ := d_) (lo_ := lwS i_) (st_ := st_) (h_ := h_) (a_ := (xti (r_ (200 + (i_ + 1)))).toInt64) (b_ := (Int8.ofInt 32).toInt32) hT_ (of_decide_eq_true c4_)
  have T5 : xTr r_ d_ xlaw (pc + 9) (lwS i_) (.long (xtl (xo2 .lshl (.long (xti (r_ (200 + (i_ + 1)))).toInt64) (.int (Int8.ofInt 32).toInt32))) :: st_) h_ (pc + 14) (lwS i_) (lwV r_ (i_ + 2) :: .long (xtl (xo2 .lshl (.long (xti (r_ (200 + (i_ + 1)))).toInt64) (.int (Int8.ofInt 32).toInt32))) :: st_) h_ := lw_arg hT_ hL hL31 (by omega) hi_ c5_
  have T6 : xTr r_ d_ xlaw (pc + 14) (lwS i_) (lwV r_ (i_ + 2) :: .long (xtl (xo2 .lshl (.long (xti (r_ (200 + (i_ + 1)))).toInt64) (.int (Int8.ofInt 32).toInt32))) :: st_) h_ (pc + 15) (lwS i_) (.long (xti (r_ (200 + (i_ + 2)))).toInt64 :: .long (xtl (xo2 .lshl (.long (xti (r_ (200 + (i_ + 1)))).toInt64) (.int (Int8.ofInt 32).toInt32))) :: st_) h_ := xTr_i2l hT_ (of_decide_eq_true c6_)
  have T7 : xTr r_ d_ xlaw (pc + 15) (lwS i_) (.long (xti (r_ (200 + (i_ + 2)))).toInt64 :: .long (xtl (xo2 .lshl (.long (xti (r_ (200 + (i_ + 1)))).toInt64) (.int (Int8.ofInt 32).toInt32))) :: st_) h_ (pc + 18) (lwS i_) (.long (Int64.ofNat 4294967295) :: .long (xti (r_ (200 + (i_ + 2)))).toInt64 :: .long (xtl (xo2 .lshl (.long (xti (r_ (200 + (i_ + 1)))).toInt64) (.int (Int8.ofInt 32).toInt32))) :: st_) h_ := lw_ld hT_ c7_
  have T8 := xTr_lan (r_ := r_) (d_ := d_) (lo_ := lwS i_) (st_ := .long (xtl (xo2 .lshl (.long (xti (r_ (200 + (i_ + 1)))).toInt64) (.int (Int8.ofInt 32).toInt32))) :: st_) (h_ := h_) (a_ := (xti (r_ (200 + (i_ + 2)))).toInt64) (b_ := Int64.ofNat 4294967295) hT_ (of_decide_eq_true c8_)
  have T9 := xTr_lor (r_ := r_) (d_ := d_) (lo_ := lwS i_) (st_ := st_) (h_ := h_) (a_ := xtl (xo2 .lshl (.long (xti (r_ (200 + (i_ + 1)))).toInt64) (.int (Int8.ofInt 32).toInt32))) (b_ := xtl (xo2 .land (.long (xti (r_ (200 + (i_ + 2)))).toInt64) (.long (Int64.ofNat 4294967295)))) hT_ (of_decide_eq_true c9_)
  have T10 : xTr r_ d_ xlaw (pc + 20) (lwS i_) (.long (fwd r_ i_) :: st_) h_ (pc + 25) (lwS i_) (lwV r_ (i_ + 3) :: .long (fwd r_ i_) :: st_) h_ := lw_arg hT_ hL hL31 (by omega) hi_ c10_
  exact xTr_tt T1 (xTr_tt T2 (xTr_tt T3 (xTr_tt T4 (xTr_tt T5 (xTr_tt T6 (xTr_tt T7 (xTr_tt T8 (xTr_tt T9 T10))))))))
def lwFh (pc : Nat) (z_ : Fin 4) (cm a_ : Nat) : Bool := lwe pc (.aload_n z_, 1, []) && (lwFd (pc + 1) && (lwInv (pc + 26) cm && lwM cm a_ 2 3))
/-- a turn of feed -/
def lwFd2 (pc cmx cmm : Nat) : Bool := lwFh pc 1 cmx 0 && (lwe (pc + 29) (.pop, 1, []) && (lwFh (pc + 30) 2 cmm 338 && (lwe (pc + 59) (.pop, 1, []) && lwGt (pc + 60))))
def lwFd2C (pc cmx cmm : Nat) : Bool := lwFh pc 1 cmx 0 && (lwFh (pc + 29) 2 cmm 338 && lwCe (pc + 58))
def lwFe : List bP := [none, some (.inl (-2147483648, 2147483647))]
theorem lwFe_ok {X_ : Int64} {x_ : Int32} : bPs lwFe [.long X_, .int x_] := ⟨⟨X_, rfl⟩, ⟨x_, rfl, bi_lo _, bi_hi _⟩, trivial⟩
theorem lw_fh2 (hT_ : xTok) (hr : xRr r_) (hL : r_ 49 = .int (nI L_)) (hL31 : L_ < 2 ^ 31) (hi_ : i_ + 6 ≤ L_) {z_ : Fin 4} {cm a_ : Nat} {s' : List Jvm.Term} (hc_ : lwFh pc z_ cm a_ = true) (hz : xlk (lwS i_) z_.val = some (.index a_)) (hh : bInv bZ bIj h_) (hs : s' = [] ∨ ∃ u_, s' = [.int u_]) {v_ : Int32} {h' : xH} (S_ : xrun 999 cm 0 (xal 0 (.index a_ :: [.long (fwd r_ i_), lwV r_ (i_ + 3)])) [] h_ (some (.int v_), h', [])) (hw : xhw h') : xTr r_ 1000 xlaw pc (lwS i_) s' h_ (pc + 29) (lwS i_) (.int v_ :: s') h' := by
  unfold lwFh at hc_
  simp only [Bool.and_eq_true] at hc_
  obtain ⟨c1_, c2_, c3_, c4_⟩ := hc_
  have T1 : xTr r_ 1000 xlaw pc (lwS i_) s' h_ (pc + 1) (lwS i_) (.index a_ :: s') h_ := xTr_al hT_ (of_decide_eq_true c1_) hz rfl
  have T2 := lw_fd (r_ := r_) (d_ := 1000) (st_ := .index a_ :: s') (h_ := h_) hT_ hL hL31 hi_ c2_
  have T3 : xTr r_ 1000 xlaw (pc + 26) (lwS i_) ([.long (fwd r_ i_), lwV r_ (i_ + 3)].reverse ++ .index a_ :: s') h_ (pc + 26 + 3) (lwS i_) (.int v_ :: s') h' := lw_call (w_ := 3) hT_ hr c3_ c4_ rfl hh hs S_ hw
  exact xTr_tt T1 (xTr_tt T2 T3)
theorem lw_fturn {RR : xH → Prop} (hT_ : xTok) (hr : xRr r_) (hL : r_ 49 = .int (nI L_)) (hL31 : L_ < 2 ^ 31) (hi_ : i_ + 6 ≤ L_) (hh : bInv bZ bIj h_) (hX : bXm h_) (hR : RR h_) {cmx cmm : Nat} {eq_ : Bool} (hc_ : lwFd2 pc cmx cmm = true) (hp : lwPg RR eq_ cmx cmm lwFe) : lwGg RR r_ i_ pc h_ := by
  unfold lwFd2 at hc_
  simp only [Bool.and_eq_true] at hc_
  obtain ⟨c1_, c2_, c3_, c4_, c5_⟩ := hc_
  obtain ⟨v1_, h1, S1, H1_, X1, v2, h2, S2, H2_, X2, R2_, -⟩ := hp h_ _ hh hX hR (lwFe_ok (X_ := fwd r_ i_) (x_ := xti (r_ (200 + (i_ + 3)))))
  have T1 := lw_fh2 (s' := []) hT_ hr hL hL31 hi_ c1_ rfl hh (Or.inl rfl) S1 H1_.2
  have T3 := lw_fh2 (s' := []) hT_ hr hL hL31 hi_ c3_ rfl H1_ (Or.inl rfl) S2 H2_.2
  have T2 : xTr r_ 1000 xlaw (pc + 29) (lwS i_) [.int v1_] h1 (pc + 29 + 1) (lwS i_) [] h1 := xTr_pop hT_ (of_decide_eq_true c2_)
  have T4 : xTr r_ 1000 xlaw (pc + 30 + 29) (lwS i_) [.int v2] h2 (pc + 30 + 29 + 1) (lwS i_) [] h2 := xTr_pop hT_ (of_decide_eq_true c4_)
  exact ⟨h2, xTr_tt T1 (xTr_tt T2 (xTr_tt T3 (xTr_tt T4 (lw_gt hT_ c5_)))), H2_, X2, R2_⟩
theorem lw_fturnc {RR : xH → Prop} (hT_ : xTok) (hr : xRr r_) (hL : r_ 49 = .int (nI L_)) (hL31 : L_ < 2 ^ 31) (hi_ : i_ + 6 ≤ L_) (hh : bInv bZ bIj h_) (hX : bXm h_) (hR : RR h_) {cmx cmm : Nat} (hc_ : lwFd2C pc cmx cmm = true) (hp : lwPg RR true cmx cmm lwFe) : lwGg RR r_ i_ pc h_ := by
  unfold lwFd2C at hc_
  simp only [Bool.and_eq_true] at hc_
  obtain ⟨c1_, c3_, c5_⟩ := hc_
  obtain ⟨v1_, h1, S1, H1_, X1, v2, h2, S2, H2_, X2, R2_, E2⟩ := hp h_ _ hh hX hR (lwFe_ok (X_ := fwd r_ i_) (x_ := xti (r_ (200 + (i_ + 3)))))
  have ev_ := E2 rfl
  subst ev_
  have T1 := lw_fh2 (s' := []) hT_ hr hL hL31 hi_ c1_ rfl hh (Or.inl rfl) S1 H1_.2
  have T3 := lw_fh2 (s' := [.int v1_]) hT_ hr hL hL31 hi_ c3_ rfl H1_ (Or.inr ⟨v1_, rfl⟩) S2 H2_.2
  have T4 : xTr r_ 1000 xlaw (pc + 29 + 29) (lwS i_) [.int v1_, .int v1_] h2 1676 (lwS i_) [] h2 := lw_ce hT_ c5_
  exact ⟨h2, xTr_tt T1 (xTr_tt T3 T4), H2_, X2, R2_⟩
end
-- ===== pairs over the state
theorem inv_bq {h_ h1 : xH} (H_ : bInv bZ bIj h_) (H1_ : bInv bZ bIj h1) : ysm h_ h1 := by
  refine ⟨sHp_of H1_, fun a_ k_ l hb_ => ?_⟩
  obtain ⟨c_, c1_, c2_, c3_⟩ := hb_
  have hz : ∃ z_, bZ[a_]? = some z_ := by
    cases e_ : bZ[a_]? with
    | none =>
      have l0 : bZ.length ≤ a_ := List.getElem?_eq_none_iff.mp e_
      have l1 := (List.getElem?_eq_some_iff.mp c1_).1
      rw [H_.1.1] at l1
      omega
    | some z_ => exact ⟨z_, rfl⟩
  obtain ⟨z_, hz⟩ := hz
  obtain ⟨d_, d1_, d2_, d3_, -⟩ := H_.1.2 a_ z_ hz
  obtain ⟨e_, e1_, e2_, e3_, -⟩ := H1_.1.2 a_ z_ hz
  rw [c1_] at d1_
  cases d1_
  exact ⟨e_, e1_, e2_.trans (d2_.symm.trans c2_), e3_.trans (d3_.symm.trans c3_)⟩
theorem smc_lo {c_ j_ : Nat} (h_ : smc c_ j_ = true) : 338 ≤ c_ := by
  unfold smc at h_
  simp only [Bool.or_eq_true, Bool.and_eq_true] at h_
  rcases h_ with (h_ | h_) | (h_ | h_) | h_ | ⟨h_, -⟩ <;> have e_ := Nat.eq_of_beq_eq_true h_ <;> omega
theorem sxc_lo : ∀ {c_ : Nat}, sxc c_ = true → c_ < 338 := by
  intro c_ h_
  have k_ : ∀ l : List Nat, l.all (fun x_ => Nat.ble (x_ + 1) 338) = true → l.any (Nat.beq c_) = true → c_ < 338 := by
    intro l hl ha_
    obtain ⟨x_, hx, e_⟩ := List.any_eq_true.mp ha_
    rw [Nat.eq_of_beq_eq_true e_]
    exact Nat.le_of_ble_eq_true (List.all_eq_true.mp hl x_ hx)
  exact k_ _ (by decide +kernel) h_
/-- two acts that go from one state to one state: exactly -/
def exS (eq_ : Bool) (cx cm : Nat) (es : List bP) : Prop := ∀ (W_ : Nat → List Int32) (V : Nat → Int32) (h_ : xH) (as_ : List Jvm.Term), bInv bZ bIj h_ → bXm h_ → okS W_ V → SX W_ V h_ → bPs es as_ → ∃ (W' : Nat → List Int32) (V' : Nat → Int32) (y_ : Int32) (h1 : xH), okS W' V' ∧ (xrun 999 cx 0 (xal 0 (.index 0 :: as_)) [] h_ (some (.int y_), h1, []) ∧ ((bInv bZ bIj h1 → SX W' V' h1) ∧ ∀ hh : xH, bInv bZ bIj hh → bXm hh → SM W_ V hh → ∃ (y2 : Int32) (h2 : xH), xrun 999 cm 0 (xal 0 (.index 338 :: as_)) [] hh (some (.int y2), h2, []) ∧ ((bInv bZ bIj h2 → SM W' V' h2) ∧ (eq_ = true → y_ = y2))))
/-- two acts that go from one state to one state -/
theorem lwPg_S {cx cm : Nat} {es : List bP} {Wx_ Wm_ : bW} {eq_ : Bool} (fx : lwFr cx 0 es Wx_) (fm : lwFr cm 338 es Wm_) (hW : (lWx Wx_ && lWm Wm_) = true)
    (EX_ : exS eq_ cx cm es) : lwPg RS eq_ cx cm es := by
  intro h_ as_ H_ X_ Rr hp
  rw [Bool.and_eq_true] at hW
  obtain ⟨W_, V, K_, HX, HM_⟩ := Rr
  obtain ⟨v_, h1, S1, H1_, X1, F1_⟩ := fx h_ _ H_ X_ hp
  obtain ⟨W', V', y_, h1', K', D1, SX1, EM_⟩ := EX_ W_ V h_ as_ H_ X_ K_ HX hp
  have e1_ := xrun_un S1 D1
  have eh : h1 = h1' := congrArg (fun o => o.2.1) e1_
  have ev_ : v_ = y_ := by
    have k_ : some (Jvm.Term.int v_) = some (.int y_) := congrArg (fun o => o.1) e1_
    exact Jvm.Term.int.inj (Option.some.inj k_)
  subst eh
  subst ev_
  have HM1 : SM W_ V h1 := SM_fr HM_ (inv_bq H_ H1_) (fun c_ j_ hc_ => F1_ c_ j_ (lWx_ok hW.1 (smc_lo hc_)))
  obtain ⟨y2, h2, D2, SM2, E2⟩ := EM_ h1 H1_ X1 HM1
  obtain ⟨v2, h2', S2, H2_, X2, F2⟩ := fm h1 _ H1_ X1 hp
  have e2_ := xrun_un S2 D2
  have eh : h2' = h2 := congrArg (fun o => o.2.1) e2_
  have ev_ : v2 = y2 := by
    have k_ : some (Jvm.Term.int v2) = some (.int y2) := congrArg (fun o => o.1) e2_
    exact Jvm.Term.int.inj (Option.some.inj k_)
  subst eh
  subst ev_
  exact ⟨v_, h1, S1, H1_, X1, v2, h2', S2, H2_, X2, ⟨W', V', K', SX_fr (SX1 H1_) (inv_bq H1_ H2_) (fun c_ j_ hc_ => F2 c_ j_ (lWm_ok hW.2 (sxc_lo hc_))), SM2 H2_⟩, E2⟩
/-- from two contracts -/
theorem exS_of {cx cm : Nat} {es : List bP} (C_ : ∀ (W_ : Nat → List Int32) (V : Nat → Int32) (h_ : xH) (as_ : List Jvm.Term), bInv bZ bIj h_ → okS W_ V → SX W_ V h_ → bPs es as_ → ∃ F_ : (Nat → List Int32) × (Nat → Int32) × Int32, okS F_.1 F_.2.1 ∧ ((∃ h1, ysm h_ h1 ∧ (SX F_.1 F_.2.1 h1 ∧ xrun 999 cx 0 (xal 0 (.index 0 :: as_)) [] h_ (some (.int F_.2.2), h1, []))) ∧ ∀ hh : xH, bInv bZ bIj hh → SM W_ V hh → ∃ h2, ysm hh h2 ∧ (SM F_.1 F_.2.1 h2 ∧ xrun 999 cm 0 (xal 0 (.index 338 :: as_)) [] hh (some (.int F_.2.2), h2, [])))) : exS true cx cm es := by
  intro W_ V h_ as_ B_ X_ K_ H_ hp
  obtain ⟨F_, k_, ⟨h1, -, s1_, r1_⟩, M_⟩ := C_ W_ V h_ as_ B_ K_ H_ hp
  refine ⟨F_.1, F_.2.1, F_.2.2, h1, k_, r1_, fun _ => s1_, fun hh Bh _ Hh => ?_⟩
  obtain ⟨h2, -, s2_, r2⟩ := M_ hh Bh Hh
  exact ⟨F_.2.2, h2, r2, fun _ => s2_, fun _ => rfl⟩
theorem lwPg_w {RR : xH → Prop} {cx cm : Nat} {es : List bP} (H_ : lwPg RR true cx cm es) : lwPg RR false cx cm es := by
  intro h_ as_ B_ X_ Rr hp
  obtain ⟨v_, h1, a1_, a2, a3, v2, h2, b1, b2, b3, b4, -⟩ := H_ h_ as_ B_ X_ Rr hp
  exact ⟨v_, h1, a1_, a2, a3, v2, h2, b1, b2, b3, b4, fun e_ => by cases e_⟩
/-- the ints that a call gets -/
theorem la0 {as_ : List Jvm.Term} (h_ : bPs (lwI 0) as_) : as_ = [] := by
  cases as_ with
  | nil => rfl
  | cons t_ u_ => exact absurd h_ id
theorem laS {n_ : Nat} {as_ : List Jvm.Term} (h_ : bPs (lwI (n_ + 1)) as_) : ∃ (x_ : Int32) (bs : List Jvm.Term), as_ = .int x_ :: bs ∧ bPs (lwI n_) bs := by
  cases as_ with
  | nil => exact absurd h_ id
  | cons t_ u_ =>
    obtain ⟨⟨x_, rfl, -⟩, h2⟩ := h_
    exact ⟨x_, u_, rfl, h2⟩
/-- no place of a world's is written -/
def sxv (W_ : bW) (o : Nat) : Bool := wvX.all (fun p_ => !(biw W_ (p_.1.1 + o) p_.1.2)) && wrX.all (fun p_ => (!(biw W_ (p_.1 + o) 0) && !(biw W_ (p_.1 + o) 1)) && (List.range p_.2.2.1).all (fun j_ => !(biw W_ (p_.2.1 + o) j_)))
/-- no place of the state's is written -/
def sxw (W_ : bW) : Bool := (sxv W_ 0 && sxv W_ 73) && (!(biw W_ 0 14) && (List.range 4).all (fun k_ => (!(biw W_ (324 + 2 * k_) 1) && !(biw W_ (324 + 2 * k_) 2)) && (List.range 24).all (fun j_ => !(biw W_ (325 + 2 * k_) j_))))
def smv (W_ : bW) (b_ : Nat) : Bool := wvM.all (fun p_ => !(biw W_ b_ p_.1)) && (wrM.all (fun p_ => !(biw W_ b_ p_.1) && (List.range p_.2.2.2.1).all (fun j_ => !(biw W_ b_ (p_.2.1 + p_.2.2.1 * j_)))) && ((List.range 125).all (fun j_ => !(biw W_ b_ (434 + j_)) && !(biw W_ b_ (559 + j_))) && !(biw W_ b_ 8)))
def smw (W_ : bW) : Bool := (smv W_ 339 && smv W_ 340) && (!(biw W_ 338 2) && (List.range 4).all (fun k_ => (!(biw W_ 350 k_) && !(biw W_ 351 k_)) && (List.range 24).all (fun j_ => !(biw W_ 352 (24 * k_ + j_)))))
section
variable {W_ : Nat → List Int32} {V : Nat → Int32} {h_ h' : xH} {Wx_ : bW}
theorem nbw {b_ : Bool} (h_ : (!b_) = true) : b_ = false := by
  cases b_ with
  | false => rfl
  | true => cases h_
theorem XW_bw {o q_ : Nat} (H_ : XW o q_ W_ V h_) (m_ : ysm h_ h') (F_ : bfr Wx_ h_ h') (k_ : sxv Wx_ o = true) : XW o q_ W_ V h' := by
  unfold sxv at k_
  rw [Bool.and_eq_true] at k_
  refine ⟨fun p_ hp => (F_ _ _ (nbw (List.all_eq_true.mp k_.1 p_ hp))).trans (H_.1 p_ hp), fun p_ hp => ?_⟩
  have e_ := List.all_eq_true.mp k_.2 p_ hp
  rw [Bool.and_eq_true, Bool.and_eq_true] at e_
  obtain ⟨⟨b1, b2⟩, ⟨r0, r1_⟩, l, g_⟩ := H_.2 p_ hp
  refine ⟨⟨m_.2 _ _ _ b1, m_.2 _ _ _ b2⟩, ⟨(F_ _ _ (nbw e_.1.1)).trans r0, (F_ _ _ (nbw e_.1.2)).trans r1_⟩, l, fun j_ x_ hx => ?_⟩
  have lj := (List.getElem?_eq_some_iff.mp hx).1
  exact (F_ _ _ (nbw (List.all_eq_true.mp e_.2 j_ (List.mem_range.mpr (by omega))))).trans (g_ j_ x_ hx)
theorem SX_bw (K_ : okS W_ V) (H_ : SX W_ V h_) (m_ : ysm h_ h') (F_ : bfr Wx_ h_ h') (k_ : sxw Wx_ = true) : SX W_ V h' := by
  unfold sxw at k_
  rw [Bool.and_eq_true, Bool.and_eq_true, Bool.and_eq_true] at k_
  obtain ⟨⟨k1_, k2_⟩, k3_, k4_⟩ := k_
  obtain ⟨H1_, H2_, H3, H4, H5⟩ := H_
  refine ⟨m_.1, XW_bw H2_ m_ F_ k1_, XW_bw H3 m_ F_ k2_, (F_ _ _ (nbw k3_)).trans H4, fun j_ hj => ?_⟩
  have e_ := List.all_eq_true.mp k4_ j_ (List.mem_range.mpr hj)
  rw [Bool.and_eq_true, Bool.and_eq_true] at e_
  obtain ⟨a1_, a2, a3⟩ := H5 j_ hj
  have l24 := (K_.2.2 j_ hj).1.1
  refine ⟨(F_ _ _ (nbw e_.1.1)).trans a1_, (F_ _ _ (nbw e_.1.2)).trans a2, fun i_ x_ hx => ?_⟩
  have li := (List.getElem?_eq_some_iff.mp hx).1
  exact (F_ _ _ (nbw (List.all_eq_true.mp e_.2 i_ (List.mem_range.mpr (by omega))))).trans (a3 i_ x_ hx)
theorem wrM_k : wrM.all (fun p_ => ((Nat.ble (p_.2.2.2.2 + 1) 12 && Nat.beq p_.2.2.2.1 12) || (Nat.beq p_.2.2.2.2 20 && Nat.beq p_.2.2.2.1 60)) || (Nat.beq p_.2.2.2.2 21 && Nat.beq p_.2.2.2.1 24)) = true := by decide +kernel
theorem MW_bw {b_ q_ : Nat} (K_ : okW q_ W_ V) (H_ : MW b_ q_ W_ V h_ ∧ ∀ x_ : Int32, bpat h_ b_ 8 = some (.int x_) → bpat h_ b_ 8 = some (.int x_)) (F_ : bfr Wx_ h_ h') (k_ : smv Wx_ b_ = true) : MW b_ q_ W_ V h' ∧ bpat h' b_ 8 = bpat h_ b_ 8 := by
  obtain ⟨⟨H1_, H2_, ⟨H3, H4⟩, H5, H6⟩, -⟩ := H_
  unfold smv at k_
  rw [Bool.and_eq_true, Bool.and_eq_true, Bool.and_eq_true] at k_
  obtain ⟨k1_, k2_, k3_, k4_⟩ := k_
  have g_ := K_.2.2.2.2.2.2
  have tx : ∀ j_, j_ < 125 → bpat h' b_ (434 + j_) = bpat h_ b_ (434 + j_) ∧ bpat h' b_ (559 + j_) = bpat h_ b_ (559 + j_) := fun j_ hj => by
    have e_ := List.all_eq_true.mp k3_ j_ (List.mem_range.mpr hj)
    rw [Bool.and_eq_true] at e_
    exact ⟨F_ _ _ (nbw e_.1), F_ _ _ (nbw e_.2)⟩
  refine ⟨⟨fun p_ hp => (F_ _ _ (nbw (List.all_eq_true.mp k1_ p_ hp))).trans (H1_ p_ hp), fun p_ hp => ?_, ?_, ?_⟩, F_ _ _ (nbw k4_)⟩
  · have e_ := List.all_eq_true.mp k2_ p_ hp
    rw [Bool.and_eq_true] at e_
    have w_ := List.all_eq_true.mp wrM_k p_ hp
    simp only [Bool.or_eq_true, Bool.and_eq_true] at w_
    have lw : (W_ (q_ + p_.2.2.2.2)).length ≤ p_.2.2.2.1 := by
      rcases w_ with (⟨w1_, w2_⟩ | ⟨w1_, w2_⟩) | ⟨w1_, w2_⟩
      · rw [Nat.eq_of_beq_eq_true w2_]
        exact (K_.2.2.1 _ (Nat.le_of_ble_eq_true w1_)).1
      · rw [Nat.eq_of_beq_eq_true w1_, Nat.eq_of_beq_eq_true w2_]
        exact K_.2.2.2.1.1
      · rw [Nat.eq_of_beq_eq_true w1_, Nat.eq_of_beq_eq_true w2_]
        exact K_.2.2.2.2.1
    exact rwq_fr (H2_ p_ hp) lw (F_ _ _ (nbw e_.1)) (fun j_ hj => F_ _ _ (nbw (List.all_eq_true.mp e_.2 j_ (List.mem_range.mpr hj))))
  · refine txq_fr ⟨H3, H4⟩ (g_ 0 (by omega)).1 (fun j_ h1 h2 => ?_)
    have e_ := (tx (j_ - 434) (by omega)).1
    rw [show 434 + (j_ - 434) = j_ by omega] at e_
    exact e_
  · refine txq_fr ⟨H5, H6⟩ (g_ 1 (by omega)).1 (fun j_ h1 h2 => ?_)
    have e_ := (tx (j_ - 559) (by omega)).2
    rw [show 559 + (j_ - 559) = j_ by omega] at e_
    exact e_
theorem SM_bw (K_ : okS W_ V) (H_ : SM W_ V h_) (m_ : ysm h_ h') (F_ : bfr Wx_ h_ h') (k_ : smw Wx_ = true) : SM W_ V h' := by
  unfold smw at k_
  rw [Bool.and_eq_true, Bool.and_eq_true, Bool.and_eq_true] at k_
  obtain ⟨⟨k1_, k2_⟩, k3_, k4_⟩ := k_
  obtain ⟨H1_, ⟨H2_, H3⟩, ⟨H4, H5⟩, H6, H7⟩ := H_
  obtain ⟨A1, A2⟩ := MW_bw K_.1 ⟨H2_, fun _ e_ => e_⟩ F_ k1_
  obtain ⟨A3, A4⟩ := MW_bw K_.2.1 ⟨H4, fun _ e_ => e_⟩ F_ k2_
  refine ⟨m_.1, ⟨A1, A2.trans H3⟩, ⟨A3, ?_⟩, (F_ _ _ (nbw k3_)).trans H6, fun j_ hj => ?_⟩
  · rcases H5 with e_ | e_
    · exact Or.inl e_
    · exact Or.inr (A4.trans e_)
  · have e_ := List.all_eq_true.mp k4_ j_ (List.mem_range.mpr hj)
    rw [Bool.and_eq_true, Bool.and_eq_true] at e_
    obtain ⟨a1_, a2, a3⟩ := H7 j_ hj
    have l24 := (K_.2.2 j_ hj).1.1
    refine ⟨(F_ _ _ (nbw e_.1.1)).trans a1_, (F_ _ _ (nbw e_.1.2)).trans a2, fun i_ x_ hx => ?_⟩
    have li := (List.getElem?_eq_some_iff.mp hx).1
    exact (F_ _ _ (nbw (List.all_eq_true.mp e_.2 i_ (List.mem_range.mpr (by omega))))).trans (a3 i_ x_ hx)
end
/-- two acts that leave the state as it is -/
theorem lwPg_fr {cx cm : Nat} {es : List bP} {Wx_ Wm_ : bW} (fx : lwFr cx 0 es Wx_) (fm : lwFr cm 338 es Wm_) (hW : (lWx Wx_ && lWm Wm_) = true) (hS_ : (sxw Wx_ && smw Wm_) = true) : lwPg RS false cx cm es := by
  intro h_ as_ H_ X_ Rr hp
  rw [Bool.and_eq_true] at hW hS_
  obtain ⟨W_, V, K_, HX, HM_⟩ := Rr
  obtain ⟨v_, h1, S1, H1_, X1, F1_⟩ := fx h_ _ H_ X_ hp
  obtain ⟨v2, h2, S2, H2_, X2, F2⟩ := fm h1 _ H1_ X1 hp
  have HX1 := SX_bw K_ HX (inv_bq H_ H1_) F1_ hS_.1
  have HM1 : SM W_ V h1 := SM_fr HM_ (inv_bq H_ H1_) (fun c_ j_ hc_ => F1_ c_ j_ (lWx_ok hW.1 (smc_lo hc_)))
  exact ⟨v_, h1, S1, H1_, X1, v2, h2, S2, H2_, X2, ⟨W_, V, K_, SX_fr HX1 (inv_bq H1_ H2_) (fun c_ j_ hc_ => F2 c_ j_ (lWm_ok hW.2 (sxc_lo hc_))), SM_bw K_ HM1 (inv_bq H1_ H2_) F2 hS_.2⟩, fun e_ => by cases e_⟩
