-- ===== THE LAW: a turn, with pairs
/-- so many ints -/
def lwI (n : Nat) : List bP := List.replicate n (some (.inl (-2147483648, 2147483647)))
theorem lwVs_ok (r_ : Nat → Value) (i_ : Nat) : ∀ js : List Nat, bPs (lwI js.length) (lwVs r_ i_ js) := by
  intro js
  induction js with
  | nil => trivial
  | cons j_ t_ ih_ =>
    have e : bqv (some (.inl (-2147483648, 2147483647))) (lwV r_ (i_ + j_)) := ⟨_, rfl, bi_lo _, bi_hi _⟩
    exact ⟨e, ih_⟩
theorem lwVs_sz (r_ : Nat → Value) (i_ : Nat) : ∀ js : List Nat, xasz (lwVs r_ i_ js) = js.length := by
  intro js
  induction js with
  | nil => rfl
  | cons j_ t_ ih_ =>
    show 1 + xasz (lwVs r_ i_ t_) = t_.length + 1
    rw [ih_]
    omega
theorem lwVs_ln (r_ : Nat → Value) (i_ : Nat) (js : List Nat) : (lwVs r_ i_ js).length = js.length := List.length_map ..
def lwHalf (pc : Nat) (z_ : Fin 4) (cm a_ : Nat) (js : List Nat) : Bool := lwe pc (.aload_n z_, 1, []) && (lwArgs (pc + 1) js && (lwInv (pc + 1 + 5 * js.length) cm && lwM cm a_ js.length js.length))
def lwGt (pc : Nat) : Bool := match xcd xlaw pc with
  | some (.goto off_, 3, []) => decide ((pc : Int) + off_ = .ofNat 1676)
  | _ => false
def lwTurn (pc cmx cmm : Nat) (js : List Nat) : Bool := lwHalf pc 1 cmx 0 js && (lwe (pc + 4 + 5 * js.length) (.pop, 1, []) && (lwHalf (pc + 5 + 5 * js.length) 2 cmm 338 js && (lwe (pc + 9 + 10 * js.length) (.pop, 1, []) && lwGt (pc + 10 + 10 * js.length))))
/-- a turn of the law's from a place of its switch -/
def lwGo (RP : lRel) (r_ : Nat → Value) (i_ pc : Nat) (h : xH) : Prop := ∃ h', xTr r_ 1000 xlaw pc (lwS i_) [] h 1676 (lwS i_) [] h' ∧ bInv bZ bIj h' ∧ bXm h' ∧ lRp RP h'
def lwCe (pc : Nat) : Bool := match xcd xlaw pc with
  | some (.if_icmp .eq off_, 3, []) => decide ((pc : Int) + off_ = .ofNat 1676)
  | _ => false
def lwTurnC (pc cmx cmm : Nat) (js : List Nat) : Bool := lwHalf pc 1 cmx 0 js && (lwHalf (pc + 4 + 5 * js.length) 2 cmm 338 js && lwCe (pc + 8 + 10 * js.length))
/-- what is not touched stays alike -/
def lrw (RP : lRel) (Wx Wm : bW) : Bool := (lWx Wx && lWm Wm) && RP.1.all (fun q_ => !(biw Wx q_.1.1 q_.1.2) && !(biw Wm q_.2.1 q_.2.2))
theorem lwPr_fr {RP : lRel} {cmx cmm : Nat} {es : List bP} {Wx Wm : bW} (fx : lwFr cmx 0 es Wx) (fm : lwFr cmm 338 es Wm) (hw : lrw RP Wx Wm = true) (hR : lRk RP = true) : lwPr RP false cmx cmm es := by
  intro h as_ H_ X_ Rr hp
  unfold lrw at hw
  simp only [Bool.and_eq_true] at hw
  obtain ⟨⟨w1_, w2_⟩, w3_⟩ := hw
  obtain ⟨v1_, h1, S1, H1_, X1, f1_⟩ := fx h as_ H_ X_ hp
  refine ⟨v1_, h1, S1, H1_, X1, fun as' hp' _ => ?_⟩
  obtain ⟨v2, h2, S2, H2_, X2, f2_⟩ := fm h1 as' H1_ X1 hp'
  unfold lRk at hR
  rw [Bool.and_eq_true] at hR
  have key_ : ∀ q_ ∈ RP.1, tv h2 q_.1.1 q_.1.2 = tv h q_.1.1 q_.1.2 ∧ tv h2 q_.2.1 q_.2.2 = tv h q_.2.1 q_.2.2 := by
    intro q_ hq
    have k_ := List.all_eq_true.mp hR.2 q_ hq
    simp only [Bool.and_eq_true] at k_
    have k1_ := Nat.le_of_ble_eq_true k_.2.1
    have k2_ := Nat.le_of_ble_eq_true k_.2.2
    have u_ := List.all_eq_true.mp w3_ q_ hq
    simp only [Bool.and_eq_true, Bool.not_eq_true'] at u_
    exact ⟨(tv_eq (f2_ _ _ (lWm_ok w2_ (show q_.1.1 < 338 by omega)))).trans (tv_eq (f1_ _ _ u_.1)), (tv_eq (f2_ _ _ u_.2)).trans (tv_eq (f1_ _ _ (lWx_ok w1_ k2_)))⟩
  refine ⟨v2, h2, S2, H2_, X2, ⟨fun q_ hq => ?_, fun b_ hb_ => ?_⟩, fun e => absurd e Bool.false_ne_true⟩
  · rw [(key_ q_ hq).1, (key_ q_ hq).2]
    exact Rr.1 q_ hq
  · have hbl : b_.1 < RP.1.length := Nat.le_of_ble_eq_true (List.all_eq_true.mp hR.1 b_ hb_)
    have o_ := Rr.2 b_ hb_
    rw [lpx_at (List.getElem?_eq_getElem hbl)] at o_ ⊢
    rw [(key_ _ (List.getElem_mem hbl)).1]
    exact o_
section
variable {r_ : Nat → Value} {i_ L_ : Nat} {h : xH}
theorem lw_gt (hT_ : xTok) {d_ pc : Nat} {lo : xL} {st : List Jvm.Term} (hc_ : lwGt pc = true) : xTr r_ d_ xlaw pc lo st h 1676 lo st h := by
  unfold lwGt at hc_
  split at hc_
  · rename_i off_ e
    exact xTr_goto hT_ e (of_decide_eq_true hc_)
  · cases hc_
theorem lw_ce (hT_ : xTok) {d_ pc : Nat} {lo : xL} {st : List Jvm.Term} {v_ : Int32} (hc_ : lwCe pc = true) : xTr r_ d_ xlaw pc lo (.int v_ :: .int v_ :: st) h 1676 lo st h := by
  unfold lwCe at hc_
  split at hc_
  · rename_i off_ e
    exact xTr_icm (z_ := true) (t_ := 1676) hT_ e (of_decide_eq_true hc_) (decide_eq_true rfl)
  · cases hc_
theorem lw_half (hT_ : xTok) (hr : xRr r_) (hL : r_ 49 = .int (nI L_)) (hL31 : L_ < 2 ^ 31) (hi_ : i_ + 6 ≤ L_) {z_ : Fin 4} {pc cm a_ : Nat} {js : List Nat} {s' : List Jvm.Term} {h' : xH} {v_ : Int32} (hc_ : lwHalf pc z_ cm a_ js = true) (hz : xlk (lwS i_) z_.val = some (.index a_)) (hh : bInv bZ bIj h) (hs : s' = [] ∨ ∃ u_, s' = [.int u_]) (S_ : xrun 999 cm 0 (xal 0 (.index a_ :: lwVs r_ i_ js)) [] h (some (.int v_), h', [])) (hw : xhw h') : xTr r_ 1000 xlaw pc (lwS i_) s' h (pc + 4 + 5 * js.length) (lwS i_) (.int v_ :: s') h' := by
  unfold lwHalf at hc_
  simp only [Bool.and_eq_true] at hc_
  obtain ⟨c1_, c2_, c3_, c4_⟩ := hc_
  have T1 : xTr r_ 1000 xlaw pc (lwS i_) s' h (pc + 1) (lwS i_) (.index a_ :: s') h := xTr_al hT_ (of_decide_eq_true c1_) hz rfl
  have T2 : xTr r_ 1000 xlaw (pc + 1) (lwS i_) (.index a_ :: s') h (pc + 1 + 5 * js.length) (lwS i_) ((lwVs r_ i_ js).reverse ++ .index a_ :: s') h := lw_args hT_ hL hL31 hi_ js (pc + 1) (.index a_ :: s') c2_
  have T3 : xTr r_ 1000 xlaw (pc + 1 + 5 * js.length) (lwS i_) ((lwVs r_ i_ js).reverse ++ .index a_ :: s') h (pc + 1 + 5 * js.length + 3) (lwS i_) (.int v_ :: s') h' := lw_call hT_ hr c3_ (by rw [lwVs_ln]; exact c4_) (lwVs_sz r_ i_ js) hh hs S_ hw
  have e : pc + 1 + 5 * js.length + 3 = pc + 4 + 5 * js.length := by omega
  rw [e] at T3
  exact xTr_tt T1 (xTr_tt T2 T3)
theorem lw_turn {RP : lRel} (hT_ : xTok) (hr : xRr r_) (hL : r_ 49 = .int (nI L_)) (hL31 : L_ < 2 ^ 31) (hi_ : i_ + 6 ≤ L_) (hh : bInv bZ bIj h) (hX : bXm h) (hR : lRp RP h) {pc cmx cmm : Nat} {js : List Nat} {eq_ : Bool} (hc_ : lwTurn pc cmx cmm js = true) (hp : lwPr RP eq_ cmx cmm (lwI js.length)) : lwGo RP r_ i_ pc h := by
  unfold lwTurn at hc_
  simp only [Bool.and_eq_true] at hc_
  obtain ⟨c1_, c2_, c3_, c4_, c5_⟩ := hc_
  obtain ⟨v1_, h1, S1, H1_, X1, K_⟩ := hp h _ hh hX hR (lwVs_ok r_ i_ js)
  obtain ⟨v2, h2, S2, H2_, X2, R2_, -⟩ := K_ _ (lwVs_ok r_ i_ js) (fun _ => rfl)
  have T1 := lw_half (s' := []) hT_ hr hL hL31 hi_ c1_ rfl hh (Or.inl rfl) S1 H1_.2
  have T2 : xTr r_ 1000 xlaw (pc + 4 + 5 * js.length) (lwS i_) [.int v1_] h1 (pc + 4 + 5 * js.length + 1) (lwS i_) [] h1 := xTr_pop hT_ (of_decide_eq_true c2_)
  have T3 := lw_half (s' := []) hT_ hr hL hL31 hi_ c3_ rfl H1_ (Or.inl rfl) S2 H2_.2
  have e1_ : pc + 4 + 5 * js.length + 1 = pc + 5 + 5 * js.length := by omega
  have e2_ : pc + 5 + 5 * js.length + 4 + 5 * js.length = pc + 9 + 10 * js.length := by omega
  rw [e1_] at T2
  rw [e2_] at T3
  have T4 : xTr r_ 1000 xlaw (pc + 9 + 10 * js.length) (lwS i_) [.int v2] h2 (pc + 9 + 10 * js.length + 1) (lwS i_) [] h2 := xTr_pop hT_ (of_decide_eq_true c4_)
  have e3_ : pc + 9 + 10 * js.length + 1 = pc + 10 + 10 * js.length := by omega
  rw [e3_] at T4
  exact ⟨h2, xTr_tt T1 (xTr_tt T2 (xTr_tt T3 (xTr_tt T4 (lw_gt hT_ c5_)))), H2_, X2, R2_⟩
/-- a turn that compares -/
theorem lw_turnc {RP : lRel} (hT_ : xTok) (hr : xRr r_) (hL : r_ 49 = .int (nI L_)) (hL31 : L_ < 2 ^ 31) (hi_ : i_ + 6 ≤ L_) (hh : bInv bZ bIj h) (hX : bXm h) (hR : lRp RP h) {pc cmx cmm : Nat} {js : List Nat} (hc_ : lwTurnC pc cmx cmm js = true) (hp : lwPr RP true cmx cmm (lwI js.length)) : lwGo RP r_ i_ pc h := by
  unfold lwTurnC at hc_
  simp only [Bool.and_eq_true] at hc_
  obtain ⟨c1_, c3_, c5_⟩ := hc_
  obtain ⟨v1_, h1, S1, H1_, X1, K_⟩ := hp h _ hh hX hR (lwVs_ok r_ i_ js)
  obtain ⟨v2, h2, S2, H2_, X2, R2_, E2⟩ := K_ _ (lwVs_ok r_ i_ js) (fun _ => rfl)
  have ev := E2 rfl
  subst ev
  have T1 := lw_half (s' := []) hT_ hr hL hL31 hi_ c1_ rfl hh (Or.inl rfl) S1 H1_.2
  have T3 := lw_half (s' := [.int v1_]) hT_ hr hL hL31 hi_ c3_ rfl H1_ (Or.inr ⟨v1_, rfl⟩) S2 H2_.2
  have e2_ : pc + 4 + 5 * js.length + 4 + 5 * js.length = pc + 8 + 10 * js.length := by omega
  rw [e2_] at T3
  have T4 : xTr r_ 1000 xlaw (pc + 8 + 10 * js.length) (lwS i_) [.int v1_, .int v1_] h2 1676 (lwS i_) [] h2 := lw_ce hT_ c5_
  exact ⟨h2, xTr_tt T1 (xTr_tt T3 T4), H2_, X2, R2_⟩
end
-- ===== feed: a long of two ints
section
variable {r_ : Nat → Value} {d_ mi pc i_ L_ : Nat} {lo : xL} {st : List Jvm.Term} {h : xH}
theorem xTr_i2l (hT_ : xTok) {a_ : Int32} (hcd : xcd mi pc = some (.i2l, 1, [])) : xTr r_ d_ mi pc lo (.int a_ :: st) h (pc + 1) lo (.long a_.toInt64 :: st) h := xTr_cs hT_ hcd (by simp only [xsp, xI, cond_true, xpu, xfT_eq, xfN_eq, xl0])
theorem xTr_lsh (hT_ : xTok) {a_ : Int64} {b_ : Int32} (hcd : xcd mi pc = some (.lshl, 1, [])) : xTr r_ d_ mi pc lo (.int b_ :: .long a_ :: st) h (pc + 1) lo (.long (xtl (xo2 .lshl (.long a_) (.int b_))) :: st) h := xTr_cs hT_ hcd (by simp only [xsp, xI, xG, Bool.and_self, cond_true, xpu, xfT_eq, xfN_eq, xl2])
theorem xTr_lan (hT_ : xTok) {a_ b_ : Int64} (hcd : xcd mi pc = some (.land, 1, [])) : xTr r_ d_ mi pc lo (.long b_ :: .long a_ :: st) h (pc + 1) lo (.long (xtl (xo2 .land (.long a_) (.long b_))) :: st) h := xTr_cs hT_ hcd (by simp only [xsp, xG, Bool.and_self, cond_true, xpu, xfT_eq, xfN_eq, xl2])
theorem xTr_lor (hT_ : xTok) {a_ b_ : Int64} (hcd : xcd mi pc = some (.lor, 1, [])) : xTr r_ d_ mi pc lo (.long b_ :: .long a_ :: st) h (pc + 1) lo (.long (xtl (xo2 .lor (.long a_) (.long b_))) :: st) h := xTr_cs hT_ hcd (by simp only [xsp, xG, Bool.and_self, cond_true, xpu, xfT_eq, xfN_eq, xl2])
theorem xTr_ld2 (hT_ : xTok) {q_ p n : Nat} (hcd : xcd mi pc = some (.ldc2_w q_, 3, [p, n])) : xTr r_ d_ mi pc lo st h (pc + 3) lo (.long (Int64.ofNat n) :: st) h := xTr_cs hT_ hcd (by simp only [xsp, xpu, xfT_eq, xfN_eq])
def lwLd (pc : Nat) : Bool := match xcd xlaw pc with
  | some (.ldc2_w _, 3, [_, _]) => true
  | _ => false
theorem lw_ld (hT_ : xTok) (hc_ : lwLd pc = true) : ∃ X_ : Int64, xTr r_ d_ xlaw pc lo st h (pc + 3) lo (.long X_ :: st) h := by
  unfold lwLd at hc_
  split at hc_
  · rename_i e
    exact ⟨_, xTr_ld2 hT_ e⟩
  · cases hc_
def lwFd (pc : Nat) : Bool := lwArg pc 1 && (lwe (pc + 5) (.i2l, 1, []) && (lwe (pc + 6) (.bipush 32, 2, []) && (lwe (pc + 8) (.lshl, 1, []) && (lwArg (pc + 9) 2 && (lwe (pc + 14) (.i2l, 1, []) && (lwLd (pc + 15) && (lwe (pc + 18) (.land, 1, []) && (lwe (pc + 19) (.lor, 1, []) && lwArg (pc + 20) 3))))))))
theorem lw_fd (hT_ : xTok) (hL : r_ 49 = .int (nI L_)) (hL31 : L_ < 2 ^ 31) (hi_ : i_ + 6 ≤ L_) (hc_ : lwFd pc = true) : ∃ X_ : Int64, xTr r_ d_ xlaw pc (lwS i_) st h (pc + 25) (lwS i_) (lwV r_ (i_ + 3) :: .long X_ :: st) h := by
  unfold lwFd at hc_
  simp only [Bool.and_eq_true] at hc_
  obtain ⟨c1_, c2_, c3_, c4_, c5_, c6_, c7_, c8_, c9_, c10_⟩ := hc_
  have T1 : xTr r_ d_ xlaw pc (lwS i_) st h (pc + 5) (lwS i_) (lwV r_ (i_ + 1) :: st) h := lw_arg hT_ hL hL31 (by omega) hi_ c1_
  have T2 : xTr r_ d_ xlaw (pc + 5) (lwS i_) (lwV r_ (i_ + 1) :: st) h (pc + 6) (lwS i_) (.long (xti (r_ (200 + (i_ + 1)))).toInt64 :: st) h := xTr_i2l hT_ (of_decide_eq_true c2_)
  have T3 : xTr r_ d_ xlaw (pc + 6) (lwS i_) (.long (xti (r_ (200 + (i_ + 1)))).toInt64 :: st) h (pc + 8) (lwS i_) (.int (Int8.ofInt 32).toInt32 :: .long (xti (r_ (200 + (i_ + 1)))).toInt64 :: st) h := xTr_bp hT_ (of_decide_eq_true c3_)
  obtain ⟨Y, T4⟩ : ∃ Y : Int64, xTr r_ d_ xlaw (pc + 8) (lwS i_) (.int (Int8.ofInt 32).toInt32 :: .long (xti (r_ (200 + (i_ + 1)))).toInt64 :: st) h (pc + 9) (lwS i_) (.long Y :: st) h := ⟨_, xTr_lsh hT_ (of_decide_eq_true c4_)⟩
  have T5 : xTr r_ d_ xlaw (pc + 9) (lwS i_) (.long Y :: st) h (pc + 14) (lwS i_) (lwV r_ (i_ + 2) :: .long Y :: st) h := lw_arg hT_ hL hL31 (by omega) hi_ c5_
  have T6 : xTr r_ d_ xlaw (pc + 14) (lwS i_) (lwV r_ (i_ + 2) :: .long Y :: st) h (pc + 15) (lwS i_) (.long (xti (r_ (200 + (i_ + 2)))).toInt64 :: .long Y :: st) h := xTr_i2l hT_ (of_decide_eq_true c6_)
  obtain ⟨X1, T7⟩ : ∃ X1 : Int64, xTr r_ d_ xlaw (pc + 15) (lwS i_) (.long (xti (r_ (200 + (i_ + 2)))).toInt64 :: .long Y :: st) h (pc + 18) (lwS i_) (.long X1 :: .long (xti (r_ (200 + (i_ + 2)))).toInt64 :: .long Y :: st) h := lw_ld hT_ c7_
  obtain ⟨Y2, T8⟩ : ∃ Y2 : Int64, xTr r_ d_ xlaw (pc + 18) (lwS i_) (.long X1 :: .long (xti (r_ (200 + (i_ + 2)))).toInt64 :: .long Y :: st) h (pc + 19) (lwS i_) (.long Y2 :: .long Y :: st) h := ⟨_, xTr_lan hT_ (of_decide_eq_true c8_)⟩
  obtain ⟨Y3, T9⟩ : ∃ Y3 : Int64, xTr r_ d_ xlaw (pc + 19) (lwS i_) (.long Y2 :: .long Y :: st) h (pc + 20) (lwS i_) (.long Y3 :: st) h := ⟨_, xTr_lor hT_ (of_decide_eq_true c9_)⟩
  have T10 : xTr r_ d_ xlaw (pc + 20) (lwS i_) (.long Y3 :: st) h (pc + 25) (lwS i_) (lwV r_ (i_ + 3) :: .long Y3 :: st) h := lw_arg hT_ hL hL31 (by omega) hi_ c10_
  exact ⟨Y3, xTr_tt T1 (xTr_tt T2 (xTr_tt T3 (xTr_tt T4 (xTr_tt T5 (xTr_tt T6 (xTr_tt T7 (xTr_tt T8 (xTr_tt T9 T10))))))))⟩
def lwFh (pc : Nat) (z_ : Fin 4) (cm a_ : Nat) : Bool := lwe pc (.aload_n z_, 1, []) && (lwFd (pc + 1) && (lwInv (pc + 26) cm && lwM cm a_ 2 3))
/-- a turn of feed -/
def lwFd2 (pc cmx cmm : Nat) : Bool := lwFh pc 1 cmx 0 && (lwe (pc + 29) (.pop, 1, []) && (lwFh (pc + 30) 2 cmm 338 && (lwe (pc + 59) (.pop, 1, []) && lwGt (pc + 60))))
def lwFd2C (pc cmx cmm : Nat) : Bool := lwFh pc 1 cmx 0 && (lwFh (pc + 29) 2 cmm 338 && lwCe (pc + 58))
def lwFe : List bP := [none, some (.inl (-2147483648, 2147483647))]
theorem lwFe_ok {X_ : Int64} {x_ : Int32} : bPs lwFe [.long X_, .int x_] := ⟨⟨X_, rfl⟩, ⟨x_, rfl, bi_lo _, bi_hi _⟩, trivial⟩
theorem lwFe_eq {X_ Y_ : Int64} {x_ : Int32} : ∀ j_, bpt [.long Y_, .int x_] j_ = bpt [.long X_, .int x_] j_ := by
  intro j_
  rcases j_ with _ | j_
  · rfl
  · rw [bpt_cons, bpt_cons]
theorem lw_fh2 (hT_ : xTok) (hr : xRr r_) (hL : r_ 49 = .int (nI L_)) (hL31 : L_ < 2 ^ 31) (hi_ : i_ + 6 ≤ L_) {z_ : Fin 4} {cm a_ : Nat} {s' : List Jvm.Term} (hc_ : lwFh pc z_ cm a_ = true) (hz : xlk (lwS i_) z_.val = some (.index a_)) (hh : bInv bZ bIj h) (hs : s' = [] ∨ ∃ u_, s' = [.int u_]) : ∃ X_ : Int64, ∀ (v_ : Int32) (h' : xH), xrun 999 cm 0 (xal 0 (.index a_ :: [.long X_, lwV r_ (i_ + 3)])) [] h (some (.int v_), h', []) → xhw h' → xTr r_ 1000 xlaw pc (lwS i_) s' h (pc + 29) (lwS i_) (.int v_ :: s') h' := by
  unfold lwFh at hc_
  simp only [Bool.and_eq_true] at hc_
  obtain ⟨c1_, c2_, c3_, c4_⟩ := hc_
  have T1 : xTr r_ 1000 xlaw pc (lwS i_) s' h (pc + 1) (lwS i_) (.index a_ :: s') h := xTr_al hT_ (of_decide_eq_true c1_) hz rfl
  obtain ⟨X_, T2⟩ := lw_fd (r_ := r_) (d_ := 1000) (st := .index a_ :: s') (h := h) hT_ hL hL31 hi_ c2_
  refine ⟨X_, fun v_ h' S_ hw => ?_⟩
  have T3 : xTr r_ 1000 xlaw (pc + 26) (lwS i_) ([.long X_, lwV r_ (i_ + 3)].reverse ++ .index a_ :: s') h (pc + 26 + 3) (lwS i_) (.int v_ :: s') h' := lw_call (w_ := 3) hT_ hr c3_ c4_ rfl hh hs S_ hw
  exact xTr_tt T1 (xTr_tt T2 T3)
theorem lw_fturn {RP : lRel} (hT_ : xTok) (hr : xRr r_) (hL : r_ 49 = .int (nI L_)) (hL31 : L_ < 2 ^ 31) (hi_ : i_ + 6 ≤ L_) (hh : bInv bZ bIj h) (hX : bXm h) (hR : lRp RP h) {cmx cmm : Nat} {eq_ : Bool} (hc_ : lwFd2 pc cmx cmm = true) (hp : lwPr RP eq_ cmx cmm lwFe) : lwGo RP r_ i_ pc h := by
  unfold lwFd2 at hc_
  simp only [Bool.and_eq_true] at hc_
  obtain ⟨c1_, c2_, c3_, c4_, c5_⟩ := hc_
  obtain ⟨X_, T1⟩ := lw_fh2 (s' := []) hT_ hr hL hL31 hi_ c1_ rfl hh (Or.inl rfl)
  obtain ⟨v1_, h1, S1, H1_, X1, K_⟩ := hp h _ hh hX hR (lwFe_ok (X_ := X_) (x_ := xti (r_ (200 + (i_ + 3)))))
  obtain ⟨Y_, T3⟩ := lw_fh2 (s' := []) hT_ hr hL hL31 hi_ c3_ rfl H1_ (Or.inl rfl)
  obtain ⟨v2, h2, S2, H2_, X2, R2_, -⟩ := K_ _ (lwFe_ok (X_ := Y_) (x_ := xti (r_ (200 + (i_ + 3))))) lwFe_eq
  have T1 := T1 v1_ h1 S1 H1_.2
  have T3 := T3 v2 h2 S2 H2_.2
  have T2 : xTr r_ 1000 xlaw (pc + 29) (lwS i_) [.int v1_] h1 (pc + 29 + 1) (lwS i_) [] h1 := xTr_pop hT_ (of_decide_eq_true c2_)
  have T4 : xTr r_ 1000 xlaw (pc + 30 + 29) (lwS i_) [.int v2] h2 (pc + 30 + 29 + 1) (lwS i_) [] h2 := xTr_pop hT_ (of_decide_eq_true c4_)
  exact ⟨h2, xTr_tt T1 (xTr_tt T2 (xTr_tt T3 (xTr_tt T4 (lw_gt hT_ c5_)))), H2_, X2, R2_⟩
theorem lw_fturnc {RP : lRel} (hT_ : xTok) (hr : xRr r_) (hL : r_ 49 = .int (nI L_)) (hL31 : L_ < 2 ^ 31) (hi_ : i_ + 6 ≤ L_) (hh : bInv bZ bIj h) (hX : bXm h) (hR : lRp RP h) {cmx cmm : Nat} (hc_ : lwFd2C pc cmx cmm = true) (hp : lwPr RP true cmx cmm lwFe) : lwGo RP r_ i_ pc h := by
  unfold lwFd2C at hc_
  simp only [Bool.and_eq_true] at hc_
  obtain ⟨c1_, c3_, c5_⟩ := hc_
  obtain ⟨X_, T1⟩ := lw_fh2 (s' := []) hT_ hr hL hL31 hi_ c1_ rfl hh (Or.inl rfl)
  obtain ⟨v1_, h1, S1, H1_, X1, K_⟩ := hp h _ hh hX hR (lwFe_ok (X_ := X_) (x_ := xti (r_ (200 + (i_ + 3)))))
  obtain ⟨Y_, T3⟩ := lw_fh2 (s' := [.int v1_]) hT_ hr hL hL31 hi_ c3_ rfl H1_ (Or.inr ⟨v1_, rfl⟩)
  obtain ⟨v2, h2, S2, H2_, X2, R2_, E2⟩ := K_ _ (lwFe_ok (X_ := Y_) (x_ := xti (r_ (200 + (i_ + 3))))) lwFe_eq
  have ev := E2 rfl
  subst ev
  have T1 := T1 v1_ h1 S1 H1_.2
  have T3 := T3 v1_ h2 S2 H2_.2
  have T4 : xTr r_ 1000 xlaw (pc + 29 + 29) (lwS i_) [.int v1_, .int v1_] h2 1676 (lwS i_) [] h2 := lw_ce hT_ c5_
  exact ⟨h2, xTr_tt T1 (xTr_tt T3 T4), H2_, X2, R2_⟩
end
