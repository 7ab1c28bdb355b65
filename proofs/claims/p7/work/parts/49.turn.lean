-- ===== what a call of the law's does: it ends, and all that is known of the heap holds again
theorem bIj_m {h : xH} (H_ : bInv bZ bIj h) : bInv bZ bIm h := by
  refine bInv_to (own_ := fun i_ => Nat.ble 338 i_) (fun i_ j_ ho => ?_) (fun i_ z_ j_ e hz hj ho he => ?_) H_
  · show (bif Nat.ble 338 i_ then bIm i_ j_ else bIx i_ j_) = bIm i_ j_
    rw [show Nat.ble 338 i_ = true from ho]
    rfl
  · have h : i_ < 338 := by
      rcases Nat.lt_or_ge i_ 338 with q_ | q_
      · exact q_
      · exact absurd (Nat.ble_eq_true_of_le q_) (by rw [show Nat.ble 338 i_ = false from ho]; exact Bool.false_ne_true)
    have e1_ : bIx i_ j_ = some e := by
      rw [← he]
      show bIx i_ j_ = (bif Nat.ble 338 i_ then bIm i_ j_ else bIx i_ j_)
      rw [show Nat.ble 338 i_ = false from ho]
      rfl
    exact bjw9_ok (bjm_ok h) hz hj e1_
def lwSafe (cm a_ : Nat) (es : List bP) : Prop := ∀ (h : xH) (as_ : List Jvm.Term), bInv bZ bIj h → bXm h → bPs es as_ → ∃ (v_ : Int32) (h' : xH), xrun 999 cm 0 (xal 0 (.index a_ :: as_)) [] h (some (.int v_), h', []) ∧ bInv bZ bIj h' ∧ bXm h'
def lwAns (a_ : Option bN) : Bool := match a_ with
  | some (.inl _) => true
  | _ => false
theorem lwAns_ok {a_ : Option bN} {t_ : Option Jvm.Term} (h : lwAns a_ = true) (k_ : bav a_ t_) : ∃ v_ : Int32, t_ = some (.int v_) := by
  unfold lwAns at h
  split at h
  · obtain ⟨u_, rfl, v_, rfl, -⟩ := k_
    exact ⟨v_, rfl⟩
  · cases h
theorem bxw_of {W : bW} (h : W.all (fun q_ => Nat.ble (q_.2.1 + 1) 338) = true) : bxw W = true := by
  refine List.all_eq_true.mpr (fun q_ hq => ?_)
  have k_ := Nat.le_of_ble_eq_true (List.all_eq_true.mp h q_ hq)
  simp only [Bool.or_eq_true]
  exact Or.inl (Or.inl (Nat.ble_eq_true_of_le (by omega)))
def lwkx (c_ : bC) (es : List bP) : Prop := c_.2.1 = some (.inr [.index 0]) :: es ∧ bcP c_ = [] ∧ (c_.2.2.2.1.all (fun q_ => Nat.ble (q_.2.1 + 1) 338) && (Nat.ble (bcD c_) 999 && lwAns c_.2.2.1)) = true
def lwkm (c_ : bC) (es : List bP) : Prop := c_.2.1 = some (.inr [.index 338]) :: es ∧ bcP c_ = [] ∧ (c_.2.2.2.1.all (fun q_ => Nat.ble 338 q_.1) && (bxw c_.2.2.2.1 && (Nat.ble (bcD c_) 999 && lwAns c_.2.2.1))) = true
/-- what a contract of the class gives, its answer with it -/
theorem lwrun_x {c_ : bC} {es : List bP} (hc_ : bcon bZ bIx bTr c_) (hk : lwkx c_ es) {h : xH} {as_ : List Jvm.Term} (H_ : bInv bZ bIj h) (hX : bXm h) (hp : bPs es as_) : ∃ (v_ : Int32) (h' : xH), xrun 999 c_.1 0 (xal 0 (.index 0 :: as_)) [] h (some (.int v_), h', []) ∧ bInv bZ bIj h' ∧ bXm h' ∧ bav c_.2.2.1 (some (.int v_)) := by
  obtain ⟨he, hP, hk⟩ := hk
  simp only [Bool.and_eq_true] at hk
  obtain ⟨k1_, k2_, k3_⟩ := hk
  have g_ : bPs c_.2.1 (.index 0 :: as_) := by
    rw [he]
    exact ⟨⟨List.mem_singleton.mpr rfl, rfl, rfl⟩, hp⟩
  obtain ⟨t_, h', a1_, a2, a3, a4, -⟩ := bcon_x k1_ hc_ h (.index 0 :: as_) H_ trivial g_ (by rw [hP]; intro q_ hq; exact absurd hq List.not_mem_nil)
  obtain ⟨v_, rfl⟩ := lwAns_ok k3_ a4
  exact ⟨v_, h', a1_ 999 (Nat.le_of_ble_eq_true k2_), a2, bxw_ok (bxw_of k1_) h h' a3 hX, a4⟩
theorem lwrun_m {X_ : xH → Prop} (hXX : ∀ h, bXm h → X_ h) {c_ : bC} {es : List bP} (hc_ : bcon bZ bIm X_ c_) (hk : lwkm c_ es) {h : xH} {as_ : List Jvm.Term} (H_ : bInv bZ bIj h) (hX : bXm h) (hp : bPs es as_) : ∃ (v_ : Int32) (h' : xH), xrun 999 c_.1 0 (xal 0 (.index 338 :: as_)) [] h (some (.int v_), h', []) ∧ bInv bZ bIj h' ∧ bXm h' ∧ bav c_.2.2.1 (some (.int v_)) := by
  obtain ⟨he, hP, hk⟩ := hk
  simp only [Bool.and_eq_true] at hk
  obtain ⟨k1_, k0_, k2_, k3_⟩ := hk
  have g_ : bPs c_.2.1 (.index 338 :: as_) := by
    rw [he]
    exact ⟨⟨List.mem_singleton.mpr rfl, rfl, rfl⟩, hp⟩
  obtain ⟨t_, h', a1_, a2, a3, a4, -⟩ := bcon_m k1_ hc_ h (.index 338 :: as_) H_ (hXX h hX) g_ (by rw [hP]; intro q_ hq; exact absurd hq List.not_mem_nil)
  obtain ⟨v_, rfl⟩ := lwAns_ok k3_ a4
  exact ⟨v_, h', a1_ 999 (Nat.le_of_ble_eq_true k2_), a2, bxw_ok k0_ h h' a3 hX, a4⟩
theorem lwSafe_x {c_ : bC} {es : List bP} (hc_ : bcon bZ bIx bTr c_) (hk : lwkx c_ es) : lwSafe c_.1 0 es := by
  intro h as_ H_ hX hp
  obtain ⟨v_, h', a1_, a2, a3, -⟩ := lwrun_x hc_ hk H_ hX hp
  exact ⟨v_, h', a1_, a2, a3⟩
theorem lwSafe_m {X_ : xH → Prop} (hXX : ∀ h, bXm h → X_ h) {c_ : bC} {es : List bP} (hc_ : bcon bZ bIm X_ c_) (hk : lwkm c_ es) : lwSafe c_.1 338 es := by
  intro h as_ H_ hX hp
  obtain ⟨v_, h', a1_, a2, a3, -⟩ := lwrun_m hXX hc_ hk H_ hX hp
  exact ⟨v_, h', a1_, a2, a3⟩
theorem xrun_un {d_ mi pc : Nat} {lo : xL} {st : List Jvm.Term} {h : xH} {o1 o2 : xO} (H1_ : xrun d_ mi pc lo st h o1) (H2_ : xrun d_ mi pc lo st h o2) : o1 = o2 := by
  obtain ⟨f1_, g1⟩ := H1_
  obtain ⟨f2_, g2⟩ := H2_
  have a_ := g1 (f1_ + f2_) (by omega)
  rw [g2 (f1_ + f2_) (by omega)] at a_
  exact (Option.some.inj a_).symm
/-- the methods that were proved by hand -/
theorem lwSafe_o {cm : Nat} {W : bW} {es : List bP} (Hm_ : ∃ d_, d_ ≤ 900 ∧ ∀ (h : xH) (as_ : List Jvm.Term), bPs es as_ → bInv bZ bIm h → bXm h → ∃ t_ h', (∀ D_, d_ ≤ D_ → xrun D_ cm 0 (xal 0 (.index 338 :: as_)) [] h (t_, h', [])) ∧ bInv bZ bIm h' ∧ bXm h' ∧ bfr W h h' ∧ bav (some wany) t_) (hW : W.all (fun q_ => Nat.ble 338 q_.1) = true) : lwSafe cm 338 es := by
  obtain ⟨d_, hd_, Hm_⟩ := Hm_
  intro h as_ H_ hX hp
  have hc_ : bcon bZ bIm bXm (cm, some (.inr [.index 338]) :: es, some wany, W, d_, [], []) := by
    intro h ts H0 hX0 hp0 _
    cases ts with
    | nil => exact absurd hp0 id
    | cons t0_ ts =>
      obtain ⟨⟨p1_, -⟩, p2_⟩ := hp0
      have e := List.mem_singleton.mp p1_
      subst e
      obtain ⟨t_, h', a1_, a2, a3, a4, a5⟩ := Hm_ h ts p2_ H0 hX0
      exact ⟨t_, h', a1_, a2, a4, a5, fun q_ hq => absurd hq List.not_mem_nil⟩
  obtain ⟨t1_, h1, a1_, a2, a3, a4, -⟩ := bcon_m hW hc_ h (.index 338 :: as_) H_ hX ⟨⟨List.mem_singleton.mpr rfl, rfl, rfl⟩, hp⟩ (fun q_ hq => absurd hq List.not_mem_nil)
  obtain ⟨t2_, h2, b1, b2, b3, b4, b5⟩ := Hm_ h as_ hp (bIj_m H_) hX
  have e := xrun_un (a1_ 999 (by show d_ ≤ 999; omega)) (b1 999 (by omega))
  have e2_ : h1 = h2 := congrArg (fun o => o.2.1) e
  subst e2_
  obtain ⟨u_, rfl, v_, rfl, -⟩ := a4
  exact ⟨v_, h1, a1_ 999 (by show d_ ≤ 999; omega), a2, b3⟩
/-- so many ints -/
def lwI (n : Nat) : List bP := List.replicate n (some (.inl (-2147483648, 2147483647)))
theorem lwVs_ok (r_ : Nat → Value) (i_ : Nat) : ∀ js : List Nat, bPs (lwI js.length) (lwVs r_ i_ js) := by
  intro js
  induction js with
  | nil => trivial
  | cons j_ t_ ih_ =>
    have e : bqv (some (.inl (-2147483648, 2147483647))) (lwV r_ (i_ + j_)) := ⟨_, rfl, bi_lo _, bi_hi _⟩
    exact ⟨e, ih_⟩
theorem lwVs_sz (r_ : Nat → Value) (i_ : Nat) : ∀ js : List Nat, xasz (lwVs r_ i_ js) = js.length := by
  intro js
  induction js with
  | nil => rfl
  | cons j_ t_ ih_ =>
    show 1 + xasz (lwVs r_ i_ t_) = t_.length + 1
    rw [ih_]
    omega
theorem lwVs_ln (r_ : Nat → Value) (i_ : Nat) (js : List Nat) : (lwVs r_ i_ js).length = js.length := List.length_map ..
def lwHalf (pc : Nat) (z_ : Fin 4) (cm a_ : Nat) (js : List Nat) : Bool := lwe pc (.aload_n z_, 1, []) && (lwArgs (pc + 1) js && (lwInv (pc + 1 + 5 * js.length) cm && lwM cm a_ js.length js.length))
def lwGt (pc : Nat) : Bool := match xcd xlaw pc with
  | some (.goto off_, 3, []) => decide ((pc : Int) + off_ = .ofNat 1676)
  | _ => false
def lwTurn (pc cmx cmm : Nat) (js : List Nat) : Bool := lwHalf pc 1 cmx 0 js && (lwe (pc + 4 + 5 * js.length) (.pop, 1, []) && (lwHalf (pc + 5 + 5 * js.length) 2 cmm 338 js && (lwe (pc + 9 + 10 * js.length) (.pop, 1, []) && lwGt (pc + 10 + 10 * js.length))))
/-- a turn of the law's from a place of its switch -/
def lwGo (r_ : Nat → Value) (i_ pc : Nat) (h : xH) : Prop := ∃ h', xTr r_ 1000 xlaw pc (lwS i_) [] h 1676 (lwS i_) [] h' ∧ bInv bZ bIj h' ∧ bXm h'
section
variable {r_ : Nat → Value} {i_ L_ : Nat} {h : xH}
theorem lw_gt (hT_ : xTok) {d_ pc : Nat} {lo : xL} {st : List Jvm.Term} (hc_ : lwGt pc = true) : xTr r_ d_ xlaw pc lo st h 1676 lo st h := by
  unfold lwGt at hc_
  split at hc_
  · rename_i off_ e
    exact xTr_goto hT_ e (of_decide_eq_true hc_)
  · cases hc_
theorem lw_half (hT_ : xTok) (hr : xRr r_) (hL : r_ 49 = .int (nI L_)) (hL31 : L_ < 2 ^ 31) (hi_ : i_ + 6 ≤ L_) {z_ : Fin 4} {pc cm a_ : Nat} {js : List Nat} {s' : List Jvm.Term} {h' : xH} {v_ : Int32} (hc_ : lwHalf pc z_ cm a_ js = true) (hz : xlk (lwS i_) z_.val = some (.index a_)) (hh : bInv bZ bIj h) (hs : s' = [] ∨ ∃ u_, s' = [.int u_]) (S_ : xrun 999 cm 0 (xal 0 (.index a_ :: lwVs r_ i_ js)) [] h (some (.int v_), h', [])) (hw : xhw h') : xTr r_ 1000 xlaw pc (lwS i_) s' h (pc + 4 + 5 * js.length) (lwS i_) (.int v_ :: s') h' := by
  unfold lwHalf at hc_
  simp only [Bool.and_eq_true] at hc_
  obtain ⟨c1_, c2_, c3_, c4_⟩ := hc_
  have T1 : xTr r_ 1000 xlaw pc (lwS i_) s' h (pc + 1) (lwS i_) (.index a_ :: s') h := xTr_al hT_ (of_decide_eq_true c1_) hz rfl
  have T2 : xTr r_ 1000 xlaw (pc + 1) (lwS i_) (.index a_ :: s') h (pc + 1 + 5 * js.length) (lwS i_) ((lwVs r_ i_ js).reverse ++ .index a_ :: s') h := lw_args hT_ hL hL31 hi_ js (pc + 1) (.index a_ :: s') c2_
  have T3 : xTr r_ 1000 xlaw (pc + 1 + 5 * js.length) (lwS i_) ((lwVs r_ i_ js).reverse ++ .index a_ :: s') h (pc + 1 + 5 * js.length + 3) (lwS i_) (.int v_ :: s') h' := lw_call hT_ hr c3_ (by rw [lwVs_ln]; exact c4_) (lwVs_sz r_ i_ js) hh hs S_ hw
  have e : pc + 1 + 5 * js.length + 3 = pc + 4 + 5 * js.length := by omega
  rw [e] at T3
  exact xTr_tt T1 (xTr_tt T2 T3)
theorem lw_turn (hT_ : xTok) (hr : xRr r_) (hL : r_ 49 = .int (nI L_)) (hL31 : L_ < 2 ^ 31) (hi_ : i_ + 6 ≤ L_) (hh : bInv bZ bIj h) (hX : bXm h) {pc cmx cmm : Nat} {js : List Nat} (hc_ : lwTurn pc cmx cmm js = true) (sx : lwSafe cmx 0 (lwI js.length)) (sm_ : lwSafe cmm 338 (lwI js.length)) : lwGo r_ i_ pc h := by
  unfold lwTurn at hc_
  simp only [Bool.and_eq_true] at hc_
  obtain ⟨c1_, c2_, c3_, c4_, c5_⟩ := hc_
  obtain ⟨v1_, h1, S1, H1_, X1⟩ := sx h _ hh hX (lwVs_ok r_ i_ js)
  obtain ⟨v2, h2, S2, H2_, X2⟩ := sm_ h1 _ H1_ X1 (lwVs_ok r_ i_ js)
  have T1 := lw_half (s' := []) hT_ hr hL hL31 hi_ c1_ rfl hh (Or.inl rfl) S1 H1_.2
  have T2 : xTr r_ 1000 xlaw (pc + 4 + 5 * js.length) (lwS i_) [.int v1_] h1 (pc + 4 + 5 * js.length + 1) (lwS i_) [] h1 := xTr_pop hT_ (of_decide_eq_true c2_)
  have T3 := lw_half (s' := []) hT_ hr hL hL31 hi_ c3_ rfl H1_ (Or.inl rfl) S2 H2_.2
  have e1_ : pc + 4 + 5 * js.length + 1 = pc + 5 + 5 * js.length := by omega
  have e2_ : pc + 5 + 5 * js.length + 4 + 5 * js.length = pc + 9 + 10 * js.length := by omega
  rw [e1_] at T2
  rw [e2_] at T3
  have T4 : xTr r_ 1000 xlaw (pc + 9 + 10 * js.length) (lwS i_) [.int v2] h2 (pc + 9 + 10 * js.length + 1) (lwS i_) [] h2 := xTr_pop hT_ (of_decide_eq_true c4_)
  have e3_ : pc + 9 + 10 * js.length + 1 = pc + 10 + 10 * js.length := by omega
  rw [e3_] at T4
  exact ⟨h2, xTr_tt T1 (xTr_tt T2 (xTr_tt T3 (xTr_tt T4 (lw_gt hT_ c5_)))), H2_, X2⟩
end
-- ===== feed: a long of two ints
section
variable {r_ : Nat → Value} {d_ mi pc i_ L_ : Nat} {lo : xL} {st : List Jvm.Term} {h : xH}
theorem xTr_i2l (hT_ : xTok) {a_ : Int32} (hcd : xcd mi pc = some (.i2l, 1, [])) : xTr r_ d_ mi pc lo (.int a_ :: st) h (pc + 1) lo (.long a_.toInt64 :: st) h := xTr_cs hT_ hcd (by simp only [xsp, xI, cond_true, xpu, xfT_eq, xfN_eq, xl0])
theorem xTr_lsh (hT_ : xTok) {a_ : Int64} {b_ : Int32} (hcd : xcd mi pc = some (.lshl, 1, [])) : xTr r_ d_ mi pc lo (.int b_ :: .long a_ :: st) h (pc + 1) lo (.long (xtl (xo2 .lshl (.long a_) (.int b_))) :: st) h := xTr_cs hT_ hcd (by simp only [xsp, xI, xG, Bool.and_self, cond_true, xpu, xfT_eq, xfN_eq, xl2])
theorem xTr_lan (hT_ : xTok) {a_ b_ : Int64} (hcd : xcd mi pc = some (.land, 1, [])) : xTr r_ d_ mi pc lo (.long b_ :: .long a_ :: st) h (pc + 1) lo (.long (xtl (xo2 .land (.long a_) (.long b_))) :: st) h := xTr_cs hT_ hcd (by simp only [xsp, xG, Bool.and_self, cond_true, xpu, xfT_eq, xfN_eq, xl2])
theorem xTr_lor (hT_ : xTok) {a_ b_ : Int64} (hcd : xcd mi pc = some (.lor, 1, [])) : xTr r_ d_ mi pc lo (.long b_ :: .long a_ :: st) h (pc + 1) lo (.long (xtl (xo2 .lor (.long a_) (.long b_))) :: st) h := xTr_cs hT_ hcd (by simp only [xsp, xG, Bool.and_self, cond_true, xpu, xfT_eq, xfN_eq, xl2])
theorem xTr_ld2 (hT_ : xTok) {q_ p n : Nat} (hcd : xcd mi pc = some (.ldc2_w q_, 3, [p, n])) : xTr r_ d_ mi pc lo st h (pc + 3) lo (.long (Int64.ofNat n) :: st) h := xTr_cs hT_ hcd (by simp only [xsp, xpu, xfT_eq, xfN_eq])
def lwLd (pc : Nat) : Bool := match xcd xlaw pc with
  | some (.ldc2_w _, 3, [_, _]) => true
  | _ => false
theorem lw_ld (hT_ : xTok) (hc_ : lwLd pc = true) : ∃ X_ : Int64, xTr r_ d_ xlaw pc lo st h (pc + 3) lo (.long X_ :: st) h := by
  unfold lwLd at hc_
  split at hc_
  · rename_i e
    exact ⟨_, xTr_ld2 hT_ e⟩
  · cases hc_
def lwFd (pc : Nat) : Bool := lwArg pc 1 && (lwe (pc + 5) (.i2l, 1, []) && (lwe (pc + 6) (.bipush 32, 2, []) && (lwe (pc + 8) (.lshl, 1, []) && (lwArg (pc + 9) 2 && (lwe (pc + 14) (.i2l, 1, []) && (lwLd (pc + 15) && (lwe (pc + 18) (.land, 1, []) && (lwe (pc + 19) (.lor, 1, []) && lwArg (pc + 20) 3))))))))
theorem lw_fd (hT_ : xTok) (hL : r_ 49 = .int (nI L_)) (hL31 : L_ < 2 ^ 31) (hi_ : i_ + 6 ≤ L_) (hc_ : lwFd pc = true) : ∃ X_ : Int64, xTr r_ d_ xlaw pc (lwS i_) st h (pc + 25) (lwS i_) (lwV r_ (i_ + 3) :: .long X_ :: st) h := by
  unfold lwFd at hc_
  simp only [Bool.and_eq_true] at hc_
  obtain ⟨c1_, c2_, c3_, c4_, c5_, c6_, c7_, c8_, c9_, c10_⟩ := hc_
  have T1 : xTr r_ d_ xlaw pc (lwS i_) st h (pc + 5) (lwS i_) (lwV r_ (i_ + 1) :: st) h := lw_arg hT_ hL hL31 (by omega) hi_ c1_
  have T2 : xTr r_ d_ xlaw (pc + 5) (lwS i_) (lwV r_ (i_ + 1) :: st) h (pc + 6) (lwS i_) (.long (xti (r_ (200 + (i_ + 1)))).toInt64 :: st) h := xTr_i2l hT_ (of_decide_eq_true c2_)
  have T3 : xTr r_ d_ xlaw (pc + 6) (lwS i_) (.long (xti (r_ (200 + (i_ + 1)))).toInt64 :: st) h (pc + 8) (lwS i_) (.int (Int8.ofInt 32).toInt32 :: .long (xti (r_ (200 + (i_ + 1)))).toInt64 :: st) h := xTr_bp hT_ (of_decide_eq_true c3_)
  obtain ⟨Y, T4⟩ : ∃ Y : Int64, xTr r_ d_ xlaw (pc + 8) (lwS i_) (.int (Int8.ofInt 32).toInt32 :: .long (xti (r_ (200 + (i_ + 1)))).toInt64 :: st) h (pc + 9) (lwS i_) (.long Y :: st) h := ⟨_, xTr_lsh hT_ (of_decide_eq_true c4_)⟩
  have T5 : xTr r_ d_ xlaw (pc + 9) (lwS i_) (.long Y :: st) h (pc + 14) (lwS i_) (lwV r_ (i_ + 2) :: .long Y :: st) h := lw_arg hT_ hL hL31 (by omega) hi_ c5_
  have T6 : xTr r_ d_ xlaw (pc + 14) (lwS i_) (lwV r_ (i_ + 2) :: .long Y :: st) h (pc + 15) (lwS i_) (.long (xti (r_ (200 + (i_ + 2)))).toInt64 :: .long Y :: st) h := xTr_i2l hT_ (of_decide_eq_true c6_)
  obtain ⟨X1, T7⟩ : ∃ X1 : Int64, xTr r_ d_ xlaw (pc + 15) (lwS i_) (.long (xti (r_ (200 + (i_ + 2)))).toInt64 :: .long Y :: st) h (pc + 18) (lwS i_) (.long X1 :: .long (xti (r_ (200 + (i_ + 2)))).toInt64 :: .long Y :: st) h := lw_ld hT_ c7_
  obtain ⟨Y2, T8⟩ : ∃ Y2 : Int64, xTr r_ d_ xlaw (pc + 18) (lwS i_) (.long X1 :: .long (xti (r_ (200 + (i_ + 2)))).toInt64 :: .long Y :: st) h (pc + 19) (lwS i_) (.long Y2 :: .long Y :: st) h := ⟨_, xTr_lan hT_ (of_decide_eq_true c8_)⟩
  obtain ⟨Y3, T9⟩ : ∃ Y3 : Int64, xTr r_ d_ xlaw (pc + 19) (lwS i_) (.long Y2 :: .long Y :: st) h (pc + 20) (lwS i_) (.long Y3 :: st) h := ⟨_, xTr_lor hT_ (of_decide_eq_true c9_)⟩
  have T10 : xTr r_ d_ xlaw (pc + 20) (lwS i_) (.long Y3 :: st) h (pc + 25) (lwS i_) (lwV r_ (i_ + 3) :: .long Y3 :: st) h := lw_arg hT_ hL hL31 (by omega) hi_ c10_
  exact ⟨Y3, xTr_tt T1 (xTr_tt T2 (xTr_tt T3 (xTr_tt T4 (xTr_tt T5 (xTr_tt T6 (xTr_tt T7 (xTr_tt T8 (xTr_tt T9 T10))))))))⟩
def lwFh (pc : Nat) (z_ : Fin 4) (cm a_ : Nat) : Bool := lwe pc (.aload_n z_, 1, []) && (lwFd (pc + 1) && (lwInv (pc + 26) cm && lwM cm a_ 2 3))
theorem lw_fh (hT_ : xTok) (hr : xRr r_) (hL : r_ 49 = .int (nI L_)) (hL31 : L_ < 2 ^ 31) (hi_ : i_ + 6 ≤ L_) {z_ : Fin 4} {cm a_ : Nat} (hc_ : lwFh pc z_ cm a_ = true) (hz : xlk (lwS i_) z_.val = some (.index a_)) (hh : bInv bZ bIj h) (hX : bXm h) (sf : lwSafe cm a_ [none, some (.inl (-2147483648, 2147483647))]) : ∃ v_ h', xTr r_ 1000 xlaw pc (lwS i_) [] h (pc + 29) (lwS i_) [.int v_] h' ∧ bInv bZ bIj h' ∧ bXm h' := by
  unfold lwFh at hc_
  simp only [Bool.and_eq_true] at hc_
  obtain ⟨c1_, c2_, c3_, c4_⟩ := hc_
  have T1 : xTr r_ 1000 xlaw pc (lwS i_) [] h (pc + 1) (lwS i_) [.index a_] h := xTr_al hT_ (of_decide_eq_true c1_) hz rfl
  obtain ⟨X_, T2⟩ := lw_fd (r_ := r_) (d_ := 1000) (st := [.index a_]) (h := h) hT_ hL hL31 hi_ c2_
  obtain ⟨v_, h', S_, H1_, X1⟩ := sf h [.long X_, lwV r_ (i_ + 3)] hh hX ⟨⟨X_, rfl⟩, ⟨_, rfl, bi_lo _, bi_hi _⟩, trivial⟩
  have T3 : xTr r_ 1000 xlaw (pc + 26) (lwS i_) ([.long X_, lwV r_ (i_ + 3)].reverse ++ .index a_ :: []) h (pc + 26 + 3) (lwS i_) (.int v_ :: []) h' := lw_call (w_ := 3) hT_ hr c3_ c4_ rfl hh (Or.inl rfl) S_ H1_.2
  exact ⟨v_, h', xTr_tt T1 (xTr_tt T2 T3), H1_, X1⟩
end
