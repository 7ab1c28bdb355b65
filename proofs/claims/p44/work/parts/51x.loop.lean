-- ===== THE LAW: its loop
def lwJ (off_ : Int) : Option Nat := match ((33 : Nat) : Int) + off_ with
  | .ofNat t_ => some t_
  | .negSucc _ => none
def lwT (dflt low_ high_ : Int) (offs : Array Int) (k_ : Nat) : Option Nat := match decide ((nI k_).toInt < low_) || decide (high_ < (nI k_).toInt) with
  | true => lwJ dflt
  | false => match offs[((nI k_).toInt - low_).toNat]? with
    | some off_ => lwJ off_
    | none => none
def lwTs (k_ : Nat) : Option Nat := match xcd xlaw 33 with
  | some (.tableswitch a_ b_ c_ o, _, _) => lwT a_ b_ c_ o k_
  | _ => none
theorem lw_tgs : (List.range 64).all (fun k_ => decide (lwTs k_ = some (lwTg.getD k_ 1676))) = true := by decide +kernel
theorem lw_e18 : xcd xlaw 18 = some (.iload_n 3, 1, []) := by decide +kernel
theorem lw_e19 : xcd xlaw 19 = some (.aload_n 0, 1, []) := by decide +kernel
theorem lw_e20 : xcd xlaw 20 = some (.arraylength, 1, []) := by decide +kernel
theorem lw_e21 : xcd xlaw 21 = some (.bipush 6, 2, []) := by decide +kernel
theorem lw_e23 : xcd xlaw 23 = some (.isub, 1, []) := by decide +kernel
theorem lw_e24 : xcd xlaw 24 = some (.if_icmp .gt 1658, 3, []) := by decide +kernel
theorem lw_e27 : xcd xlaw 27 = some (.aload_n 0, 1, []) := by decide +kernel
theorem lw_e28 : xcd xlaw 28 = some (.iload_n 3, 1, []) := by decide +kernel
theorem lw_e29 : xcd xlaw 29 = some (.iaload, 1, []) := by decide +kernel
theorem lw_e30 : xcd xlaw 30 = some (.bipush 63, 2, []) := by decide +kernel
theorem lw_e32 : xcd xlaw 32 = some (.iand, 1, []) := by decide +kernel
theorem lw_e76 : xcd xlaw 1676 = some (.iinc 3 6, 3, []) := by decide +kernel
theorem lw_e79 : xcd xlaw 1679 = some (.goto (-1661), 3, []) := by decide +kernel
theorem lw_e82 : xcd xlaw 1682 = some (.iconst 1, 1, []) := by decide +kernel
theorem lw_e83 : xcd xlaw 1683 = some (.ireturn, 1, []) := by decide +kernel
theorem nI_less {L_ : Nat} (h_ : 6 ≤ L_) : nI L_ - nI 6 = nI (L_ - 6) := by
  have e_ : nI L_ = nI (L_ - 6) + nI 6 := by
    rw [nI_add]
    exact congrArg nI (by omega)
  rw [e_, Int32.add_sub_cancel]
theorem nI_neg : ∀ L_ : Nat, L_ < 6 → (nI L_ - nI 6).toInt < 0 := by decide +kernel
section
variable {r_ : Nat → Value} {d_ i_ L_ : Nat} {h_ : xH} {lo_ : xL} {st_ : List Jvm.Term}
theorem lw_ts (hT_ : xTok) {k_ t_ : Nat} (hk : lwTs k_ = some t_) : xTr r_ d_ xlaw 33 lo_ (.int (nI k_) :: st_) h_ t_ lo_ st_ h_ := by
  unfold lwTs at hk
  split at hk
  · rename_i a_ b_ c_ o ln ax e_
    refine xTr_cs hT_ e_ ?_
    unfold lwT at hk
    simp only [xsp, xlit]
    cases hb_ : (decide ((nI k_).toInt < b_) || decide (c_ < (nI k_).toInt)) with
    | true =>
      rw [hb_] at hk
      simp only [lwJ] at hk
      simp only [xjp]
      split at hk
      · rename_i t' ht
        cases hk
        simp only [ht, xfN_eq]
      · cases hk
    | false =>
      rw [hb_] at hk
      simp only at hk ⊢
      cases ho : o[((nI k_).toInt - b_).toNat]? with
      | none => rw [ho] at hk; cases hk
      | some off_ =>
        rw [ho] at hk
        simp only [lwJ] at hk
        simp only [xjp]
        split at hk
        · rename_i t' ht
          cases hk
          simp only [ht, xfN_eq]
        · cases hk
  · cases hk
theorem lw_cmp (hL : L_ < 2 ^ 31) (hi_ : i_ < 2 ^ 31) : xcmb .gt (nI i_) (nI L_ - nI 6) = decide (L_ < i_ + 6) := by
  show decide (nI L_ - nI 6 < nI i_) = decide (L_ < i_ + 6)
  rcases Nat.lt_or_ge L_ 6 with q_ | q_
  · have h1 := nI_neg L_ q_
    have h2 : nI L_ - nI 6 < nI i_ := Int32.lt_iff_toInt_lt.mpr (by rw [nI_toInt hi_]; omega)
    rw [decide_eq_true h2, decide_eq_true (show L_ < i_ + 6 by omega)]
  · rw [nI_less q_]
    have h3 := nI_ltI (a := L_ - 6) (b := i_) (by omega) hi_
    rcases Nat.lt_or_ge L_ (i_ + 6) with p_ | p_
    · rw [decide_eq_true (h3.mpr (by omega)), decide_eq_true p_]
    · rw [decide_eq_false (fun z_ => absurd (h3.mp z_) (by omega)), decide_eq_false (by omega)]
/-- to the comparison -/
theorem lw_top (hT_ : xTok) (hL : r_ 49 = .int (nI L_)) : xTr r_ d_ xlaw 18 (lwS i_) [] h_ 24 (lwS i_) [.int (nI L_ - nI 6), .int (nI i_)] h_ := by
  have T1 : xTr r_ d_ xlaw 18 (lwS i_) [] h_ 19 (lwS i_) [.int (nI i_)] h_ := xTr_il hT_ lw_e18 rfl rfl
  have T2 : xTr r_ d_ xlaw 19 (lwS i_) [.int (nI i_)] h_ 20 (lwS i_) [.arg 100, .int (nI i_)] h_ := xTr_al hT_ lw_e19 rfl rfl
  have T3 : xTr r_ d_ xlaw 20 (lwS i_) [.arg 100, .int (nI i_)] h_ 21 (lwS i_) [.int (nI L_), .int (nI i_)] h_ := xTr_ln hT_ lw_e20 hL
  have T4 : xTr r_ d_ xlaw 21 (lwS i_) [.int (nI L_), .int (nI i_)] h_ 23 (lwS i_) [.int (nI 6), .int (nI L_), .int (nI i_)] h_ := by
    have t4_ : xTr r_ d_ xlaw 21 (lwS i_) [.int (nI L_), .int (nI i_)] h_ 23 (lwS i_) [.int (Int8.ofInt 6).toInt32, .int (nI L_), .int (nI i_)] h_ := xTr_bp hT_ lw_e21
    rw [nI_6] at t4_
    exact t4_
  have T5 : xTr r_ d_ xlaw 23 (lwS i_) [.int (nI 6), .int (nI L_), .int (nI i_)] h_ 24 (lwS i_) [.int (nI L_ - nI 6), .int (nI i_)] h_ := xTr_sub hT_ lw_e23
  exact xTr_tt T1 (xTr_tt T2 (xTr_tt T3 (xTr_tt T4 T5)))
theorem lw_and (x_ : Int32) : ∃ k_ : Nat, k_ < 64 ∧ x_ &&& nI 63 = nI k_ := by
  have e_ : (nI 63).toInt = 63 := nI_toInt (n := 63) (by omega)
  have h_ := bi_and (x_ := x_) (y_ := nI 63) (by rw [e_]; decide)
  rw [e_] at h_
  refine ⟨(x_ &&& nI 63).toInt.toNat, by omega, Int32.toInt_inj.mp ?_⟩
  rw [nI_toInt (by omega)]
  omega
/-- a turn begins: the switch -/
theorem lw_head (hT_ : xTok) (hL : r_ 49 = .int (nI L_)) (hL31 : L_ < 2 ^ 31) (hi_ : i_ + 6 ≤ L_) : ∃ k_ : Nat, k_ < 64 ∧ xTr r_ d_ xlaw 18 (lwS i_) [] h_ (lwTg.getD k_ 1676) (lwS i_) [] h_ := by
  obtain ⟨k_, hk, ek⟩ := lw_and (xti (r_ (200 + i_)))
  refine ⟨k_, hk, ?_⟩
  have T6 : xTr r_ d_ xlaw 24 (lwS i_) [.int (nI L_ - nI 6), .int (nI i_)] h_ 27 (lwS i_) [] h_ := xTr_icm (z_ := false) (t_ := 1682) hT_ lw_e24 rfl (by rw [lw_cmp hL31 (by omega)]; exact decide_eq_false (by omega))
  have T7 : xTr r_ d_ xlaw 27 (lwS i_) [] h_ 28 (lwS i_) [.arg 100] h_ := xTr_al hT_ lw_e27 rfl rfl
  have T8 : xTr r_ d_ xlaw 28 (lwS i_) [.arg 100] h_ 29 (lwS i_) [.int (nI i_), .arg 100] h_ := xTr_il hT_ lw_e28 rfl rfl
  have T9 : xTr r_ d_ xlaw 29 (lwS i_) [.int (nI i_), .arg 100] h_ 30 (lwS i_) [.int (xti (r_ (200 + i_)))] h_ := xTr_rd hT_ lw_e29 hL hL31 (by omega)
  have T10 : xTr r_ d_ xlaw 30 (lwS i_) [.int (xti (r_ (200 + i_)))] h_ 32 (lwS i_) [.int (nI 63), .int (xti (r_ (200 + i_)))] h_ := by
    have t10 : xTr r_ d_ xlaw 30 (lwS i_) [.int (xti (r_ (200 + i_)))] h_ 32 (lwS i_) [.int (Int8.ofInt 63).toInt32, .int (xti (r_ (200 + i_)))] h_ := xTr_bp hT_ lw_e30
    rw [nI_63] at t10
    exact t10
  have T11 : xTr r_ d_ xlaw 32 (lwS i_) [.int (nI 63), .int (xti (r_ (200 + i_)))] h_ 33 (lwS i_) [.int (nI k_)] h_ := by
    have t11 : xTr r_ d_ xlaw 32 (lwS i_) [.int (nI 63), .int (xti (r_ (200 + i_)))] h_ 33 (lwS i_) [.int (xti (r_ (200 + i_)) &&& nI 63)] h_ := xTr_and hT_ lw_e32
    rw [ek] at t11
    exact t11
  have hg := of_decide_eq_true (List.all_eq_true.mp lw_tgs k_ (List.mem_range.mpr hk))
  exact xTr_tt (lw_top hT_ hL) (xTr_tt T6 (xTr_tt T7 (xTr_tt T8 (xTr_tt T9 (xTr_tt T10 (xTr_tt T11 (lw_ts hT_ hg)))))))
theorem lw_inc (hT_ : xTok) : xTr r_ d_ xlaw 1676 (lwS i_) [] h_ 18 (lwS (i_ + 6)) [] h_ := by
  have e1_ : xs1 (lwS i_) 3 (.int (nI i_ + Int32.ofInt 6)) = lwS (i_ + 6) := by
    have e_ : nI i_ + Int32.ofInt 6 = nI (i_ + 6) := nI_add i_ 6
    rw [e_]
    rfl
  have hm_ : (xI (.int (nI i_)) && Nat.ble (3 + 1) (xm xlaw)) = true := by
    show Nat.ble (3 + 1) (xm xlaw) = true
    decide +kernel
  have T1 : xTr r_ d_ xlaw 1676 (lwS i_) [] h_ 1679 (lwS (i_ + 6)) [] h_ := xTr_cs hT_ lw_e76 (by
    simp only [xsp, show xlk (lwS i_) 3 = some (.int (nI i_)) from rfl, hm_, cond_true, xfT_eq, xfL_eq, xfN_eq, xad, xlit, e1_])
  exact xTr_tt T1 (xTr_goto hT_ lw_e79 rfl)
theorem lw_one1 : Int32.ofInt 1 = 1 := by decide +kernel
/-- the end -/
theorem lw_exit (hT_ : xTok) (hr : xRr r_) (hL : r_ 49 = .int (nI L_)) (hL31 : L_ < 2 ^ 31) (hi_ : L_ < i_ + 6) (hi2 : i_ < 2 ^ 31) : xS1 r_ d_ xlaw 18 (lwS i_) [] h_ [] (some (.int 1), h_, []) := by
  have T6 : xTr r_ d_ xlaw 24 (lwS i_) [.int (nI L_ - nI 6), .int (nI i_)] h_ 1682 (lwS i_) [] h_ := xTr_icm (z_ := true) (t_ := 1682) hT_ lw_e24 rfl (by rw [lw_cmp hL31 hi2]; exact decide_eq_true hi_)
  have T7 : xTr r_ d_ xlaw 1682 (lwS i_) [] h_ 1683 (lwS i_) [.int 1] h_ := by
    have t7 : xTr r_ d_ xlaw 1682 (lwS i_) [] h_ 1683 (lwS i_) [.int (Int32.ofInt 1)] h_ := xTr_ic hT_ lw_e82
    rw [lw_one1] at t7
    exact t7
  have S_ : xrun d_ xlaw 1683 (lwS i_) [.int 1] h_ (some (.int 1), h_, []) := xrun_ireturn lw_e83 (by decide +kernel)
  exact xS1_tr (xTr_tt (lw_top hT_ hL) (xTr_tt T6 T7)) (xS1_run hT_ hr S_)
/-- THE LAW, from its head on -/
theorem lw_loop {RR : xH → Prop} (hT_ : xTok) (hr : xRr r_) (hL : r_ 49 = .int (nI L_)) (hL31 : L_ < 1000) (hcs : ∀ (i_ k_ : Nat) (h_ : xH), i_ + 6 ≤ L_ → k_ < 44 → bInv bZ bIj h_ → bXm h_ → RR h_ → lwGg RR r_ i_ (lwTg.getD k_ 1676) h_) : ∀ (n_ i_ : Nat) (h_ : xH), L_ < i_ + 6 * (n_ + 1) → i_ < 2000 → bInv bZ bIj h_ → bXm h_ → RR h_ → ∃ h', bInv bZ bIj h' ∧ xS1 r_ 1000 xlaw 18 (lwS i_) [] h_ [] (some (.int 1), h', []) := by
  intro n_
  induction n_ with
  | zero => intro i_ h_ hi_ hi2 hh hX hR; exact ⟨h_, hh, lw_exit hT_ hr hL (by omega) (by omega) (by omega)⟩
  | succ n_ ih_ =>
    intro i_ h_ hi_ hi2 hh hX hR
    rcases Nat.lt_or_ge L_ (i_ + 6) with q_ | q_
    · exact ⟨h_, hh, lw_exit hT_ hr hL (by omega) q_ (by omega)⟩
    · obtain ⟨k_, hk, T1⟩ := lw_head (r_ := r_) (d_ := 1000) (i_ := i_) (L_ := L_) (h_ := h_) hT_ hL (by omega) q_
      have hg : lwGg RR r_ i_ (lwTg.getD k_ 1676) h_ := by
        rcases Nat.lt_or_ge k_ 44 with p_ | p_
        · exact hcs i_ k_ h_ q_ p_ hh hX hR
        · have e_ : lwTg.getD k_ 1676 = 1676 := by
            rw [List.getD_eq_getElem?_getD, List.getElem?_eq_none (show lwTg.length ≤ k_ from p_)]
            rfl
          rw [e_]
          exact ⟨h_, xTr_rf, hh, hX, hR⟩
      obtain ⟨h1, T2, H1_, X1, R1_⟩ := hg
      obtain ⟨h', H2_, S_⟩ := ih_ (i_ + 6) h1 (by omega) (by omega) H1_ X1 R1_
      exact ⟨h', H2_, xS1_tr (xTr_tt T1 (xTr_tt T2 (lw_inc hT_))) S_⟩
end
theorem xhz_inv {Z_ : List (Nat × Nat)} {I_ : Nat → Nat → Option bN} {h_ : xH} (H_ : bInv Z_ I_ h_) : xhz h_ = (Z_.map (fun q_ => q_.2)).sum := by
  have e_ : h_.map (fun c_ => c_.2.length) = Z_.map (fun q_ => q_.2) := by
    apply List.ext_getElem?
    intro j_
    rw [List.getElem?_map, List.getElem?_map]
    cases hz : Z_[j_]? with
    | none =>
      have k_ : h_[j_]? = none := by
        rw [List.getElem?_eq_none_iff, H_.1.1]
        exact List.getElem?_eq_none_iff.mp hz
      rw [k_]
      rfl
    | some q_ =>
      obtain ⟨c_, c1_, c2_, c3_, -⟩ := H_.1.2 j_ q_ hz
      rw [c1_]
      exact congrArg some c3_
  unfold xhz
  rw [e_]
theorem bZ_sum : Nat.ble (bZ.map (fun q_ => q_.2)).sum 20000 = true := by decide +kernel
