-- ===== IMAGE and RESTORE keep the texts such that they can be worked out
theorem crun_ok {W : bW} {nb : Nat} {J_ : bT} {f_ : bQ → Bool} {g_ : bRet → Bool} (hc_ : pchk (crun W nb J_) f_ g_ = true) (hn : Nat.ble nb J_.2.1 = true) {p : Nat → Int} {lo : xL} {st : List Jvm.Term} {h : xH} (R : bR bZ bIm p J_ lo st h) :
    (∃ q_ p' lo' st' h', f_ q_ = true ∧ (∀ v_, v_ < nb → p' v_ = p v_) ∧ bR bZ bIm p' q_.2 lo' st' h' ∧ bfr W h h' ∧ bldD 4 138 2 lo st h q_.1 lo' st' h') ∨ (∃ r0 p' t_ h', g_ r0 = true ∧ (∀ v_, v_ < nb → p' v_ = p v_) ∧ bRt bZ bIm p' r0 t_ h' ∧ bfr W h h' ∧ ∀ D_, 4 ≤ D_ → xrun D_ 138 2 lo st h (t_, h', [])) := by
  unfold pchk at hc_
  cases hr : crun W nb J_ with
  | none => rw [hr] at hc_; cases hc_
  | some r_ =>
  rw [hr] at hc_
  simp only [Bool.and_eq_true] at hc_
  rcases babs_ok (X_ := bTr) bZ_len bzf_ok bTr_ok (fun _ q_ => absurd q_ List.not_mem_nil) (fun _ q_ => absurd q_ List.not_mem_nil) 1000 true 4 138 2 [2] nb [J_] r_ hr _ List.mem_cons_self (Nat.le_of_ble_eq_true hn) p lo st h R trivial with ⟨q_, hq, p', lo', st', h', a1_, a2, a3, a5, a4⟩ | ⟨r0, hr0, p', t_, h', a1_, a2, a3, a5, a4⟩
  · exact Or.inl ⟨q_, p', lo', st', h', List.all_eq_true.mp hc_.1 q_ hq, a1_, a3, a5, a4⟩
  · exact Or.inr ⟨r0, p', t_, h', List.all_eq_true.mp hc_.2 r0 hr0, a1_, a3, a5, a4⟩
theorem cloop {a_ b_ : Nat} (ha_ : bZ[a_]? = some (20, 768)) (hb_ : bZ[b_]? = some (20, 768)) (hab : a_ ≠ b_) (hk1 : ∀ k_, k_ < 768 → ckc a_ b_ k_ = true) (hk2 : cke a_ b_ = true) : ∀ (j_ k_ : Nat) (p : Nat → Int) (lo : xL) (h : xH), k_ + j_ = 768 → bR bZ bIm p (cH a_ b_ k_) lo [] h → ∃ h', (∀ D_, 4 ≤ D_ → xrun D_ 138 2 lo [] h (none, h', [])) ∧ bInv bZ bIm h' ∧ bfr [(b_, b_, 0, 767)] h h' ∧ (∀ i_, i_ < 768 → tv h' b_ i_ = if i_ < k_ then tv h b_ i_ else tv h a_ i_) := by
  intro j_
  induction j_ with
  | zero =>
    intro k_ p lo h hk R
    have ek : k_ = 768 := by omega
    subst ek
    unfold cke at hk2
    rcases crun_ok hk2 rfl R with ⟨q_, -, -, -, -, f_, -⟩ | ⟨r_, p1_, t_, h1, f_, -, B_, fr_, rn⟩
    · cases f_
    · simp only [Bool.and_eq_true] at f_
      obtain ⟨g1, g2, g3_, g4, g5_, g6⟩ := B_
      have et : t_ = none := by
        have f1_ := f_.1
        cases hr : r_.1 with
        | none => rw [hr] at g6; exact g6
        | some v_ => rw [hr] at f1_; cases f1_
      subst et
      refine ⟨h1, rn, ⟨bHr_dropn g1 f_.2 g4, g5_⟩, fun a_ j_ hj => fr_ a_ j_ rfl, fun i_ hi_ => ?_⟩
      rw [if_pos (by omega)]
      exact pbiw fr_ rfl
  | succ j_ ih_ =>
    intro k_ p lo h hk R
    have H_ := bInv_R R
    have hk7 : k_ < 768 := by omega
    have w_ := hk1 k_ hk7
    unfold ckc at w_
    simp only [Bool.and_eq_true] at w_
    obtain ⟨w1_, w2_⟩ := w_
    cases hI : bIm a_ k_ with
    | none => rw [hI] at w2_; cases w2_
    | some e =>
    cases e with
    | inr m_ => rw [hI] at w2_; cases w2_
    | inl c_ =>
    obtain ⟨cs, xs, -, -, es, ls, us⟩ := bint_at H_.1 ha_ hk7 (show bIm a_ k_ = some (.inl (c_.1, c_.2)) from hI)
    have R1 := bR_see R H_ ha_ hk7 (show bIm a_ k_ = some (.inl (c_.1, c_.2)) from hI) (show c_.1 ≤ tv h a_ k_ by omega) (show tv h a_ k_ ≤ c_.2 by omega)
    have eJ : cJ a_ b_ k_ = ([(0, c_.1, c_.2)], 1, [(0, some (.inr [.index a_])), (1, some (.inr [.index b_])), (2, wcn (k_ : Int))], [], [((a_, k_), some (.inl (bvr 0)))]) := by
      unfold cJ
      rw [hI]
    have R2 : bR bZ bIm (bup p 0 (tv h a_ k_)) (cJ a_ b_ k_) lo [] h := by rw [eJ]; exact R1
    rcases crun_ok w1_ rfl R2 with ⟨q_, p1_, lo1, st1_, h1, f_, ag, R3, fr_, ld⟩ | ⟨r_, -, -, -, f_, -⟩
    · obtain ⟨e1_, H1_, R4⟩ := pis_ok f_ R3
      rw [e1_] at ld
      have est := pstk R4
      subst est
      have tvk := bR_tv (f_ := bvr 0) R4 hb_ hk7 (by
        show (match Nat.beq b_ b_ && Nat.beq k_ k_ with
          | true => some (some (Sum.inl (bvr 0)))
          | false => blo [] b_ k_) = _
        rw [show Nat.beq k_ k_ = true from Nat.beq_refl _, show Nat.beq b_ b_ = true from Nat.beq_refl _]
        rfl)
      simp only [bfv, bvr, bsm] at tvk
      rw [bsu_lt 0 (by omega), ag 0 (by omega), bup_self] at tvk
      have R5 : bR bZ bIm (bsu p1_ 1 (bgm 1 q_.2 (cN a_ b_ k_))) (cH a_ b_ (k_ + 1)) lo1 [] h1 := by
        obtain ⟨r1_, r2, r3, r4, r5_, r6, r7, r8, r9, rx_⟩ := R4
        exact bR_mk H1_ r6 trivial rfl rfl rx_
      obtain ⟨h2, v1_, v2, v3, v4_⟩ := ih_ (k_ + 1) _ lo1 h1 (by omega) R5
      have out_ : ∀ a' j', (a' ≠ b_ ∨ j' ≠ k_) → tv h1 a' j' = tv h a' j' := by
        intro a' j' hne
        refine pbiw fr_ ?_
        simp only [List.all_cons, List.all_nil, Bool.and_true, Bool.or_eq_true]
        rcases hne with q1_ | q1_
        · rcases Nat.lt_or_gt_of_ne q1_ with q2_ | q2_
          · exact Or.inl (Or.inr (Nat.ble_eq_true_of_le (by omega)))
          · exact Or.inl (Or.inl (Nat.ble_eq_true_of_le (by omega)))
        · rcases Nat.lt_or_gt_of_ne q1_ with q2_ | q2_
          · exact Or.inr (Or.inr (Nat.ble_eq_true_of_le (by omega)))
          · exact Or.inr (Or.inl (Nat.ble_eq_true_of_le (by omega)))
      refine ⟨h2, fun D_ hD => ld D_ hD _ (v1_ D_ hD), v2, fun a' j' hj => (v3 a' j' hj).trans (fr_ a' j' ?_), fun i_ hi_ => ?_⟩
      · refine bws_ok (V := [(b_, b_, k_, k_)]) (W := [(b_, b_, 0, 767)]) ?_ hj
        unfold bws
        simp only [List.all_cons, List.all_nil, List.any_cons, List.any_nil, Bool.and_true, Bool.or_false, Bool.and_eq_true]
        exact ⟨⟨Nat.ble_eq_true_of_le (Nat.le_refl b_), Nat.ble_eq_true_of_le (Nat.le_refl b_)⟩, Nat.ble_eq_true_of_le (by omega), Nat.ble_eq_true_of_le (by omega)⟩
      · rw [v4_ i_ hi_]
        by_cases hik : i_ < k_
        · rw [if_pos (show i_ < k_ + 1 by omega), if_pos hik]
          exact out_ b_ i_ (Or.inr (by omega))
        · by_cases hie : i_ = k_
          · subst hie
            rw [if_pos (show i_ < i_ + 1 by omega), if_neg hik, tvk]
            omega
          · rw [if_neg (show ¬ i_ < k_ + 1 by omega), if_neg hik]
            exact out_ a_ i_ (Or.inl hab)
    · cases f_
