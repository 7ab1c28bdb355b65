-- ===== text keeps the texts such that they can be worked out
theorem xkrun_ok {W : bW} {nb : Nat} {J_ : bT} {f_ : bQ → Bool} {g_ : bRet → Bool} (hc_ : pchk (xkrun W nb J_) f_ g_ = true) (hn : Nat.ble nb J_.2.1 = true) {p : Nat → Int} {lo : xL} {st : List Jvm.Term} {h : xH} (R : bR bZ bIm p J_ lo st h) :
    (∃ q_ p' lo' st' h', f_ q_ = true ∧ (∀ v_, v_ < nb → p' v_ = p v_) ∧ bR bZ bIm p' q_.2 lo' st' h' ∧ bfr W h h' ∧ bldD 4 184 104 lo st h q_.1 lo' st' h') ∨ (∃ r0 p' t_ h', g_ r0 = true ∧ (∀ v_, v_ < nb → p' v_ = p v_) ∧ bRt bZ bIm p' r0 t_ h' ∧ bfr W h h' ∧ ∀ D_, 4 ≤ D_ → xrun D_ 184 104 lo st h (t_, h', [])) := by
  unfold pchk at hc_
  cases hr : xkrun W nb J_ with
  | none => rw [hr] at hc_; cases hc_
  | some r_ =>
  rw [hr] at hc_
  simp only [Bool.and_eq_true] at hc_
  rcases babs_ok (X_ := bTr) bZ_len bzf_ok bTr_ok (fun _ q_ => absurd q_ List.not_mem_nil) (fun _ q_ => absurd q_ List.not_mem_nil) 3000 true 4 184 104 [104] nb [J_] r_ hr _ List.mem_cons_self (Nat.le_of_ble_eq_true hn) p lo st h R trivial with ⟨q_, hq, p', lo', st', h', a1_, a2, a3, a5, a4⟩ | ⟨r0, hr0, p', t_, h', a1_, a2, a3, a5, a4⟩
  · exact Or.inl ⟨q_, p', lo', st', h', List.all_eq_true.mp hc_.1 q_ hq, a1_, a3, a5, a4⟩
  · exact Or.inr ⟨r0, p', t_, h', List.all_eq_true.mp hc_.2 r0 hr0, a1_, a3, a5, a4⟩
theorem xkc1_ok {u_ k_ : Nat} (hu : u_ < 2) (hk : k_ < 120) : xkc1 u_ k_ = true := by
  rcases u_ with _ | _ | u_
  · exact List.all_eq_true.mp xkc1_0 k_ (List.mem_range.mpr hk)
  · exact List.all_eq_true.mp xkc1_1 k_ (List.mem_range.mpr hk)
  · omega
theorem xkc2_ok {u_ s_ : Nat} (hu : u_ < 2) (hs : s_ < 61) : xkc2 u_ s_ = true := by
  have k_ := List.all_eq_true.mp xkc2_all s_ (List.mem_range.mpr hs)
  simp only [Bool.and_eq_true] at k_
  rcases u_ with _ | _ | u_
  · exact k_.1
  · exact k_.2
  · omega
theorem xtc_ok {u_ : Nat} (hu : u_ < 2) : xtc u_ = true := by
  have k_ := xtc_all
  simp only [Bool.and_eq_true] at k_
  rcases u_ with _ | _ | u_
  · exact k_.1
  · exact k_.2
  · omega
theorem bR_inv {p : Nat → Int} {G : bE} {n : Nat} {la : bL} {sa : List bV} {lo : xL} {st : List Jvm.Term} {h0 : xH} (R : bR bZ bIm p (G, n, la, sa, []) lo st h0) : bInv bZ bIm h0 := bInv_R R
theorem xcopy {u_ s_ : Nat} (hu : u_ < 2) (hs : s_ ≤ 60) : ∀ (j_ k_ : Nat) (p : Nat → Int) (lo : xL) (h : xH), k_ + j_ = 2 * s_ → bR bZ bIm p (xHk u_ k_) lo [] h → tv h 338 9 = (s_ : Int) → ∃ t_ h', (∀ D_, 4 ≤ D_ → xrun D_ 184 104 lo [] h (t_, h', [])) ∧ bInv bZ bIm h' ∧ bav (some wany) t_ ∧ bfr [(339, 339, 434 + 125 * u_ + 1, 434 + 125 * u_ + 120)] h h' ∧ (∀ i_, i_ < 2 * s_ → tv h' 339 (434 + 125 * u_ + 1 + i_) = if i_ < k_ then tv h 339 (434 + 125 * u_ + 1 + i_) else tv h 345 i_) := by
  intro j_
  induction j_ with
  | zero =>
    intro k_ p lo h hk R h9
    have ek : k_ = 2 * s_ := by omega
    subst ek
    have R1 := bR_know R (bInv_R R) bZ_338 (j_ := 9) (by show 9 < 26; omega) pI9 h9
    rcases xkrun_ok (xkc2_ok hu (show s_ < 61 by omega)) rfl R1 with ⟨q_, -, -, -, -, f_, -⟩ | ⟨r_, p1_, t_, h1, f_, -, B_, fr_, rn⟩
    · cases f_
    · obtain ⟨i1_, i2_, -⟩ := bans_ok bzf_ok f_ B_
      refine ⟨t_, h1, rn, i1_, i2_, fun a_ j_ hj => fr_ a_ j_ rfl, fun i_ hi_ => ?_⟩
      rw [if_pos (by omega)]
      exact pbiw fr_ rfl
  | succ j_ ih_ =>
    intro k_ p lo h hk R h9
    have H_ := bInv_R R
    have hk1 : k_ < 120 := by omega
    have R1 := bR_see (u_ := 60) (l := ((k_ / 2 : Nat) : Int) + 1) R H_ bZ_338 (j_ := 9) (by show 9 < 26; omega) pI9 (by rw [h9]; omega) (by rw [h9]; omega)
    obtain ⟨cs, xs, -, -, es, ls, us⟩ := bint_at H_.1 bZ_345 (j_ := k_) (by show k_ < 124; omega) (pIs (by omega))
    have R2 := bR_see (l := -2147483648) (u_ := 2147483647) R1 H_ bZ_345 (j_ := k_) (by show k_ < 124; omega) (pIs (by omega)) (by omega) (by omega)
    rcases xkrun_ok (xkc1_ok hu hk1) rfl R2 with ⟨q_, p1_, lo1, st1_, h1, f_, ag, R3, fr_, ld⟩ | ⟨r_, -, -, -, f_, -⟩
    · obtain ⟨e1_, H1_, R4⟩ := pis_ok f_ R3
      rw [e1_] at ld
      have est := pstk R4
      subst est
      have tvk := bR_tv (f_ := bvr 1) R4 bZ_339 (j_ := 434 + 125 * u_ + 1 + k_) (by show 434 + 125 * u_ + 1 + k_ < 768; omega) (by
        show (match Nat.beq 339 339 && Nat.beq (434 + 125 * u_ + 1 + k_) (434 + 125 * u_ + 1 + k_) with
          | true => some (some (Sum.inl (bvr 1)))
          | false => blo [] 339 (434 + 125 * u_ + 1 + k_)) = _
        rw [show Nat.beq (434 + 125 * u_ + 1 + k_) (434 + 125 * u_ + 1 + k_) = true from Nat.beq_refl _]
        rfl)
      simp only [bfv, bvr, bsm] at tvk
      rw [bsu_lt 1 (by omega), ag 1 (by omega), bup_self] at tvk
      have R5 : bR bZ bIm (bsu p1_ 2 (bgm 2 q_.2 (xJn u_ k_))) (xHk u_ (k_ + 1)) lo1 [] h1 := by
        obtain ⟨r1_, r2, r3, r4, r5_, r6, r7, r8, r9, rx_⟩ := R4
        exact bR_mk H1_ r6 trivial rfl rfl rx_
      have h9' : tv h1 338 9 = (s_ : Int) := by rw [← h9]; exact pbiw fr_ rfl
      obtain ⟨t_, h2, w1_, w2_, w3_, w4_, w5⟩ := ih_ (k_ + 1) _ lo1 h1 (by omega) R5 h9'
      refine ⟨t_, h2, fun D_ hD => ld D_ hD _ (w1_ D_ hD), w2_, w3_, fun a_ j_ hj => (w4_ a_ j_ hj).trans (fr_ a_ j_ ?_), fun i_ hi_ => ?_⟩
      · refine bws_ok (V := [(339, 339, 434 + 125 * u_ + 1 + k_, 434 + 125 * u_ + 1 + k_)]) (W := [(339, 339, 434 + 125 * u_ + 1, 434 + 125 * u_ + 120)]) ?_ hj
        unfold bws
        simp only [List.all_cons, List.all_nil, List.any_cons, List.any_nil, Bool.and_true, Bool.or_false, Bool.and_eq_true]
        exact ⟨⟨rfl, rfl⟩, Nat.ble_eq_true_of_le (by omega), Nat.ble_eq_true_of_le (by omega)⟩
      · rw [w5 i_ hi_]
        by_cases hik : i_ < k_
        · rw [if_pos (show i_ < k_ + 1 by omega), if_pos hik]
          refine pbiw fr_ ?_
          simp only [List.all_cons, List.all_nil, Bool.and_true, Bool.or_eq_true]
          exact Or.inr (Or.inr (Nat.ble_eq_true_of_le (by omega)))
        · by_cases hie : i_ = k_
          · subst hie
            rw [if_pos (show i_ < i_ + 1 by omega), if_neg hik, tvk]
            omega
          · rw [if_neg (show ¬ i_ < k_ + 1 by omega), if_neg hik]
            exact pbiw fr_ rfl
    · cases f_
