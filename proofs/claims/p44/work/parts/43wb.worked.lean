-- ===== worked is safe, where the texts can be worked out
theorem wkc_all {u_ k_ kd : Nat} (hu : u_ < 2) (hk : k_ < 60) (hkd : kd < 4) : wkc u_ k_ kd = true := by
  have hm_ := List.mem_range.mpr hk
  rcases u_ with _ | _ | u_
  · rcases kd with _ | _ | _ | _ | kd
    · exact List.all_eq_true.mp wkc00 k_ hm_
    · rcases Nat.lt_or_ge k_ 30 with q_ | q_
      · exact List.all_eq_true.mp wkc01a k_ (List.mem_range.mpr q_)
      · have h1 := List.all_eq_true.mp wkc01b (k_ - 30) (List.mem_range.mpr (by omega))
        rw [show 30 + (k_ - 30) = k_ by omega] at h1
        exact h1
    · exact List.all_eq_true.mp wkc02 k_ hm_
    · exact List.all_eq_true.mp wkc03 k_ hm_
    · omega
  · rcases kd with _ | _ | _ | _ | kd
    · exact List.all_eq_true.mp wkc10 k_ hm_
    · rcases Nat.lt_or_ge k_ 30 with q_ | q_
      · exact List.all_eq_true.mp wkc11a k_ (List.mem_range.mpr q_)
      · have h1 := List.all_eq_true.mp wkc11b (k_ - 30) (List.mem_range.mpr (by omega))
        rw [show 30 + (k_ - 30) = k_ by omega] at h1
        exact h1
    · exact List.all_eq_true.mp wkc12 k_ hm_
    · exact List.all_eq_true.mp wkc13 k_ hm_
    · omega
  · omega
theorem wke_ok {u_ k_ : Nat} (hu : u_ < 2) (hk : k_ < 61) : wke u_ k_ = true := by
  have h := List.all_eq_true.mp wke_all k_ (List.mem_range.mpr hk)
  simp only [Bool.and_eq_true] at h
  rcases u_ with _ | _ | u_
  · exact h.1
  · exact h.2
  · omega
theorem wki_all : ((wki 0 60 339 434 && wki 0 60 339 559) && (List.range 120).all (fun j_ => wki (-2147483648) 2147483647 339 (435 + j_) && wki (-2147483648) 2147483647 339 (560 + j_))) = true := by decide +kernel
theorem wki_0 {u_ : Nat} (hu : u_ < 2) : bIm 339 (434 + 125 * u_) = some (.inl (0, 60)) := by
  have h := wki_all
  simp only [Bool.and_eq_true] at h
  rcases u_ with _ | _ | u_
  · exact wki_ok h.1.1
  · exact wki_ok h.1.2
  · omega
theorem wki_j {u_ j_ : Nat} (hu : u_ < 2) (hj : j_ < 120) : bIm 339 (434 + 125 * u_ + 1 + j_) = some (.inl (-2147483648, 2147483647)) := by
  have h := wki_all
  simp only [Bool.and_eq_true] at h
  have h2 := List.all_eq_true.mp h.2 j_ (List.mem_range.mpr hj)
  simp only [Bool.and_eq_true] at h2
  rcases u_ with _ | _ | u_
  · exact wki_ok h2.1
  · exact wki_ok h2.2
  · omega
section
variable {p : Nat → Int} {lo : xL} {st : List Jvm.Term} {h : xH} {u_ k_ g_ kd : Nat} {vn vm_ : bV}
theorem wkL_ch (H_ : bLr p (wkL u_ vn k_) lo) (h3 : ∀ t_, bga p vn t_ → bga p vm_ t_) : bLr p (wkL u_ vm_ k_) lo := by
  intro i_ v_ hv
  by_cases hi_ : i_ = 3
  · subst hi_
    have e1_ : v_ = vm_ := by
      have : some vm_ = some v_ := hv
      exact (Option.some.inj this).symm
    subst e1_
    obtain ⟨t_, t1_, t2_⟩ := H_ 3 vn rfl
    exact ⟨t_, t1_, h3 t_ t2_⟩
  · have e3_ : Nat.beq 3 i_ = false := by
      cases e : Nat.beq 3 i_ with
      | false => rfl
      | true => exact absurd (Nat.eq_of_beq_eq_true e).symm hi_
    refine H_ i_ v_ ?_
    simp only [wkL, blL, e3_] at hv ⊢
    exact hv
theorem wk_bok (R : bR bZ bIm p (wkB u_ k_ g_) lo st h) : bHr bZ bIm (fun _ => 0) [] h := bHr_ag (n := 0) (fun v_ hv => absurd hv (Nat.not_lt_zero v_)) rfl R.2.2.2.2.2.2.2.1
/-- g as an unknown -/
theorem wk_new (R : bR bZ bIm p (wkB u_ k_ g_) lo st h) {l w_ : Int} (h1 : l ≤ (g_ : Int)) (h2 : (g_ : Int) ≤ w_) : bR bZ bIm (bup p 0 (g_ : Int)) ([(0, l, w_)], 1, wkL u_ (some (.inl (bvr 0))) k_, [], []) lo st h := by
  have R1 := bR_new R (x := (g_ : Int)) h1 h2
  obtain ⟨r1_, r2, r3, r4, r5_, r6, r7, r8, r9, rx_⟩ := R1
  refine ⟨r1_, r2, rfl, r4, r5_, wkL_ch r6 (fun t_ ht => ?_), r7, r8, r9, rx_⟩
  obtain ⟨x_, x1_, x2_⟩ := ht
  refine ⟨x_, x1_, ?_⟩
  rw [bvr_v, x2_]
  simp only [bfv, bcn, bsm]
  omega
theorem wk_old {d_ : Int} {g2 : Nat} (R : bR bZ bIm p (wkH u_ k_ d_) lo st h) (hg : d_ + p 0 = (g2 : Int)) : bR bZ bIm p (wkB u_ k_ g2) lo st h := by
  obtain ⟨r1_, r2, r3, r4, r5_, r6, r7, r8, r9, rx_⟩ := R
  refine ⟨r1_, rfl, rfl, rfl, rfl, wkL_ch r6 (fun t_ ht => ?_), r7, r8, r9, rx_⟩
  obtain ⟨x_, x1_, x2_⟩ := ht
  refine ⟨x_, x1_, ?_⟩
  rw [x2_]
  simp only [bfv, bcn, bsm]
  omega
theorem bSr_nil (R : bR bZ bIm p (wkB u_ k_ g_) lo st h) : st = [] := by
  have r7 : bSr p [] st := R.2.2.2.2.2.2.1
  cases st with
  | nil => rfl
  | cons a_ t_ => exact absurd r7 id
theorem wct : ∀ c_ ∈ [bkmJoin], bcon bZ bIm bTr c_ := fun c_ hc_ => by
  rw [List.mem_singleton.mp hc_]
  exact bcmJoin
theorem wk_step (hu : u_ < 2) (hk : k_ < 60) (hkd : kd < 4) (R : bR bZ bIm p (wkB u_ k_ g_) lo [] h) (hm1 : (k_ : Int) + 1 ≤ tv h 339 (434 + 125 * u_)) (hm2 : tv h 339 (434 + 125 * u_) ≤ 60) (ha_ : tv h 339 (434 + 125 * u_ + 1 + 2 * k_) = (kd : Int)) (hb1 : (wvl kd).1 ≤ tv h 339 (434 + 125 * u_ + 1 + 2 * k_ + 1)) (hb2 : tv h 339 (434 + 125 * u_ + 1 + 2 * k_ + 1) ≤ (wvl kd).2) (hg1 : wlo kd ≤ (g_ : Int)) (hg2 : (g_ : Int) ≤ whi kd) {g2 : Nat} (hg : (g_ : Int) + wdl kd = (g2 : Int)) :
    ∃ p' lo' h', bR bZ bIm p' (wkB u_ (k_ + 1) g2) lo' [] h' ∧ bfr [(347, 347, 0, 63)] h h' ∧ bldD 1 187 14 lo [] h 14 lo' [] h' := by
  have H_ := wk_bok R
  obtain ⟨c0_, x0_, c1_, c2_, c3_, -, -⟩ := bint_at H_ bZ_339 (j_ := 434 + 125 * u_) (by show 434 + 125 * u_ < 768; omega) (wki_0 hu)
  obtain ⟨c', x1_, d1_, d2_, d3_, -, -⟩ := bint_at H_ bZ_339 (j_ := 434 + 125 * u_ + 1 + 2 * k_) (by show 434 + 125 * u_ + 1 + 2 * k_ < 768; omega) (wki_j hu (by omega))
  obtain ⟨c'', x2_, e1_, e2_, e3_, -, -⟩ := bint_at H_ bZ_339 (j_ := 434 + 125 * u_ + 1 + 2 * k_ + 1) (by show 434 + 125 * u_ + 1 + 2 * k_ + 1 < 768; omega) (wki_j (j_ := 2 * k_ + 1) hu (by omega))
  have R1 := wk_new R hg1 hg2
  have R2 := bR_new R1 (x := x0_.toInt) (l := (k_ : Int) + 1) (u := 60) (by rw [← c3_]; exact hm1) (by rw [← c3_]; exact hm2)
  have R3 := bR_note R2 c1_ c2_ (v := some (.inl (bvr 1))) rfl ⟨x0_, rfl, bvr_v.symm⟩
  have R4 := bR_note R3 d1_ d2_ (v := wcn (kd : Int)) rfl ⟨x1_, rfl, by rw [← d3_, ha_]; simp only [bfv, bcn, bsm]; omega⟩
  have R5 := bR_new R4 (x := x2_.toInt) (l := (wvl kd).1) (u := (wvl kd).2) (by rw [← e3_]; exact hb1) (by rw [← e3_]; exact hb2)
  have R6 := bR_note R5 e1_ e2_ (v := some (.inl (bvr 2))) rfl ⟨x2_, rfl, bvr_v.symm⟩
  have hc_ := wkc_all hu hk hkd
  unfold wkc at hc_
  cases hr : wrun true 14 3 (wkJ u_ k_ kd) with
  | none => rw [hr] at hc_; cases hc_
  | some r_ =>
  rw [hr] at hc_
  simp only [Bool.and_eq_true] at hc_
  obtain ⟨hc1, hc2⟩ := hc_
  rcases babs_ok (X_ := bTr) bZ_len bzf_ok bTr_ok wct (fun _ q_ => absurd q_ List.not_mem_nil) 2000 true 1 187 14 [14] 3 [wkJ u_ k_ kd] r_ hr _ List.mem_cons_self (Nat.le_refl 3) _ lo [] h R6 trivial with ⟨q_, hq, p', lo', st', h', a1_, a2, a3, a5, a4⟩ | ⟨r0, hr0, -⟩
  · have hq2 := List.all_eq_true.mp hc2 q_ hq
    simp only [Bool.and_eq_true] at hq2
    have R7 := bmS_ok a3 hq2.2
    have e14_ := Nat.eq_of_beq_eq_true hq2.1
    rw [e14_] at a4
    have v0_ : bsu p' 1 [] 0 = (g_ : Int) := by
      rw [bsu_lt 0 (by omega), a1_ 0 (by omega), bup_ne (by omega), bup_ne (by omega), bup_self]
    have R8 := wk_old (g2 := g2) R7 (by rw [v0_]; omega)
    have e0_ := bSr_nil R8
    subst e0_
    exact ⟨_, lo', h', R8, a5, a4⟩
  · cases hr2 : r_.2 with
    | nil => rw [hr2] at hr0; cases hr0
    | cons y1 y2 => rw [hr2] at hc1; cases hc1
theorem wk_out (hu : u_ < 2) (hk : k_ < 61) (hg : g_ ≤ 60) (R : bR bZ bIm p (wkB u_ k_ g_) lo [] h) (hm_ : tv h 339 (434 + 125 * u_) = (k_ : Int)) : ∃ t_ h', (∀ D_, 1 ≤ D_ → xrun D_ 187 14 lo [] h (t_, h', [])) ∧ bInv bZ bIm h' ∧ bfr [(347, 347, 0, 63)] h h' ∧ bav (some wany) t_ := by
  have H_ := wk_bok R
  obtain ⟨c0_, x0_, c1_, c2_, c3_, -, -⟩ := bint_at H_ bZ_339 (j_ := 434 + 125 * u_) (by show 434 + 125 * u_ < 768; omega) (wki_0 hu)
  have R1 := wk_new (l := 0) (w_ := 60) R (by omega) (by omega)
  have R3 := bR_note R1 c1_ c2_ (v := wcn (k_ : Int)) rfl ⟨x0_, rfl, by rw [← c3_, hm_]; simp only [bfv, bcn, bsm]; omega⟩
  have hc_ := wke_ok hu hk
  unfold wke at hc_
  cases hr : wrun true 14 1 (wkX u_ k_) with
  | none => rw [hr] at hc_; cases hc_
  | some r_ =>
  rw [hr] at hc_
  simp only [Bool.and_eq_true] at hc_
  obtain ⟨hc1, hc2⟩ := hc_
  rcases babs_ok (X_ := bTr) bZ_len bzf_ok bTr_ok wct (fun _ q_ => absurd q_ List.not_mem_nil) 2000 true 1 187 14 [14] 1 [wkX u_ k_] r_ hr _ List.mem_cons_self (Nat.le_refl 1) _ lo [] h R3 trivial with ⟨q_, hq, -⟩ | ⟨r0, hr0, p', t_, h', a1_, a2, a3, a5, a4⟩
  · cases hr2 : r_.1 with
    | nil => rw [hr2] at hq; cases hq
    | cons y1 y2 => rw [hr2] at hc1; cases hc1
  · obtain ⟨k1_, k2_, -⟩ := bans_ok bzf_ok (List.all_eq_true.mp hc2 r0 hr0) a3
    exact ⟨t_, h', a4, k1_, a5, k2_⟩
theorem wk_tv {h h' : xH} (hf : bfr [(347, 347, 0, 63)] h h') (j_ : Nat) : tv h' 339 j_ = tv h 339 j_ := tv_eq (hf 339 j_ (by
  unfold biw
  simp only [List.any_cons, List.any_nil, Bool.or_false]
  rfl))
theorem wk_run (hu : u_ < 2) {gf : Nat} : ∀ (j_ k_ g_ : Nat) (p : Nat → Int) (lo : xL) (h : xH), bR bZ bIm p (wkB u_ k_ g_) lo [] h → tv h 339 (434 + 125 * u_) = ((k_ + j_ : Nat) : Int) → k_ + j_ ≤ 60 → g_ ≤ k_ → thg (tcode h 339 (434 + 125 * u_ + 1 + 2 * k_) j_) g_ = some gf → ∃ t_ h', (∀ D_, 1 ≤ D_ → xrun D_ 187 14 lo [] h (t_, h', [])) ∧ bInv bZ bIm h' ∧ bfr [(347, 347, 0, 63)] h h' ∧ bav (some wany) t_ := by
  intro j_
  induction j_ with
  | zero =>
    intro k_ g_ p lo h R hm_ hk hg _
    exact wk_out hu (by omega) (by omega) R (by rw [hm_]; rfl)
  | succ j_ ih_ =>
    intro k_ g_ p lo h R hm_ hk hg hh
    have fin_ : ∀ (kd g2 : Nat), kd < 4 → tv h 339 (434 + 125 * u_ + 1 + 2 * k_) = (kd : Int) → (wvl kd).1 ≤ tv h 339 (434 + 125 * u_ + 1 + 2 * k_ + 1) → tv h 339 (434 + 125 * u_ + 1 + 2 * k_ + 1) ≤ (wvl kd).2 → wlo kd ≤ (g_ : Int) → (g_ : Int) ≤ whi kd → (g_ : Int) + wdl kd = (g2 : Int) → g2 ≤ k_ + 1 → thg (tcode h 339 (434 + 125 * u_ + 1 + 2 * k_ + 2) j_) g2 = some gf → ∃ t_ h', (∀ D_, 1 ≤ D_ → xrun D_ 187 14 lo [] h (t_, h', [])) ∧ bInv bZ bIm h' ∧ bfr [(347, 347, 0, 63)] h h' ∧ bav (some wany) t_ := by
      intro kd g2 h1 h2 h3 h4 h5 h6 h7 h8 h9
      obtain ⟨p1_, lo1, h1', R1, f1_, l1⟩ := wk_step hu (by omega) h1 R (by rw [hm_]; omega) (by rw [hm_]; omega) h2 h3 h4 h5 h6 h7
      obtain ⟨t_, h2', x1_, x2_, x3, x4_⟩ := ih_ (k_ + 1) g2 p1_ lo1 h1' R1 (by rw [wk_tv f1_, hm_]; congr 1; omega) (by omega) h8 (by
        rw [tcode_eq (h := h) (a_ := 339) (b_ := 434 + 125 * u_ + 1 + 2 * k_ + 2) (fun i_ hi_ => by rw [wk_tv f1_, show 434 + 125 * u_ + 1 + 2 * (k_ + 1) + i_ = 434 + 125 * u_ + 1 + 2 * k_ + 2 + i_ by omega])]
        exact h9)
      exact ⟨t_, h2', fun D_ hD => l1 D_ hD _ (x1_ D_ hD), x2_, bfr_tt f1_ x3, x4_⟩
    have any1 : ∀ j_, -2147483648 ≤ tv h 339 j_ ∧ tv h 339 j_ ≤ 2147483647 := by
      intro j_
      unfold tv
      split
      · rename_i x_ hx
        exact ⟨bi_lo x_, bi_hi x_⟩
      · constructor <;> decide
    simp only [tcode, thg] at hh
    cases c0_ : decide (tv h 339 (434 + 125 * u_ + 1 + 2 * k_) = 0) with
    | true =>
      rw [c0_] at hh
      have c0_ := of_decide_eq_true c0_
      exact fin_ 0 (g_ + 1) (by omega) c0_ (any1 _).1 (any1 _).2 (by show (0 : Int) ≤ _; omega) (by show _ ≤ (59 : Int); omega) (by show (g_ : Int) + 1 = _; omega) (by omega) hh
    | false =>
    rw [c0_] at hh
    simp only at hh
    cases c1_ : decide (tv h 339 (434 + 125 * u_ + 1 + 2 * k_) = 1) with
    | true =>
      rw [c1_] at hh
      simp only at hh
      have c1_ := of_decide_eq_true c1_
      cases cv : (decide (98 ≤ tv h 339 (434 + 125 * u_ + 1 + 2 * k_ + 1)) && decide (tv h 339 (434 + 125 * u_ + 1 + 2 * k_ + 1) ≤ 116)) with
      | false => rw [cv] at hh; cases hh
      | true =>
      rw [cv] at hh
      simp only [Bool.and_eq_true, decide_eq_true_eq] at cv
      exact fin_ 1 (g_ + 1) (by omega) c1_ cv.1 cv.2 (by show (0 : Int) ≤ _; omega) (by show _ ≤ (59 : Int); omega) (by show (g_ : Int) + 1 = _; omega) (by omega) hh
    | false =>
    rw [c1_] at hh
    simp only at hh
    cases c2_ : decide (tv h 339 (434 + 125 * u_ + 1 + 2 * k_) = 2) with
    | true =>
      rw [c2_] at hh
      simp only at hh
      have c2_ := of_decide_eq_true c2_
      rcases g_ with _ | g_
      · cases hh
      · exact fin_ 2 (g_ + 1) (by omega) c2_ (any1 _).1 (any1 _).2 (by show (1 : Int) ≤ _; omega) (by show _ ≤ (60 : Int); omega) (by show ((g_ + 1 : Nat) : Int) + 0 = _; omega) (by omega) hh
    | false =>
    rw [c2_] at hh
    simp only at hh
    cases c3_ : decide (tv h 339 (434 + 125 * u_ + 1 + 2 * k_) = 3) with
    | false => rw [c3_] at hh; cases hh
    | true =>
      rw [c3_] at hh
      simp only at hh
      have c3_ := of_decide_eq_true c3_
      rcases g_ with _ | _ | g_
      · cases hh
      · cases hh
      · exact fin_ 3 (g_ + 1) (by omega) c3_ (any1 _).1 (any1 _).2 (by show (2 : Int) ≤ _; omega) (by show _ ≤ (60 : Int); omega) (by show ((g_ + 2 : Nat) : Int) + -1 = _; omega) (by omega) hh
theorem wka_ok (hu : u_ < 2) : wka u_ = true := by
  have h := wka_all
  simp only [Bool.and_eq_true] at h
  rcases u_ with _ | _ | u_
  · exact h.1
  · exact h.2
  · omega
/-- WORKED IS SAFE, where the texts can be worked out -/
theorem bcmWorked : bcon bZ bIm bXm bkmWorked := by
  intro h ts H_ hx P_ Hp
  rcases ts with _ | ⟨t0_, _ | ⟨t1_, _ | ⟨t2_, ts⟩⟩⟩
  · exact absurd P_ id
  · exact absurd P_.2 id
  · obtain ⟨P0_, ⟨x_, rfl, x1_, x2_⟩, -⟩ := P_
    have P0_ : bnv (.inr [.index 338]) t0_ := P0_
    have e0_ := List.mem_singleton.mp P0_.1
    subst e0_
    have x1_ : 0 ≤ x_.toInt := x1_
    have x2_ : x_.toInt ≤ 1 := x2_
    obtain ⟨u_, hu, hxu⟩ : ∃ u_ : Nat, u_ < 2 ∧ x_.toInt = (u_ : Int) := ⟨x_.toInt.toNat, by omega, by omega⟩
    have R0_ : bR bZ bIm (fun _ => 0) (wkA u_) (xal 0 [.index 338, .int x_]) [] h := by
      refine ⟨fun v_ l w_ hb_ => (by cases hb_), rfl, rfl, rfl, rfl, ?_, trivial, H_.1, H_.2, rfl⟩
      intro i_ v_ hv
      rcases i_ with _ | _ | i_
      · have e : some wth = some v_ := hv
        cases e
        exact ⟨.index 338, rfl, List.mem_cons_self, rfl, rfl⟩
      · have e : some (wcn (u_ : Int)) = some v_ := hv
        cases e
        exact ⟨.int x_, rfl, x_, rfl, by rw [hxu]; simp only [bfv, bcn, bsm]; omega⟩
      · cases hv
    have hc_ := wka_ok hu
    unfold wka at hc_
    cases hr : wrun false 0 0 (wkA u_) with
    | none => rw [hr] at hc_; cases hc_
    | some r_ =>
    rw [hr] at hc_
    simp only [Bool.and_eq_true] at hc_
    obtain ⟨hc1, hc2⟩ := hc_
    rcases babs_ok (X_ := bTr) bZ_len bzf_ok bTr_ok wct (fun _ q_ => absurd q_ List.not_mem_nil) 2000 false 1 187 0 [14] 0 [wkA u_] r_ hr _ List.mem_cons_self (Nat.le_refl 0) _ _ [] h R0_ trivial with ⟨q_, hq, p', lo', st', h', a1_, a2, a3, a5, a4⟩ | ⟨r0, hr0, -⟩
    · have hq2 := List.all_eq_true.mp hc2 q_ hq
      simp only [Bool.and_eq_true] at hq2
      have R7 := bmS_ok a3 hq2.2
      have e14_ := Nat.eq_of_beq_eq_true hq2.1
      rw [e14_] at a4
      have e0_ := bSr_nil R7
      subst e0_
      have hX : ttx h 339 (434 + 125 * u_) := by
        rcases u_ with _ | _ | u_
        · exact hx.1.1
        · exact hx.1.2
        · omega
      obtain ⟨hm_, gf, hh⟩ := hX
      obtain ⟨c0_, x0_, -, -, c3_, c4_, -⟩ := bint_at H_.1 bZ_339 (j_ := 434 + 125 * u_) (by show 434 + 125 * u_ < 768; omega) (wki_0 hu)
      have hpos : tv h 339 (434 + 125 * u_) = (((tv h 339 (434 + 125 * u_)).toNat : Nat) : Int) := by omega
      obtain ⟨t_, h2, y1, y2, y3, y4⟩ := wk_run hu (tv h 339 (434 + 125 * u_)).toNat 0 0 _ lo' h' R7 (by rw [wk_tv a5]; omega) (by omega) (Nat.le_refl 0) (by
        rw [tcode_eq (h := h) (a_ := 339) (b_ := 434 + 125 * u_ + 1) (fun i_ hi_ => by rw [wk_tv a5])]
        exact hh)
      exact ⟨t_, h2, fun D_ hD => a4 D_ hD _ (y1 D_ hD), y2, bfr_tt a5 y3, y4, fun q_ hq => absurd hq List.not_mem_nil⟩
    · cases hr2 : r_.2 with
      | nil => rw [hr2] at hr0; cases hr0
      | cons y1 y2 => rw [hr2] at hc1; cases hc1
  · exact absurd P_.2.2 id
end
