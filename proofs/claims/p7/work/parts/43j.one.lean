-- ===== one
/-- lays at a call within one, and its answer 1 -/
theorem one_lays {m_ pc c0_ : Nat} {p : Nat → Int} {G : bE} {n : Nat} {ov : bO} {vv : bV} {lo : xL} {st : List Jvm.Term} {h : xH} {g_ g2 : Nat} {w_ : Int32} {wi : Int} (hw : w_.toInt = wi) (hcal : pcal m_ pc 175 = true) (hret : pchk (prun [] m_ (pc + 3) 0 [] lJ0) pno (pans 1 []) = true) (R : bR bZ bIm p (G, n, [(0, wth)], [vv, wcn wi, wth], ov) lo st h) (H_ : bInv bZ bIm h) (hp : ppx h g_) (hlt : tv h 338 9 < tv h 338 7) (hg : ∀ y_ : Int32, bga p vv (.int y_) → thg [(w_.toInt, y_.toInt)] g_ = some g2) (hy : ∃ y_ : Int32, bga p vv (.int y_) ∧ ∀ t_, bga p vv t_ → t_ = .int y_) : ∃ (t_ : Int32) (h' : xH), (∀ D_, 5 ≤ D_ → xrun D_ m_ pc lo st h (some (.int t_), h', [])) ∧ bInv bZ bIm h' ∧ bfr pW h h' ∧ t_.toInt = 1 ∧ ppx h' g2 ∧ tv h' 338 7 = tv h 338 7 ∧ tv h' 338 8 = tv h 338 8 ∧ tv h' 338 9 = tv h 338 9 + 1 := by
  obtain ⟨y_, y1, y2⟩ := hy
  obtain ⟨h1, l1, l2, l3, l4, l5, l6, l7⟩ := lays_px (w_ := w_) (v_ := y_) (g2 := g2) H_ hp hlt (hg y_ y1)
  have ldl := pcallL hcal R (fun t_ gt => wcn_eq (x_ := w_) hw gt) y2 l1
  have RE := lok_R (p := fun _ => 0) (sa := []) (st := []) l2 (lok_of R rfl) trivial rfl rfl
  rcases pchk_ok hret rfl RE with ⟨q_, -, -, -, -, f_, -⟩ | ⟨r_, p1_, t1_, h2, f_, -, B_, fr_, rn⟩
  · cases f_
  · obtain ⟨i1_, ⟨z_, z1, z2⟩, -⟩ := pans_ok f_ B_
    subst z1
    obtain ⟨hp2, tv2⟩ := ppx_0 fr_ l4
    exact ⟨z_, h2, fun D_ hD => ldl D_ hD _ (rn D_ (by omega)), i1_, bfr_tt l3 (pW_0 fr_), z2, hp2, by rw [tv2, l5], by rw [tv2, l6], by rw [tv2, l7]⟩
/-- an int on top is one -/
theorem top_int {p : Nat → Int} {G : bE} {n v_ : Nat} {la : bL} {s_ : List bV} {ov : bO} {lo : xL} {st : List Jvm.Term} {h : xH} (R : bR bZ bIm p (G, n, la, some (.inl (bvr v_)) :: s_, ov) lo st h) : ∃ y_ : Int32, bga p (some (.inl (bvr v_))) (.int y_) ∧ ∀ t_, bga p (some (.inl (bvr v_))) t_ → t_ = .int y_ := by
  obtain ⟨t0_, s0_, rfl⟩ := bR_top R
  obtain ⟨-, -, y_, rfl, y2⟩ := bR_pop R
  refine ⟨y_, ⟨y_, rfl, y2⟩, fun t_ gt => ?_⟩
  obtain ⟨z_, rfl, z2⟩ := gt
  rw [Int32.toInt_inj.mp (z2.trans y2.symm)]
set_option maxHeartbeats 4000000 in
theorem one_ok {d_ : Nat} {o : Int} (hd_ : 4 ≤ d_) (hop : o < 5 → pT 182 d_ (o + 1) ∧ pT 176 d_ (o + 1)) : pT 182 (d_ + 1) o := by
  intro h g_ H_ ho hp
  obtain ⟨⟨q26, q97, q137⟩, ⟨q109, q149⟩, q116, q156, m181, m182, m176⟩ := oV_1
  obtain ⟨⟨s112z, s112⟩, s119z, s119⟩ := oV_3
  obtain ⟨⟨s140, s29, s100⟩, ⟨s152z, s152⟩, s159z, s159⟩ := oV_4
  obtain ⟨c7_, x7, -, -, e7_, l7, u7⟩ := bint_at H_.1 bZ_338 (j_ := 7) (by show 7 < 26; omega) pI7
  obtain ⟨c6_, x6, -, -, e6_, l6, u6⟩ := bint_at H_.1 bZ_339 (j_ := 6) (by show 6 < 768; omega) pIt
  have ha_ : tv h 338 7 = (((tv h 338 7).toNat : Nat) : Int) := by omega
  have R0_ := lok_R (p := fun _ => 0) (sa := []) (st := []) (lo := [(0, .index 338)]) H_ ⟨rfl, rfl⟩ trivial rfl rfl
  have R1 := bR_know R0_ H_ bZ_338 (j_ := 7) (by show 7 < 26; omega) pI7 ha_
  by_cases hlt : tv h 338 7 < tv h 339 6
  · -- a_ byte is there
    have ha60 : (tv h 338 7).toNat < 60 := by omega
    have R2 := bR_see (l := (((tv h 338 7).toNat : Nat) : Int) + 1) (u := 60) R1 H_ bZ_339 (j_ := 6) (by show 6 < 768; omega) pIt (by omega) (by omega)
    obtain ⟨ct, xt, -, -, et, lt_, ut⟩ := bint_at H_.1 bZ_339 (j_ := 684 + (tv h 338 7).toNat) (by show 684 + (tv h 338 7).toNat < 768; omega) (pItape ha60)
    have R3 := bR_see (l := -2147483648) (u_ := 2147483647) R2 H_ bZ_339 (j_ := 684 + (tv h 338 7).toNat) (by show 684 + (tv h 338 7).toNat < 768; omega) (pItape ha60) (by omega) (by omega)
    rcases pchk_ok (oSc_ok ha60) rfl R3 with ⟨q_, p1_, lo1, st1_, h1, f_, ag, R4, fr_, ld⟩ | ⟨r_, p1_, t1_, h1, f_, -, B_, fr_, rn⟩
    · unfold oF at f_
      simp only [Bool.or_eq_true] at f_
      rcases f_ with f_ | (f_ | f_ | f_ | f_) | f_ | f_
      · -- a_ name
        obtain ⟨e1_, H1_, R5⟩ := pis_ok f_ R4
        rw [e1_] at ld
        have a1_ := bR_tv R5 bZ_338 (j_ := 7) (by show 7 < 26; omega) rfl
        simp only [bfv, bcn, bsm] at a1_
        obtain ⟨hp1, e9_, e8⟩ := ppx_7 fr_ hp (by omega)
        obtain ⟨t_, h2, w1_, w2_, w3_, w4_, w5, w6_, w7_, w8⟩ := one_lays (w_ := 1) (g2 := g_ + 1) rfl q26 s29 R5 H1_ hp1 (by have := hp.1; omega) (fun y_ gy => by
          obtain ⟨z_, z1, z2⟩ := gy
          cases z1
          have b_ := R5.1 2 98 116 rfl
          have z3 : y_.toInt = bsu p1_ 2 (bgm 2 q_.2 (oT26 (tv h 338 7).toNat)) 2 := by
            rw [z2]
            simp only [bfv, bvr, bsm]
            omega
          have k1_ : decide (98 ≤ y_.toInt) = true := decide_eq_true (by omega)
          have k2_ : decide (y_.toInt ≤ 116) = true := decide_eq_true (by omega)
          simp only [thg, show ((1 : Int32).toInt = 0) = False from by decide, show ((1 : Int32).toInt = 1) = True from by decide, decide_true, decide_false, k1_, k2_, Bool.and_self]) (top_int R5)
        exact ⟨t_, h2, fun D_ hD => ld D_ (by omega) _ (w1_ D_ (by omega)), w2_, bfr_tt (pW_7 fr_) w3_, Or.inr ⟨w4_, by omega, w5, by omega, by omega⟩⟩
      all_goals sorry
    · obtain ⟨i1_, ⟨z_, z1, z2⟩, -⟩ := pans_ok f_ B_
      subst z1
      exact ⟨z_, h1, fun D_ hD => rn D_ (by omega), i1_, pW_7 fr_, Or.inl z2⟩
  · -- none
    have R2 := bR_see (l := 0) (u_ := (((tv h 338 7).toNat : Nat) : Int)) R1 H_ bZ_339 (j_ := 6) (by show 6 < 768; omega) pIt (by omega) (by omega)
    have hE := List.all_eq_true.mp oEc_a (tv h 338 7).toNat (List.mem_range.mpr (by omega))
    rcases pchk_ok hE rfl R2 with ⟨q_, -, -, -, -, f_, -⟩ | ⟨r_, p1_, t1_, h1, f_, -, B_, fr_, rn⟩
    · cases f_
    · obtain ⟨i1_, ⟨z_, z1, z2⟩, -⟩ := pans_ok f_ B_
      subst z1
      exact ⟨z_, h1, fun D_ hD => rn D_ (by omega), i1_, pW_7 fr_, Or.inl z2⟩
