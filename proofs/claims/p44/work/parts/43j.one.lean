-- ===== one
/-- lays at a call within one, and its answer 1 -/
theorem one_lays {m_ pc : Nat} {p : Nat → Int} {G : bE} {n : Nat} {ov : bO} {vv : bV} {lo : xL} {st : List Jvm.Term} {h : xH} {g_ g2 : Nat} {w_ : Int32} {wi : Int} (hw : w_.toInt = wi) (hcal : pcal m_ pc 175 = true) (hret : pchk (prun [] m_ (pc + 3) 0 [] lJ0) pno (pans 1 []) = true) (R : bR bZ bIm p (G, n, [(0, wth)], [vv, wcn wi, wth], ov) lo st h) (H_ : bInv bZ bIm h) (hp : ppx h g_) (hlt : tv h 338 9 < tv h 338 7) (hg : ∀ y_ : Int32, bga p vv (.int y_) → thg [(w_.toInt, y_.toInt)] g_ = some g2) (hy : ∃ y_ : Int32, bga p vv (.int y_) ∧ ∀ t_, bga p vv t_ → t_ = .int y_) : ∃ (t_ : Int32) (h' : xH), (∀ D_, 5 ≤ D_ → xrun D_ m_ pc lo st h (some (.int t_), h', [])) ∧ bInv bZ bIm h' ∧ bfr pW h h' ∧ t_.toInt = 1 ∧ ppx h' g2 ∧ tv h' 338 7 = tv h 338 7 ∧ tv h' 338 8 = tv h 338 8 ∧ tv h' 338 9 = tv h 338 9 + 1 := by
  obtain ⟨y_, y1, y2⟩ := hy
  obtain ⟨h1, l1, l2, l3, l4, l5, l6, l7⟩ := lays_px (w_ := w_) (v_ := y_) (g2 := g2) H_ hp hlt (hg y_ y1)
  have ldl := pcallL hcal R (fun t_ gt => wcn_eq (x_ := w_) hw gt) y2 l1
  have RE := lok_R (p := fun _ => 0) (sa := []) (st := []) l2 (lok_of R rfl) trivial rfl rfl
  rcases pchk_ok hret rfl RE with ⟨q_, -, -, -, -, f_, -⟩ | ⟨r_, p1_, t1_, h2, f_, -, B_, fr_, rn⟩
  · cases f_
  · obtain ⟨i1_, ⟨z_, z1, z2⟩, -⟩ := pans_ok f_ B_
    subst z1
    obtain ⟨hp2, tv2⟩ := ppx_0 fr_ l4
    exact ⟨z_, h2, fun D_ hD => ldl D_ hD _ (rn D_ (by omega)), i1_, bfr_tt l3 (pW_0 fr_), z2, hp2, by rw [tv2, l5], by rw [tv2, l6], by rw [tv2, l7]⟩
/-- an int on top is one -/
theorem top_int {p : Nat → Int} {G : bE} {n v_ : Nat} {la : bL} {s_ : List bV} {ov : bO} {lo : xL} {st : List Jvm.Term} {h : xH} (R : bR bZ bIm p (G, n, la, some (.inl (bvr v_)) :: s_, ov) lo st h) : ∃ y_ : Int32, bga p (some (.inl (bvr v_))) (.int y_) ∧ ∀ t_, bga p (some (.inl (bvr v_))) t_ → t_ = .int y_ := by
  obtain ⟨t0_, s0_, rfl⟩ := bR_top R
  obtain ⟨-, -, y_, rfl, y2⟩ := bR_pop R
  refine ⟨y_, ⟨y_, rfl, y2⟩, fun t_ gt => ?_⟩
  obtain ⟨z_, rfl, z2⟩ := gt
  rw [Int32.toInt_inj.mp (z2.trans y2.symm)]
set_option maxHeartbeats 4000000 in
theorem one_ok {d_ : Nat} {o : Int} (hd_ : 4 ≤ d_) (hop : o < 5 → pT 182 d_ (o + 1) ∧ pT 176 d_ (o + 1)) : pT 182 (d_ + 1) o := by
  intro h g_ H_ ho hp
  obtain ⟨⟨q26, q97, q137⟩, ⟨q109, q149⟩, q116, q156, m181, m182, m176⟩ := oV_1
  obtain ⟨⟨s112z, s112⟩, s119z, s119⟩ := oV_3
  obtain ⟨⟨s140, s29, s100⟩, ⟨s152z, s152⟩, s159z, s159⟩ := oV_4
  obtain ⟨c7_, x7, -, -, e7_, l7, u7⟩ := bint_at H_.1 bZ_338 (j_ := 7) (by show 7 < 26; omega) pI7
  obtain ⟨c6_, x6, -, -, e6_, l6, u6⟩ := bint_at H_.1 bZ_339 (j_ := 6) (by show 6 < 768; omega) pIt
  have ha_ : tv h 338 7 = (((tv h 338 7).toNat : Nat) : Int) := by omega
  have R0_ := lok_R (p := fun _ => 0) (sa := []) (st := []) (lo := [(0, .index 338)]) H_ ⟨rfl, rfl⟩ trivial rfl rfl
  have R1 := bR_know R0_ H_ bZ_338 (j_ := 7) (by show 7 < 26; omega) pI7 ha_
  by_cases hlt : tv h 338 7 < tv h 339 6
  · -- a_ byte is there
    have ha60 : (tv h 338 7).toNat < 60 := by omega
    have R2 := bR_see (u_ := 60) (l := (((tv h 338 7).toNat : Nat) : Int) + 1) R1 H_ bZ_339 (j_ := 6) (by show 6 < 768; omega) pIt (by omega) (by omega)
    obtain ⟨ct, xt, -, -, et, lt_, ut⟩ := bint_at H_.1 bZ_339 (j_ := 684 + (tv h 338 7).toNat) (by show 684 + (tv h 338 7).toNat < 768; omega) (pItape ha60)
    have R3 := bR_see (l := -2147483648) (u_ := 2147483647) R2 H_ bZ_339 (j_ := 684 + (tv h 338 7).toNat) (by show 684 + (tv h 338 7).toNat < 768; omega) (pItape ha60) (by omega) (by omega)
    rcases pchk_ok (oSc_ok ha60) rfl R3 with ⟨q_, p1_, lo1, st1_, h1, f_, ag, R4, fr_, ld⟩ | ⟨r_, p1_, t1_, h1, f_, -, B_, fr_, rn⟩
    · unfold oF at f_
      simp only [Bool.or_eq_true] at f_
      rcases f_ with f_ | (f_ | f_ | f_ | f_) | f_ | f_
      · -- a_ name
        obtain ⟨e1_, H1_, R5⟩ := pis_ok f_ R4
        rw [e1_] at ld
        have a1_ := bR_tv R5 bZ_338 (j_ := 7) (by show 7 < 26; omega) rfl
        simp only [bfv, bcn, bsm] at a1_
        obtain ⟨hp1, e9_, e8⟩ := ppx_7 fr_ hp (by omega)
        obtain ⟨t_, h2, w1_, w2_, w3_, w4_, w5, w6_, w7_, w8⟩ := one_lays (w_ := 1) (g2 := g_ + 1) rfl q26 s29 R5 H1_ hp1 (by have := hp.1; omega) (fun y_ gy => by
          obtain ⟨z_, z1, z2⟩ := gy
          cases z1
          have b_ := R5.1 2 98 116 rfl
          have z3 : y_.toInt = bsu p1_ 2 (bgm 2 q_.2 (oT26 (tv h 338 7).toNat)) 2 := by
            rw [z2]
            simp only [bfv, bvr, bsm]
            omega
          have k1_ : decide (98 ≤ y_.toInt) = true := decide_eq_true (by omega)
          have k2_ : decide (y_.toInt ≤ 116) = true := decide_eq_true (by omega)
          simp only [thg, show ((1 : Int32).toInt = 0) = False from by decide, show ((1 : Int32).toInt = 1) = True from by decide, decide_true, decide_false, k1_, k2_, Bool.and_self]) (top_int R5)
        exact ⟨t_, h2, fun D_ hD => ld D_ (by omega) _ (w1_ D_ (by omega)), w2_, bfr_tt (pW_7 fr_) w3_, Or.inr ⟨w4_, by omega, w5, by omega, by omega⟩⟩
      · -- a_ number
        obtain ⟨e1_, H1_, R5⟩ := pis_ok f_ R4
        rw [e1_] at ld
        have a1_ := bR_tv R5 bZ_338 (j_ := 7) (by show 7 < 26; omega) rfl
        simp only [bfv, bcn, bsm] at a1_
        obtain ⟨hp1, e9_, e8⟩ := ppx_7 fr_ hp (by omega)
        obtain ⟨t_, h2, w1_, w2_, w3_, w4_, w5, w6_, w7_, w8⟩ := one_lays (w_ := 0) (g2 := g_ + 1) rfl q97 s100 R5 H1_ hp1 (by have := hp.1; omega) (fun y_ gy => by simp only [thg, show ((0 : Int32).toInt = 0) = True from by decide, decide_true]) (top_int R5)
        exact ⟨t_, h2, fun D_ hD => ld D_ (by omega) _ (w1_ D_ (by omega)), w2_, bfr_tt (pW_7 fr_) w3_, Or.inr ⟨w4_, by omega, w5, by omega, by omega⟩⟩
      · -- a_ number
        obtain ⟨e1_, H1_, R5⟩ := pis_ok f_ R4
        rw [e1_] at ld
        have a1_ := bR_tv R5 bZ_338 (j_ := 7) (by show 7 < 26; omega) rfl
        simp only [bfv, bcn, bsm] at a1_
        obtain ⟨hp1, e9_, e8⟩ := ppx_7 fr_ hp (by omega)
        obtain ⟨t_, h2, w1_, w2_, w3_, w4_, w5, w6_, w7_, w8⟩ := one_lays (w_ := 0) (g2 := g_ + 1) rfl q97 s100 R5 H1_ hp1 (by have := hp.1; omega) (fun y_ gy => by simp only [thg, show ((0 : Int32).toInt = 0) = True from by decide, decide_true]) (top_int R5)
        exact ⟨t_, h2, fun D_ hD => ld D_ (by omega) _ (w1_ D_ (by omega)), w2_, bfr_tt (pW_7 fr_) w3_, Or.inr ⟨w4_, by omega, w5, by omega, by omega⟩⟩
      · -- a_ number
        obtain ⟨e1_, H1_, R5⟩ := pis_ok f_ R4
        rw [e1_] at ld
        have a1_ := bR_tv R5 bZ_338 (j_ := 7) (by show 7 < 26; omega) rfl
        simp only [bfv, bcn, bsm] at a1_
        obtain ⟨hp1, e9_, e8⟩ := ppx_7 fr_ hp (by omega)
        obtain ⟨t_, h2, w1_, w2_, w3_, w4_, w5, w6_, w7_, w8⟩ := one_lays (w_ := 0) (g2 := g_ + 1) rfl q97 s100 R5 H1_ hp1 (by have := hp.1; omega) (fun y_ gy => by simp only [thg, show ((0 : Int32).toInt = 0) = True from by decide, decide_true]) (top_int R5)
        exact ⟨t_, h2, fun D_ hD => ld D_ (by omega) _ (w1_ D_ (by omega)), w2_, bfr_tt (pW_7 fr_) w3_, Or.inr ⟨w4_, by omega, w5, by omega, by omega⟩⟩
      · -- a_ number
        obtain ⟨e1_, H1_, R5⟩ := pis_ok f_ R4
        rw [e1_] at ld
        have a1_ := bR_tv R5 bZ_338 (j_ := 7) (by show 7 < 26; omega) rfl
        simp only [bfv, bcn, bsm] at a1_
        obtain ⟨hp1, e9_, e8⟩ := ppx_7 fr_ hp (by omega)
        obtain ⟨t_, h2, w1_, w2_, w3_, w4_, w5, w6_, w7_, w8⟩ := one_lays (w_ := 0) (g2 := g_ + 1) rfl q97 s100 R5 H1_ hp1 (by have := hp.1; omega) (fun y_ gy => by simp only [thg, show ((0 : Int32).toInt = 0) = True from by decide, decide_true]) (top_int R5)
        exact ⟨t_, h2, fun D_ hD => ld D_ (by omega) _ (w1_ D_ (by omega)), w2_, bfr_tt (pW_7 fr_) w3_, Or.inr ⟨w4_, by omega, w5, by omega, by omega⟩⟩
      · -- a_ denial
        obtain ⟨e1_, H1_, R5⟩ := pis_ok f_ R4
        rw [e1_] at ld
        have a1_ := bR_tv R5 bZ_338 (j_ := 7) (by show 7 < 26; omega) rfl
        simp only [bfv, bcn, bsm] at a1_
        obtain ⟨hp1, e9_, e8⟩ := ppx_7 fr_ hp (by omega)
        obtain ⟨t2_, h2, x1_, x2_, x3, x4_⟩ := opens_ok (o := o) H1_ (by omega) hp1 (by omega)
        have ld2 : bldD 5 182 0 [(0, .index 338)] [] h 112 lo1 [.int t2_] h2 := fun D_ hD => bld_tt (ld D_ (by omega)) (pcallO q109 m181 R5 x1_ D_ hD)
        have RS := lok_R (p := fun _ => 0) (sa := [wcn t2_.toInt]) (st := [.int t2_]) x2_ (lok_of R5 rfl) ⟨wcn_at, trivial⟩ rfl rfl
        rcases x4_ with y0 | ⟨y1, o5_, y8, y7, yp, y9⟩
        · rw [y0] at RS
          rcases pchk_ok s112z rfl RS with ⟨q9_, -, -, -, -, f9_, -⟩ | ⟨r9, p9_, t9, h9, f9_, -, B9, fr9, rn9⟩
          · cases f9_
          · obtain ⟨i9_, ⟨z_, z1, z2⟩, -⟩ := pans_ok f9_ B9
            subst z1
            exact ⟨z_, h9, fun D_ hD => ld2 D_ (by omega) _ (rn9 D_ (by omega)), i9_, bfr_tt (bfr_tt (pW_7 fr_) x3) (pW_0 fr9), Or.inl z2⟩
        · rw [y1] at RS
          rcases pchk_ok s112 rfl RS with ⟨q3_, p3_, lo3, st3_, h3, f3_, -, R6, fr3, ld3⟩ | ⟨r9, -, -, -, f9_, -⟩
          · obtain ⟨e3_, H3, R7⟩ := pis_ok f3_ R6
            rw [e3_] at ld3
            obtain ⟨hp3, tv3⟩ := ppx_0 fr3 yp
            have t37 := tv3 338 7
            have t38 := tv3 338 8
            have t39 := tv3 338 9
            obtain ⟨t4_, h4, z1, z2, z3, z4⟩ := (hop o5_).1 h3 g_ H3 (by omega) hp3
            have ld4 : bldD (d_ + 1) 182 0 [(0, .index 338)] [] h 119 lo3 [.int t4_] h4 := fun D_ hD => bld_tt (ld2 D_ (by omega)) (bld_tt (ld3 D_ (by omega)) (pcallO q116 m182 R7 z1 D_ hD))
            have fr4 : bfr pW h h4 := bfr_tt (bfr_tt (bfr_tt (pW_7 fr_) x3) (pW_0 fr3)) z3
            have RT := lok_R (p := fun _ => 0) (sa := [wcn t4_.toInt]) (st := [.int t4_]) z2 (lok_of R7 rfl) ⟨wcn_at, trivial⟩ rfl rfl
            rcases z4 with v0_ | ⟨v1_, v8, vp, v7, vs⟩
            · rw [v0_] at RT
              rcases pchk_ok s119z rfl RT with ⟨q9_, -, -, -, -, f9_, -⟩ | ⟨r9, p9_, t9, h9, f9_, -, B9, fr9, rn9⟩
              · cases f9_
              · obtain ⟨i9_, ⟨z_, z1', z2'⟩, -⟩ := pans_ok f9_ B9
                subst z1'
                exact ⟨z_, h9, fun D_ hD => ld4 D_ hD _ (rn9 D_ (by omega)), i9_, bfr_tt fr4 (pW_0 fr9), Or.inl z2'⟩
            · rw [v1_] at RT
              obtain ⟨c8_, x8, -, -, e8', l8, u8⟩ := bint_at H_.1 bZ_338 (j_ := 8) (by show 8 < 26; omega) pI8
              have RU := bR_see (l := 1) (u_ := 5) RT z2 bZ_338 (j_ := 8) (by show 8 < 26; omega) pI8 (by omega) (by omega)
              rcases pchk_ok s119 rfl RU with ⟨q5_, p5_, lo5, st5_, h5, f5_, ag5, R8, fr5, ld5⟩ | ⟨r9, -, -, -, f9_, -⟩
              · obtain ⟨e5_, H5, R9⟩ := pis_ok f5_ R8
                rw [e5_] at ld5
                have b8 := bR_tv R9 bZ_338 (j_ := 8) (by show 8 < 26; omega) rfl
                simp only [bfv, bsm] at b8
                rw [bsu_lt 0 (by omega), ag5 0 (by omega), bup_self] at b8
                obtain ⟨hp5, g9, g7⟩ := ppx_8 fr5 vp
                have hq := hp.1
                obtain ⟨t_, h6, w1_, w2_, w3_, w4_, w5, w6_, w7_, w8⟩ := one_lays (w_ := 2) (g2 := g_ + 1) rfl q137 s140 R9 H5 hp5 (by omega) (fun y_ gy => rfl) ⟨0, ⟨0, rfl, rfl⟩, fun t_ gt => wcn_eq (x_ := 0) rfl gt⟩
                exact ⟨t_, h6, fun D_ hD => ld4 D_ hD _ (ld5 D_ (by omega) _ (w1_ D_ (by omega))), w2_, bfr_tt (bfr_tt fr4 (pW_8 fr5)) w3_, Or.inr ⟨w4_, by omega, w5, by omega, by omega⟩⟩
              · cases f9_
          · cases f9_
      · -- a_ text in brackets
        obtain ⟨e1_, H1_, R5⟩ := pis_ok f_ R4
        rw [e1_] at ld
        have a1_ := bR_tv R5 bZ_338 (j_ := 7) (by show 7 < 26; omega) rfl
        simp only [bfv, bcn, bsm] at a1_
        obtain ⟨hp1, e9_, e8⟩ := ppx_7 fr_ hp (by omega)
        obtain ⟨t2_, h2, x1_, x2_, x3, x4_⟩ := opens_ok (o := o) H1_ (by omega) hp1 (by omega)
        have ld2 : bldD 5 182 0 [(0, .index 338)] [] h 152 lo1 [.int t2_] h2 := fun D_ hD => bld_tt (ld D_ (by omega)) (pcallO q149 m181 R5 x1_ D_ hD)
        have RS := lok_R (p := fun _ => 0) (sa := [wcn t2_.toInt]) (st := [.int t2_]) x2_ (lok_of R5 rfl) ⟨wcn_at, trivial⟩ rfl rfl
        rcases x4_ with y0 | ⟨y1, o5_, y8, y7, yp, y9⟩
        · rw [y0] at RS
          rcases pchk_ok s152z rfl RS with ⟨q9_, -, -, -, -, f9_, -⟩ | ⟨r9, p9_, t9, h9, f9_, -, B9, fr9, rn9⟩
          · cases f9_
          · obtain ⟨i9_, ⟨z_, z1, z2⟩, -⟩ := pans_ok f9_ B9
            subst z1
            exact ⟨z_, h9, fun D_ hD => ld2 D_ (by omega) _ (rn9 D_ (by omega)), i9_, bfr_tt (bfr_tt (pW_7 fr_) x3) (pW_0 fr9), Or.inl z2⟩
        · rw [y1] at RS
          rcases pchk_ok s152 rfl RS with ⟨q3_, p3_, lo3, st3_, h3, f3_, -, R6, fr3, ld3⟩ | ⟨r9, -, -, -, f9_, -⟩
          · obtain ⟨e3_, H3, R7⟩ := pis_ok f3_ R6
            rw [e3_] at ld3
            obtain ⟨hp3, tv3⟩ := ppx_0 fr3 yp
            have t37 := tv3 338 7
            have t38 := tv3 338 8
            have t39 := tv3 338 9
            obtain ⟨t4_, h4, z1, z2, z3, z4⟩ := (hop o5_).2 h3 g_ H3 (by omega) hp3
            have ld4 : bldD (d_ + 1) 182 0 [(0, .index 338)] [] h 159 lo3 [.int t4_] h4 := fun D_ hD => bld_tt (ld2 D_ (by omega)) (bld_tt (ld3 D_ (by omega)) (pcallO q156 m176 R7 z1 D_ hD))
            have fr4 : bfr pW h h4 := bfr_tt (bfr_tt (bfr_tt (pW_7 fr_) x3) (pW_0 fr3)) z3
            have RT := lok_R (p := fun _ => 0) (sa := [wcn t4_.toInt]) (st := [.int t4_]) z2 (lok_of R7 rfl) ⟨wcn_at, trivial⟩ rfl rfl
            rcases z4 with v0_ | ⟨v1_, v8, vp, v7, vs⟩
            · rw [v0_] at RT
              rcases pchk_ok s159z rfl RT with ⟨q9_, -, -, -, -, f9_, -⟩ | ⟨r9, p9_, t9, h9, f9_, -, B9, fr9, rn9⟩
              · cases f9_
              · obtain ⟨i9_, ⟨z_, z1', z2'⟩, -⟩ := pans_ok f9_ B9
                subst z1'
                exact ⟨z_, h9, fun D_ hD => ld4 D_ hD _ (rn9 D_ (by omega)), i9_, bfr_tt fr4 (pW_0 fr9), Or.inl z2'⟩
            · rw [v1_] at RT
              obtain ⟨c8_, x8, -, -, e8', l8, u8⟩ := bint_at H_.1 bZ_338 (j_ := 8) (by show 8 < 26; omega) pI8
              obtain ⟨c7', x7', -, -, e7', l7', u7'⟩ := bint_at z2.1 bZ_338 (j_ := 7) (by show 7 < 26; omega) pI7
              have RU := bR_see (l := 0) (u_ := 60) RT z2 bZ_338 (j_ := 7) (by show 7 < 26; omega) pI7 (by omega) (by omega)
              have RV := bR_see (l := 1) (u_ := 5) RU z2 bZ_338 (j_ := 8) (by show 8 < 26; omega) pI8 (by omega) (by omega)
              rcases pchk_ok s159 rfl RV with ⟨q9_, -, -, -, -, f9_, -⟩ | ⟨r5_, p5_, t5_, h5, f5_, ag5, B5, fr5, rn5⟩
              · cases f9_
              · simp only [Bool.or_eq_true] at f5_
                rcases f5_ with f5_ | f5_
                · obtain ⟨i9_, ⟨z_, z1', z2'⟩, -⟩ := pans_ok f5_ B5
                  subst z1'
                  exact ⟨z_, h5, fun D_ hD => ld4 D_ hD _ (rn5 D_ (by omega)), i9_, bfr_tt fr4 (pW_78 fr5), Or.inl z2'⟩
                · obtain ⟨i9_, ⟨z_, z1', z2'⟩, vv⟩ := pans_ok f5_ B5
                  subst z1'
                  have w7_ := vv _ List.mem_cons_self _ bZ_338 (by show 7 < 26; omega)
                  have w8 := vv _ (List.mem_cons_of_mem _ List.mem_cons_self) _ bZ_338 (by show 8 < 26; omega)
                  simp only [bfv, bsm] at w7_ w8
                  rw [ag5 0 (by omega), bup_ne (by omega), bup_self] at w7_
                  rw [ag5 1 (by omega), bup_self] at w8
                  obtain ⟨hp5, g9⟩ := ppx_78 fr5 vp (by omega)
                  exact ⟨z_, h5, fun D_ hD => ld4 D_ hD _ (rn5 D_ (by omega)), i9_, bfr_tt fr4 (pW_78 fr5), Or.inr ⟨z2', by omega, hp5, by omega, by omega⟩⟩
          · cases f9_
    · obtain ⟨i1_, ⟨z_, z1, z2⟩, -⟩ := pans_ok f_ B_
      subst z1
      exact ⟨z_, h1, fun D_ hD => rn D_ (by omega), i1_, pW_7 fr_, Or.inl z2⟩
  · -- none
    have R2 := bR_see (l := 0) (u_ := (((tv h 338 7).toNat : Nat) : Int)) R1 H_ bZ_339 (j_ := 6) (by show 6 < 768; omega) pIt (by omega) (by omega)
    have hE := List.all_eq_true.mp oEc_a (tv h 338 7).toNat (List.mem_range.mpr (by omega))
    rcases pchk_ok hE rfl R2 with ⟨q_, -, -, -, -, f_, -⟩ | ⟨r_, p1_, t1_, h1, f_, -, B_, fr_, rn⟩
    · cases f_
    · obtain ⟨i1_, ⟨z_, z1, z2⟩, -⟩ := pans_ok f_ B_
      subst z1
      exact ⟨z_, h1, fun D_ hD => rn D_ (by omega), i1_, pW_7 fr_, Or.inl z2⟩
/-- THE PARSER IS RIGHT: at each of its levels, so many brackets open -/
theorem pT_all : ∀ (k_ : Nat) (o : Int), o + (k_ : Int) = 5 → ∃ d_, 4 ≤ d_ ∧ d_ ≤ 6 * k_ + 5 ∧ pT 182 d_ o ∧ pT 176 (d_ + 5) o := by
  intro k_
  induction k_ with
  | zero =>
    intro o hk
    have h1 := one_ok (d_ := 4) (o := o) (Nat.le_refl 4) (fun q_ => by omega)
    have h2 := lv_ok lv_product h1 (by omega)
    have h3 := lv_ok lv_sum h2 (by omega)
    have h4 := lv_ok lv_compared h3 (by omega)
    have h5 := lv_ok lv_both h4 (by omega)
    have h6 := lv_ok lv_whole h5 (by omega)
    exact ⟨5, by omega, by omega, h1, h6⟩
  | succ k_ ih_ =>
    intro o hk
    obtain ⟨d_, d1_, d4_, d2_, d3_⟩ := ih_ (o + 1) (by omega)
    have d2' : pT 182 (d_ + 5) (o + 1) := fun h g_ H_ ho hp => by
      obtain ⟨t_, h', x1_, x2_⟩ := d2_ h g_ H_ ho hp
      exact ⟨t_, h', fun D_ hD => x1_ D_ (by omega), x2_⟩
    have h1 := one_ok (d_ := d_ + 5) (o := o) (by omega) (fun _ => ⟨d2', d3_⟩)
    have h2 := lv_ok lv_product h1 (by omega)
    have h3 := lv_ok lv_sum h2 (by omega)
    have h4 := lv_ok lv_compared h3 (by omega)
    have h5 := lv_ok lv_both h4 (by omega)
    have h6 := lv_ok lv_whole h5 (by omega)
    exact ⟨d_ + 5 + 1, by omega, by omega, h1, h6⟩
