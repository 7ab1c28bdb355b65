-- ===== one level of the parser is right, where its operand is
def lok (lo : xL) : Prop := xlk lo 0 = some (.index 338) ∧ lo.all (fun q_ => xidx 354 q_.2) = true
section
variable {p : Nat → Int} {G : bE} {n : Nat} {la : bL} {sa : List bV} {ov : bO} {lo : xL} {st : List Jvm.Term} {h : xH}
theorem lok_of (R : bR bZ bIm p (G, n, la, sa, ov) lo st h) (hl : blL la 0 = some wth) : lok lo := by
  obtain ⟨t_, t1_, t2_⟩ := R.2.2.2.2.2.1 0 wth hl
  have e := List.mem_singleton.mp t2_.1
  subst e
  have hx := R.2.2.2.2.2.2.2.2.2
  unfold xok at hx
  simp only [Bool.and_eq_true] at hx
  exact ⟨t1_, hx.1⟩
theorem lok_R (H_ : bInv bZ bIm h) (L_ : lok lo) (hs : bSr p sa st) (h2 : bSl 0 sa = true) (hx : st.all (xidx 354) = true) : bR bZ bIm p ([], 0, [(0, wth)], sa, []) lo st h := bR_mk H_ (fun i_ v_ hv => by
  rcases i_ with _ | i_
  · have e : some wth = some v_ := hv
    cases e
    exact ⟨.index 338, L_.1, List.mem_cons_self, rfl, rfl⟩
  · cases hv) hs rfl h2 (by
  unfold xok
  simp only [Bool.and_eq_true]
  exact ⟨L_.2, hx⟩)
/-- an answer of an operand, on the stack -/
theorem lok_D {y_ x_ : Int32} {lc : Bool} (H_ : bInv bZ bIm h) (L_ : lok lo) (hc_ : lc = true → xlk lo 1 = some (.int y_)) : bR bZ bIm (bup p 0 y_.toInt) (lJD lc x_.toInt) lo [.int x_] h := by
  have R0_ := lok_R (p := p) (sa := [wcn x_.toInt]) (st := [.int x_]) H_ L_ ⟨wcn_at, trivial⟩ rfl rfl
  cases lc with
  | false =>
    obtain ⟨r1_, r2, r3, r4, r5_, r6, r7, r8, r9, rx_⟩ := R0_
    exact ⟨fun v_ l w_ hb_ => (by cases hb_), rfl, rfl, rfl, rfl, bLr_ag (n := 0) (fun v_ hv => absurd hv (Nat.not_lt_zero v_)) rfl r6, bSr_ag (n := 0) (fun v_ hv => absurd hv (Nat.not_lt_zero v_)) rfl r7, bHr_ag (n := 0) (fun v_ hv => absurd hv (Nat.not_lt_zero v_)) rfl r8, r9, rx_⟩
  | true =>
    obtain ⟨r1_, r2, r3, r4, r5_, r6, r7, r8, r9, rx_⟩ := bR_new (x := y_.toInt) R0_ (bi_lo y_) (bi_hi y_)
    refine ⟨r1_, r2, rfl, r4, r5_, ?_, r7, r8, r9, rx_⟩
    intro i_ v_ hv
    rcases i_ with _ | _ | i_
    · have e : some wth = some v_ := hv
      cases e
      exact ⟨.index 338, L_.1, List.mem_cons_self, rfl, rfl⟩
    · have e : some (some (.inl (bvr 0))) = some v_ := hv
      cases e
      exact ⟨.int y_, hc_ rfl, y_, rfl, bvr_v.symm⟩
    · cases hv
theorem wcn_eq {x_ : Int32} {k_ : Int} {t_ : Jvm.Term} (hk : x_.toInt = k_) (g_ : bga p (wcn k_) t_) : t_ = .int x_ := by
  obtain ⟨y_, rfl, y2⟩ := g_
  have : y_.toInt = x_.toInt := by
    rw [y2, hk]
    simp only [bfv, bcn, bsm]
    omega
  rw [Int32.toInt_inj.mp this]
end
theorem pstk {p : Nat → Int} {G : bE} {n : Nat} {la : bL} {ov : bO} {lo : xL} {st : List Jvm.Term} {h : xH} (R : bR bZ bIm p (G, n, la, [], ov) lo st h) : st = [] := by
  have r7 : bSr p [] st := R.2.2.2.2.2.2.1
  cases st with
  | nil => rfl
  | cons a_ t_ => exact absurd r7 id
theorem pW_7 {h h' : xH} (hf : bfr [(338, 338, 7, 7)] h h') : bfr pW h h' := fun a_ j_ hj => hf a_ j_ (bws_ok (V := [(338, 338, 7, 7)]) (W := pW) rfl hj)
theorem pW_0 {h h' : xH} (hf : bfr [] h h') : bfr pW h h' := fun a_ j_ hj => hf a_ j_ rfl
set_option maxHeartbeats 4000000 in
theorem lv_ok {m_ op_ c2_ c3_ d_ : Nat} {lc : Bool} {o : Int} (hv : lv m_ op_ c2_ c3_ lc = true) (hop : pT op_ d_ o) (hd_ : 4 ≤ d_) : pT m_ (d_ + 1) o := by
  intro h g_ H_ ho hp
  simp only [lv, Bool.and_eq_true] at hv
  obtain ⟨⟨⟨k1_, k2_, k3_⟩, k4_⟩, ⟨sa, sb1, sb0_⟩, sc_, ⟨sd1, sd0⟩, se⟩ := hv
  have loop_ : ∀ (k_ : Nat) (h2 : xH) (lo : xL), (60 - tv h2 338 7).toNat < k_ → bInv bZ bIm h2 → lok lo → tv h2 338 8 = o → ppx h2 (g_ + 1) → tv h 338 7 ≤ tv h2 338 7 → tv h 338 7 - tv h 338 9 ≤ tv h2 338 7 - tv h2 338 9 → ∃ (t_ : Int32) (h' : xH), (∀ D_, d_ + 1 ≤ D_ → xrun D_ m_ 9 lo [] h2 (some (.int t_), h', [])) ∧ bInv bZ bIm h' ∧ bfr pW h2 h' ∧ (t_.toInt = 0 ∨ (t_.toInt = 1 ∧ tv h' 338 8 = o ∧ ppx h' (g_ + 1) ∧ tv h 338 7 ≤ tv h' 338 7 ∧ tv h 338 7 - tv h 338 9 ≤ tv h' 338 7 - tv h' 338 9)) := by
    intro k_
    induction k_ with
    | zero => intro h2 lo hk; exact absurd hk (Nat.not_lt_zero _)
    | succ k_ ih_ =>
    intro h2 lo hk H2_ L2_ ho2 hp2 hat hsl
    obtain ⟨c7_, x7, -, -, e7_, l7, u7⟩ := bint_at H2_.1 bZ_338 (j_ := 7) (by show 7 < 26; omega) pI7
    have RC0 := bR_see (l := 0) (u_ := 60) (lok_R (p := fun _ => 0) (sa := []) (st := []) H2_ L2_ trivial rfl rfl) H2_ bZ_338 (j_ := 7) (by show 7 < 26; omega) pI7 (by omega) (by omega)
    have RC : bR bZ bIm (bup (fun _ => 0) 0 (tv h2 338 7)) lJC lo [] h2 := RC0
    rcases pchk_ok sc_ rfl RC with ⟨q_, p1_, lo1, st1_, h3, f1_, ag1, R1, fr1, ld1⟩ | ⟨r0, p1_, t1_, h3, f1_, ag1, B1, fr1, rn1⟩
    · -- a_ sign: its operand
      obtain ⟨e1_, H3, R2⟩ := pis_ok f1_ R1
      rw [e1_] at ld1
      have p0_ : bsu p1_ 1 (bgm 1 q_.2 (lC2 lc)) 0 = tv h2 338 7 := by rw [bsu_lt 0 (by omega), ag1 0 (by omega), bup_self]
      have hC : lok lo1 ∧ (∃ y_ : Int32, lc = true → xlk lo1 1 = some (.int y_)) ∧ tv h3 338 7 = bfv (bsu p1_ 1 (bgm 1 q_.2 (lC2 lc))) (1, [(0, 1)]) ∧ (∀ {y_ : Int32} {h1 : xH}, (∀ D_, d_ ≤ D_ → xrun D_ op_ 0 [(0, .index 338)] [] h3 (some (.int y_), h1, [])) → bldD (d_ + 1) m_ c2_ lo1 st1_ h3 (c2_ + 3) lo1 [.int y_] h1) := by
        cases lc with
        | false => exact ⟨lok_of R2 rfl, ⟨0, fun q_ => (by cases q_)⟩, bR_tv R2 bZ_338 (by show 7 < 26; omega) rfl, fun Hr => pcallO k2_ k4_ R2 Hr⟩
        | true =>
          obtain ⟨t_, t1_, x_, rfl, -⟩ := R2.2.2.2.2.2.1 1 _ rfl
          exact ⟨lok_of R2 rfl, ⟨x_, fun _ => t1_⟩, bR_tv R2 bZ_338 (by show 7 < 26; omega) rfl, fun Hr => pcallO k2_ k4_ R2 Hr⟩
      obtain ⟨L3_, ⟨yc, hyc⟩, at3_, hcall⟩ := hC
      simp only [bfv, bsm] at at3_
      rw [p0_] at at3_
      obtain ⟨hp3, e9_, e8⟩ := ppx_7 fr1 hp2 (by omega)
      obtain ⟨y_, h4, x1_, x2_, x3, x4_⟩ := hop h3 (g_ + 1) H3 (by rw [e8]; exact ho2) hp3
      have ldx : bldD (d_ + 1) m_ 9 lo [] h2 (c2_ + 3) lo1 [.int y_] h4 := fun D_ hD => bld_tt (ld1 D_ (by omega)) (hcall x1_ D_ hD)
      have RD := lok_D (p := fun _ => 0) (y_ := yc) (x_ := y_) (lc := lc) x2_ L3_ hyc
      rcases x4_ with y0 | ⟨y1, o4_, p4_, a4, s4_⟩
      · rw [y0] at RD
        rcases pchk_ok sd0 rfl RD with ⟨q9_, -, -, -, -, f9_, -⟩ | ⟨r9, p9_, t9, h9, f9_, -, B9, fr9, rn9⟩
        · cases f9_
        · obtain ⟨i9_, ⟨z_, z1, z2⟩, -⟩ := pans_ok f9_ B9
          subst z1
          exact ⟨z_, h9, fun D_ hD => ldx D_ hD _ (rn9 D_ (by omega)), i9_, bfr_tt (bfr_tt (pW_7 fr1) x3) (pW_0 fr9), Or.inl z2⟩
      · rw [y1] at RD
        rcases pchk_ok sd1 rfl RD with ⟨q9_, p9_, lo9, st9_, h9, f9_, -, R9, fr9, ld9⟩ | ⟨r9, -, -, -, f9_, -⟩
        · obtain ⟨e10_, H9, R10⟩ := pis_ok f9_ R9
          rw [e10_] at ld9
          have L9 : lok lo9 := lok_of R10 rfl
          obtain ⟨hp9, tv9⟩ := ppx_0 fr9 p4_
          obtain ⟨t0_, s0_, rfl⟩ := bR_top R10
          obtain ⟨-, -, yy, rfl, yy2⟩ := bR_pop R10
          have q2_ := hp2.1
          obtain ⟨h10, l1, l2, l3, l4, l5, l6, l7⟩ := lays_px (w_ := 3) (v_ := yy) (g2 := g_ + 1) H9 hp9 (by rw [tv9, tv9]; omega) rfl
          have ldl := pcallL k3_ R10 (fun t_ gt => wcn_eq (x_ := 3) rfl gt) (fun t_ gt => by
            obtain ⟨z_, rfl, z2⟩ := gt
            rw [Int32.toInt_inj.mp (z2.trans yy2.symm)]) l1
          have ldy : bldD (d_ + 1) m_ 9 lo [] h2 (c3_ + 3) lo9 [] h10 := fun D_ hD => bld_tt (ldx D_ hD) (bld_tt (ld9 D_ (by omega)) (ldl D_ (by omega)))
          have RE := lok_R (p := fun _ => 0) (sa := []) (st := []) l2 L9 trivial rfl rfl
          have fr10 : bfr pW h2 h10 := bfr_tt (bfr_tt (bfr_tt (pW_7 fr1) x3) (pW_0 fr9)) l3
          have t7 := tv9 338 7
          have t9 := tv9 338 9
          have t8 := tv9 338 8
          rcases pchk_ok se rfl RE with ⟨q11_, p11, lo11, st11, h11, f11_, -, R11, fr11, ld11⟩ | ⟨r11, p11, t11, h11, f11_, -, B11, fr11, rn11⟩
          · obtain ⟨e12_, H11, R12⟩ := pis_ok f11_ R11
            rw [e12_] at ld11
            have est := pstk R12
            subst est
            obtain ⟨hp11, tv11⟩ := ppx_0 fr11 l4
            have u7 := tv11 338 7
            have u9 := tv11 338 9
            have u8 := tv11 338 8
            obtain ⟨c7', x7', -, -, e7', l7', u7'⟩ := bint_at H11.1 bZ_338 (j_ := 7) (by show 7 < 26; omega) pI7
            obtain ⟨t_, h', w1_, w2_, w3_, w4_⟩ := ih_ h11 lo11 (by omega) H11 (lok_of R12 rfl) (by omega) hp11 (by omega) (by omega)
            exact ⟨t_, h', fun D_ hD => ldy D_ hD _ (ld11 D_ (by omega) _ (w1_ D_ hD)), w2_, bfr_tt (bfr_tt fr10 (pW_0 fr11)) w3_, w4_⟩
          · obtain ⟨i11_, ⟨z_, z1, z2⟩, -⟩ := pans_ok f11_ B11
            subst z1
            obtain ⟨hp11, tv11⟩ := ppx_0 fr11 l4
            have u7 := tv11 338 7
            have u9 := tv11 338 9
            have u8 := tv11 338 8
            exact ⟨z_, h11, fun D_ hD => ldy D_ hD _ (rn11 D_ (by omega)), i11_, bfr_tt fr10 (pW_0 fr11), Or.inr ⟨z2, by omega, hp11, by omega, by omega⟩⟩
        · cases f9_
    · -- no sign: done
      obtain ⟨i1_, ⟨y_, y1, y2⟩, v1_⟩ := pans_ok f1_ B1
      subst y1
      have at3_ := v1_ _ List.mem_cons_self _ bZ_338 (by show 7 < 26; omega)
      simp only [bfv, bvr, bsm] at at3_
      rw [ag1 0 (by omega), bup_self] at at3_
      obtain ⟨hp3, e9_, e8⟩ := ppx_7 fr1 hp2 (by omega)
      exact ⟨y_, h3, fun D_ hD => rn1 D_ (by omega), i1_, pW_7 fr1, Or.inr ⟨y2, by rw [e8]; exact ho2, hp3, by omega, by omega⟩⟩
  have R0_ := lok_R (p := fun _ => 0) (sa := []) (st := []) (lo := [(0, .index 338)]) H_ ⟨rfl, rfl⟩ trivial rfl rfl
  rcases pchk_ok sa rfl R0_ with ⟨q_, p1_, lo1, st1_, h1, f1_, -, R1, fr1, ld1⟩ | ⟨r0, -, -, -, f1_, -⟩
  · obtain ⟨e1_, H1_, R2⟩ := pis_ok f1_ R1
    rw [e1_] at ld1
    have L1 : lok lo1 := lok_of R2 rfl
    obtain ⟨hp1, tv1⟩ := ppx_0 fr1 hp
    obtain ⟨y_, h2, x1_, x2_, x3, x4_⟩ := hop h1 g_ H1_ (by rw [tv1]; exact ho) hp1
    have ldx : bldD (d_ + 1) m_ 0 [(0, .index 338)] [] h 4 lo1 [.int y_] h2 := fun D_ hD => bld_tt (ld1 D_ (by omega)) (pcallO k1_ k4_ R2 x1_ D_ hD)
    have RB := lok_R (p := fun _ => 0) (sa := [wcn y_.toInt]) (st := [.int y_]) x2_ L1 ⟨wcn_at, trivial⟩ rfl rfl
    have t7 := tv1 338 7
    have t9 := tv1 338 9
    rcases x4_ with y0 | ⟨y1, o4_, p4_, a4, s4_⟩
    · rw [y0] at RB
      rcases pchk_ok sb0_ rfl RB with ⟨q9_, -, -, -, -, f9_, -⟩ | ⟨r9, p9_, t9', h9, f9_, -, B9, fr9, rn9⟩
      · cases f9_
      · obtain ⟨i9_, ⟨z_, z1, z2⟩, -⟩ := pans_ok f9_ B9
        subst z1
        exact ⟨z_, h9, fun D_ hD => ldx D_ hD _ (rn9 D_ (by omega)), i9_, bfr_tt (bfr_tt (pW_0 fr1) x3) (pW_0 fr9), Or.inl z2⟩
    · rw [y1] at RB
      rcases pchk_ok sb1 rfl RB with ⟨q9_, p9_, lo9, st9_, h9, f9_, -, R9, fr9, ld9⟩ | ⟨r9, -, -, -, f9_, -⟩
      · obtain ⟨e10_, H9, R10⟩ := pis_ok f9_ R9
        rw [e10_] at ld9
        have est := pstk R10
        subst est
        obtain ⟨hp9, tv9⟩ := ppx_0 fr9 p4_
        have u7 := tv9 338 7
        have u9 := tv9 338 9
        have u8 := tv9 338 8
        obtain ⟨t_, h', w1_, w2_, w3_, w4_⟩ := loop_ _ h9 lo9 (Nat.lt_succ_self _) H9 (lok_of R10 rfl) (by omega) hp9 (by omega) (by omega)
        exact ⟨t_, h', fun D_ hD => ldx D_ hD _ (ld9 D_ (by omega) _ (w1_ D_ hD)), w2_, bfr_tt (bfr_tt (bfr_tt (pW_0 fr1) x3) (pW_0 fr9)) w3_, w4_⟩
      · cases f9_
  · cases f1_
