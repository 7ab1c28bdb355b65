-- ===== TEXT ends, and keeps the texts such that they can be worked out
def xWT : bW := [(338, 338, 7, 10), (339, 339, 6, 6), (339, 339, 434, 683), (341, 341, 1, 1), (345, 345, 0, 123)]
theorem bXm_upd {h h' : xH} {u_ : Nat} (hu : u_ < 2) (hX : bXm h) (ht : ttx h' 339 (434 + 125 * u_)) (ho : ∀ a_ j_, (a_ = 339 ∨ a_ = 340) → 434 ≤ j_ → j_ ≤ 683 → (a_ = 340 ∨ j_ < 434 + 125 * u_ ∨ 434 + 125 * u_ + 120 < j_) → tv h' a_ j_ = tv h a_ j_) : bXm h' := by
  refine ⟨⟨?_, ?_⟩, ⟨ttx_eq (fun j_ j1 j2_ => ho 340 j_ (Or.inr rfl) (by omega) (by omega) (Or.inl rfl)) hX.2.1, ttx_eq (fun j_ j1 j2_ => ho 340 j_ (Or.inr rfl) (by omega) (by omega) (Or.inl rfl)) hX.2.2⟩⟩
  · rcases u_ with _ | _ | u_
    · exact ht
    · exact ttx_eq (fun j_ j1 j2_ => ho 339 j_ (Or.inl rfl) (by omega) (by omega) (Or.inr (Or.inl (by omega)))) hX.1.1
    · exact absurd hu (Nat.not_lt.mpr (Nat.le_add_left 2 u_))
  · rcases u_ with _ | _ | u_
    · exact ttx_eq (fun j_ j1 j2_ => ho 339 j_ (Or.inl rfl) (by omega) (by omega) (Or.inr (Or.inr (by omega)))) hX.1.2
    · exact ht
    · exact absurd hu (Nat.not_lt.mpr (Nat.le_add_left 2 u_))
theorem bRt_tv {r_ : bRet} {p : Nat → Int} {t_ : Option Jvm.Term} {h : xH} (b_ : bRt bZ bIm p r_ t_ h) {a_ j_ : Nat} {z_ : Nat × Nat} {f0_ : bF} (hz : bZ[a_]? = some z_) (hj : j_ < z_.2) (h1 : (match blo r_.2.2.2.2.2 a_ j_ with
  | some (some (.inl f_)) => decide (f_ = f0_)
  | _ => false) = true) : tv h a_ j_ = bfv p f0_ := by
  obtain ⟨g1, g2, g3_, g4, g5_, g6⟩ := b_
  obtain ⟨c_, c1_, c2_, c3_, c4_⟩ := g4.2 _ z_ hz
  have hlt : j_ < c_.2.length := by omega
  have ht := List.getElem?_eq_getElem hlt
  have k_ := c4_ j_ _ ht
  cases hb_ : blo r_.2.2.2.2.2 a_ j_ with
  | none => rw [hb_] at h1; cases h1
  | some v_ =>
    rw [hb_] at h1 k_
    rcases v_ with _ | (f_ | m_)
    · cases h1
    · have h1 := of_decide_eq_true h1
      subst h1
      obtain ⟨w_, w1_, w2_⟩ := k_
      rw [w1_] at ht
      unfold tv
      rw [bpat_at c1_, ht]
      exact w2_
    · cases h1
theorem xWt_out {u_ : Nat} {h h' : xH} (hf : bfr (xWt u_) h h') {a_ j_ : Nat} (ha_ : a_ = 339 ∨ a_ = 340) (h1 : 434 ≤ j_) (hj : a_ = 340 ∨ j_ < 434 + 125 * u_ ∨ 434 + 125 * u_ < j_) : tv h' a_ j_ = tv h a_ j_ := by
  refine pbiw hf ?_
  unfold xWt
  simp only [List.all_cons, List.all_nil, Bool.and_true, Bool.or_eq_true, Bool.and_eq_true]
  rcases ha_ with rfl | rfl
  · refine ⟨Or.inr (Or.inl (Nat.ble_eq_true_of_le (by omega))), ?_⟩
    rcases hj with hj | hj | hj
    · cases hj
    · exact Or.inr (Or.inr (Nat.ble_eq_true_of_le (by omega)))
    · exact Or.inr (Or.inl (Nat.ble_eq_true_of_le (by omega)))
  · exact ⟨Or.inl (Or.inl rfl), Or.inl (Or.inl rfl)⟩
theorem xt_cal : pcal 184 36 176 = true ∧ pcm 176 0 = true := by
  have k_ : (pcal 184 36 176 && pcm 176 0) = true := by decide +kernel
  simp only [Bool.and_eq_true] at k_
  exact k_
theorem xt_lo {p : Nat → Int} {lo : xL} {x_ : Int32} {u_ : Nat} (hx : x_.toInt = (u_ : Int)) (h0 : xlk lo 0 = some (.index 338)) (h1 : xlk lo 1 = some (.int x_)) : bLr p [(0, wth), (1, wcn (u_ : Int))] lo := by
  intro i_ v_ hv
  rcases i_ with _ | _ | i_
  · have e : some wth = some v_ := hv
    cases e
    exact ⟨.index 338, h0, List.mem_cons_self, rfl, rfl⟩
  · have e : some (wcn (u_ : Int)) = some v_ := hv
    cases e
    rw [← hx]
    exact ⟨.int x_, h1, wcn_at⟩
  · cases hv
theorem xW_sub {V : bW} (hw : bws V xWT = true) {h h' : xH} (hf : bfr V h h') : bfr xWT h h' := fun a_ j_ hj => hf a_ j_ (bws_ok hw hj)
set_option maxHeartbeats 4000000 in
theorem text_ok : ∃ d_, d_ ≤ 900 ∧ ∀ (h : xH) (x_ : Int32), bInv bZ bIm h → bXm h → ∃ t_ h', (∀ D_, d_ ≤ D_ → xrun D_ 184 0 [(0, .index 338), (1, .int x_)] [] h (t_, h', [])) ∧ bInv bZ bIm h' ∧ bXm h' ∧ bfr xWT h h' ∧ bav (some wany) t_ := by
  obtain ⟨d0_, hd0, hd9, -, hT_⟩ := pT_all 5 0 rfl
  refine ⟨d0_ + 5 + 1, by omega, fun h x_ H_ hX => ?_⟩
  by_cases hx : 0 ≤ x_.toInt ∧ x_.toInt ≤ 1
  · obtain ⟨u_, hu, hxu⟩ : ∃ u_ : Nat, u_ < 2 ∧ x_.toInt = (u_ : Int) := ⟨x_.toInt.toNat, by omega, by omega⟩
    have k_ := xtc_ok hu
    simp only [xtc, Bool.and_eq_true] at k_
    obtain ⟨k1_, k2_, k3_⟩ := k_
    have R0_ : bR bZ bIm (fun _ => 0) (xtA u_) [(0, .index 338), (1, .int x_)] [] h := bR_mk H_ (xt_lo hxu rfl rfl) trivial rfl rfl rfl
    rcases pchk_ok k1_ rfl R0_ with ⟨q_, p1_, lo1, st1_, h1, f_, -, R1, fr1, ld1⟩ | ⟨r_, -, -, -, f_, -⟩
    · obtain ⟨e1_, H1_, R2⟩ := pis_ok f_ R1
      rw [e1_] at ld1
      have a7 := bR_tv R2 bZ_338 (j_ := 7) (by show 7 < 26; omega) rfl
      have a8 := bR_tv R2 bZ_338 (j_ := 8) (by show 8 < 26; omega) rfl
      have a9 := bR_tv R2 bZ_338 (j_ := 9) (by show 9 < 26; omega) rfl
      simp only [bfv, bcn, bsm] at a7 a8 a9
      have hp1 : ppx h1 0 := ⟨by omega, by rw [show (tv h1 338 9).toNat = 0 by omega]; rfl⟩
      obtain ⟨t2_, h2, x1_, x2_, x3, x4_⟩ := hT_ h1 0 H1_ (by omega) hp1
      have ld2 : bldD (d0_ + 5 + 1) 184 0 [(0, .index 338), (1, .int x_)] [] h 39 lo1 [.int t2_] h2 := fun D_ hD => bld_tt (ld1 D_ (by omega)) (pcallO xt_cal.1 xt_cal.2 R2 x1_ D_ hD)
      obtain ⟨tt, t1_, ts⟩ := R2.2.2.2.2.2.1 1 (wcn (u_ : Int)) rfl
      have L1 : lok lo1 := lok_of R2 rfl
      have hX2 : bXm h2 := bxw_ok (W := pW) (by decide) h1 h2 x3 (bxw_ok (W := [(338, 338, 7, 10)]) (by decide) h h1 fr1 hX)
      have fr2 : bfr xWT h h2 := bfr_tt (xW_sub (V := [(338, 338, 7, 10)]) rfl fr1) (xW_sub (V := pW) rfl x3)
      have hlo : bLr (fun _ => 0) [(0, wth), (1, wcn (u_ : Int))] lo1 := by
        have et := wcn_eq (x_ := x_) hxu ts
        subst et
        exact xt_lo hxu L1.1 t1_
      have RB : bR bZ bIm (fun _ => 0) ([], 0, [(0, wth), (1, wcn (u_ : Int))], [wcn t2_.toInt], []) lo1 [.int t2_] h2 := bR_mk x2_ hlo ⟨wcn_at, trivial⟩ rfl rfl (by
        unfold xok
        simp only [Bool.and_eq_true]
        exact ⟨L1.2, rfl⟩)
      rcases x4_ with y0 | ⟨y1, y8, yp, y7, ys⟩
      · rw [y0] at RB
        rcases pchk_ok k2_ rfl RB with ⟨q9_, -, -, -, -, f9_, -⟩ | ⟨r9, p9_, t9, h9, f9_, -, B9, fr9, rn9⟩
        · cases f9_
        · obtain ⟨i1_, i2_, -⟩ := bans_ok bzf_ok f9_ B9
          exact ⟨t9, h9, fun D_ hD => ld2 D_ hD _ (rn9 D_ (by omega)), i1_, bxw_ok (W := [(339, 339, 6, 6)]) (by decide) h2 h9 fr9 hX2, bfr_tt fr2 (xW_sub (V := [(339, 339, 6, 6)]) rfl fr9), i2_⟩
      · rw [y1] at RB
        obtain ⟨c9_, z9, -, -, e9_, l9, u9⟩ := bint_at x2_.1 bZ_338 (j_ := 9) (by show 9 < 26; omega) pI9
        have hb0 : bIm 339 (434 + 125 * u_) = some (.inl (0, 60)) := by
          have w_ : (wki 0 60 339 434 && wki 0 60 339 559) = true := by decide +kernel
          simp only [Bool.and_eq_true] at w_
          rcases u_ with _ | _ | u_
          · exact wki_ok w_.1
          · exact wki_ok w_.2
          · omega
        obtain ⟨cb, zb, -, -, eb, lb, ub_⟩ := bint_at x2_.1 bZ_339 (j_ := 434 + 125 * u_) (by show 434 + 125 * u_ < 768; omega) hb0
        have RC := bR_see (l := 0) (u_ := 60) RB x2_ bZ_338 (j_ := 9) (by show 9 < 26; omega) pI9 (by omega) (by omega)
        have RD := bR_see (l := 0) (u_ := 60) RC x2_ bZ_339 (j_ := 434 + 125 * u_) (by show 434 + 125 * u_ < 768; omega) hb0 (by omega) (by omega)
        have hWt : bws (xWt u_) xWT = true := by
          rcases u_ with _ | _ | u_
          · rfl
          · rfl
          · omega
        rcases pchk_ok k3_ rfl RD with ⟨q9_, p9_, lo9, st9_, h9, f9_, ag9, R9, fr9, ld9⟩ | ⟨r9, p9_, t9, h9, f9_, ag9, B9, fr9, rn9⟩
        · obtain ⟨e10_, H9, R10⟩ := pis_ok f9_ R9
          rw [e10_] at ld9
          have est := pstk R10
          subst est
          have vb : tv h9 339 (434 + 125 * u_) = tv h2 338 9 := by
            have w_ := bR_tv (f_ := bvr 0) R10 bZ_339 (j_ := 434 + 125 * u_) (by show 434 + 125 * u_ < 768; omega) (by
              show (match Nat.beq 339 339 && Nat.beq (434 + 125 * u_) (434 + 125 * u_) with
                | true => some (some (Sum.inl (bvr 0)))
                | false => blo [] 339 (434 + 125 * u_)) = _
              rw [show Nat.beq (434 + 125 * u_) (434 + 125 * u_) = true from Nat.beq_refl _]
              rfl)
            simp only [bfv, bvr, bsm] at w_
            rw [bsu_lt 0 (by omega), ag9 0 (by omega), bup_ne (by omega), bup_self] at w_
            omega
          have R11 : bR bZ bIm (bsu p9_ 2 (bgm 2 q9_.2 (xH0 u_))) (xHk u_ 0) lo9 [] h9 := by
            obtain ⟨r1_, r2, r3, r4, r5_, r6, r7, r8, r9', rx_⟩ := R10
            exact bR_mk H9 r6 trivial rfl rfl rx_
          have v9 : tv h9 338 9 = tv h2 338 9 := pbiw fr9 rfl
          obtain ⟨t_, h4, w1_, w2_, w3_, w4_, w5⟩ := xcopy (s_ := (tv h2 338 9).toNat) hu (by omega) (2 * (tv h2 338 9).toNat) 0 _ lo9 h9 (by omega) R11 (by omega)
          have hb4 : tv h4 339 (434 + 125 * u_) = tv h2 338 9 := by
            rw [← vb]
            refine pbiw w4_ ?_
            simp only [List.all_cons, List.all_nil, Bool.and_true, Bool.or_eq_true]
            exact Or.inr (Or.inr (Nat.ble_eq_true_of_le (by omega)))
          refine ⟨t_, h4, fun D_ hD => ld2 D_ hD _ (ld9 D_ (by omega) _ (w1_ D_ (by omega))), w2_, bXm_upd hu hX2 ?_ ?_, bfr_tt fr2 (bfr_tt (xW_sub hWt fr9) (xW_sub (V := [(339, 339, 434 + 125 * u_ + 1, 434 + 125 * u_ + 120)]) (by
            unfold bws xWT
            simp only [List.all_cons, List.all_nil, List.any_cons, List.any_nil, Bool.and_true, Bool.or_false, Bool.and_eq_true, Bool.or_eq_true]
            exact Or.inr (Or.inr (Or.inl ⟨⟨rfl, rfl⟩, Nat.ble_eq_true_of_le (by omega), Nat.ble_eq_true_of_le (by omega)⟩))) w4_)), w3_⟩
          · refine ⟨by rw [hb4]; omega, 1, ?_⟩
            rw [hb4, tcode_eq (h := h2) (a_ := 345) (b_ := 0) (fun i_ hi_ => by
              rw [w5 i_ hi_, if_neg (Nat.not_lt_zero i_), Nat.zero_add]
              exact pbiw fr9 rfl)]
            exact yp.2
          · intro a_ j_ ha_ hj1 hj2 hj
            have s1_ : tv h4 a_ j_ = tv h9 a_ j_ := by
              refine pbiw w4_ ?_
              simp only [List.all_cons, List.all_nil, Bool.and_true, Bool.or_eq_true]
              rcases ha_ with rfl | rfl
              · rcases hj with hj | hj | hj
                · cases hj
                · exact Or.inr (Or.inr (Nat.ble_eq_true_of_le (by omega)))
                · exact Or.inr (Or.inl (Nat.ble_eq_true_of_le (by omega)))
              · exact Or.inl (Or.inl rfl)
            rw [s1_]
            exact xWt_out fr9 ha_ hj1 (hj.imp id (fun w_ => w_.imp id (fun w_ => by omega)))
        · simp only [Bool.and_eq_true] at f9_
          obtain ⟨i1_, i2_, -⟩ := bans_ok bzf_ok f9_.1 B9
          have vb := bRt_tv B9 bZ_339 (j_ := 434 + 125 * u_) (by show 434 + 125 * u_ < 768; omega) f9_.2
          simp only [bfv, bvr, bsm] at vb
          rw [ag9 1 (by omega), bup_self] at vb
          refine ⟨t9, h9, fun D_ hD => ld2 D_ hD _ (rn9 D_ (by omega)), i1_, bXm_upd hu hX2 (ttx_eq (h := h2) (fun j_ j1 j2_ => ?_) ?_) (fun a_ j_ ha_ hj1 hj2 hj => xWt_out fr9 ha_ hj1 (hj.imp id (fun w_ => w_.imp id (fun w_ => by omega)))), bfr_tt fr2 (xW_sub hWt fr9), i2_⟩
          · by_cases hjb : j_ = 434 + 125 * u_
            · subst hjb
              omega
            · exact xWt_out fr9 (Or.inl rfl) (by omega) (Or.inr (Or.inr (by omega)))
          · rcases u_ with _ | _ | u_
            · exact hX2.1.1
            · exact hX2.1.2
            · exact absurd hu (Nat.not_lt.mpr (Nat.le_add_left 2 u_))
    · cases f_
  · have R0_ : bR bZ bIm (fun _ => 0) ([], 0, [(0, wth), (1, wcn x_.toInt)], [], []) [(0, .index 338), (1, .int x_)] [] h := bR_mk H_ (fun i_ v_ hv => by
      rcases i_ with _ | _ | i_
      · have e : some wth = some v_ := hv
        cases e
        exact ⟨.index 338, rfl, List.mem_cons_self, rfl, rfl⟩
      · have e : some (wcn x_.toInt) = some v_ := hv
        cases e
        exact ⟨.int x_, rfl, wcn_at⟩
      · cases hv) trivial rfl rfl rfl
    have hE := xE_all
    simp only [Bool.and_eq_true] at hE
    have go_ : ∀ (l w_ : Int), l ≤ x_.toInt → x_.toInt ≤ w_ → pchk (prun [(341, 341, 1, 1)] 184 0 1 [] ([(0, l, w_)], 1, [(0, wth), (1, some (.inl (bvr 0)))], [], [])) pno (bans bzf bIm (some wany) []) = true → ∃ t_ h', (∀ D_, d0_ + 5 + 1 ≤ D_ → xrun D_ 184 0 [(0, .index 338), (1, .int x_)] [] h (t_, h', [])) ∧ bInv bZ bIm h' ∧ bXm h' ∧ bfr xWT h h' ∧ bav (some wany) t_ := by
      intro l w_ hl hw hc_
      have R1 : bR bZ bIm (bup (fun _ => 0) 0 x_.toInt) ([(0, l, w_)], 1, [(0, wth), (1, some (.inl (bvr 0)))], [], []) [(0, .index 338), (1, .int x_)] [] h := by
        obtain ⟨r1_, r2, r3, r4, r5_, r6, r7, r8, r9, rx_⟩ := bR_new (x := x_.toInt) R0_ hl hw
        refine ⟨r1_, r2, rfl, r4, r5_, ?_, r7, r8, r9, rx_⟩
        intro i_ v_ hv
        rcases i_ with _ | _ | i_
        · have e : some wth = some v_ := hv
          cases e
          exact ⟨.index 338, rfl, List.mem_cons_self, rfl, rfl⟩
        · have e : some (some (.inl (bvr 0))) = some v_ := hv
          cases e
          exact ⟨.int x_, rfl, x_, rfl, bvr_v.symm⟩
        · cases hv
      rcases pchk_ok hc_ rfl R1 with ⟨q9_, -, -, -, -, f9_, -⟩ | ⟨r9, p9_, t9, h9, f9_, -, B9, fr9, rn9⟩
      · cases f9_
      · obtain ⟨i1_, i2_, -⟩ := bans_ok bzf_ok f9_ B9
        exact ⟨t9, h9, fun D_ hD => rn9 D_ (by omega), i1_, bxw_ok (W := [(341, 341, 1, 1)]) (by decide) h h9 fr9 hX, xW_sub (V := [(341, 341, 1, 1)]) rfl fr9, i2_⟩
    have b1 := bi_lo x_
    have b2 := bi_hi x_
    rcases (show x_.toInt < 0 ∨ 0 ≤ x_.toInt by omega) with q_ | q_
    · exact go_ (-2147483648) (-1) b1 (by omega) hE.1
    · exact go_ 2 2147483647 (by omega) b2 hE.2
