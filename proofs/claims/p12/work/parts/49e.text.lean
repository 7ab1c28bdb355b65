-- ===== TEXT of the reference leaves the tape empty
def xH9 (u_ : Nat) : bT := ([], 2, [(0, wth), (1, wcn (u_ : Int)), (3, wcn ((434 + 125 * u_ : Nat) : Int)), (4, wcn 0)], [], [((339, 434 + 125 * u_), some (.inl (bvr 0))), ((339, 6), wcn 0)])
noncomputable def xt9 (u_ : Nat) : Bool := pchk (prun [(339, 339, 6, 6)] 184 39 0 [104] (xtB0 u_)) pno (iap 339 6 (0, [])) && pchk (prun (xWt u_) 184 39 2 [104] (xtB1 u_)) (pis 104 2 (xH9 u_)) (iap 339 6 (0, []))
theorem xt9_all : (xt9 0 && xt9 1) = true := by decide +kernel
theorem xt9_ok {u_ : Nat} (hu : u_ < 2) : xt9 u_ = true := by
  have k_ := xt9_all
  rw [Bool.and_eq_true] at k_
  rcases u_ with _ | _ | u_
  · exact k_.1
  · exact k_.2
  · exact absurd hu (Nat.not_lt.mpr (Nat.le_add_left 2 u_))
set_option maxHeartbeats 4000000 in
theorem text_x : ∃ d_, d_ ≤ 900 ∧ ∀ (h : xH) (x_ : Int32), bInv bZ bIm h → bXm h → 0 ≤ x_.toInt → x_.toInt ≤ 1 → ∃ t_ h', (∀ D_, d_ ≤ D_ → xrun D_ 184 0 [(0, .index 338), (1, .int x_)] [] h (t_, h', [])) ∧ tv h' 339 6 = 0 := by
  obtain ⟨d0_, hd0, hd9, -, hT_⟩ := pT_all 5 0 rfl
  refine ⟨d0_ + 5 + 1, by omega, fun h x_ H_ hX hxa hxb => ?_⟩
  obtain ⟨u_, hu, hxu⟩ : ∃ u_ : Nat, u_ < 2 ∧ x_.toInt = (u_ : Int) := ⟨x_.toInt.toNat, by omega, by omega⟩
  have k_ := xtc_ok hu
  simp only [xtc, Bool.and_eq_true] at k_
  obtain ⟨k1_, -, -⟩ := k_
  have kk_ := xt9_ok hu
  simp only [xt9, Bool.and_eq_true] at kk_
  obtain ⟨k2_, k3_⟩ := kk_
  have R0_ : bR bZ bIm (fun _ => 0) (xtA u_) [(0, .index 338), (1, .int x_)] [] h := bR_mk H_ (xt_lo hxu rfl rfl) trivial rfl rfl rfl
  rcases pchk_ok k1_ rfl R0_ with ⟨q_, p1_, lo1, st1_, h1, f_, -, R1, fr1, ld1⟩ | ⟨r_, -, -, -, f_, -⟩
  · obtain ⟨e1_, H1_, R2⟩ := pis_ok f_ R1
    rw [e1_] at ld1
    have a7 := bR_tv R2 bZ_338 (j_ := 7) (by show 7 < 26; omega) rfl
    have a8 := bR_tv R2 bZ_338 (j_ := 8) (by show 8 < 26; omega) rfl
    have a9 := bR_tv R2 bZ_338 (j_ := 9) (by show 9 < 26; omega) rfl
    simp only [bfv, bcn, bsm] at a7 a8 a9
    have hp1 : ppx h1 0 := ⟨by omega, by rw [show (tv h1 338 9).toNat = 0 by omega]; rfl⟩
    obtain ⟨t2_, h2, x1_, x2_, x3, x4_⟩ := hT_ h1 0 H1_ (by omega) hp1
    have ld2 : bldD (d0_ + 5 + 1) 184 0 [(0, .index 338), (1, .int x_)] [] h 39 lo1 [.int t2_] h2 := fun D_ hD => bld_tt (ld1 D_ (by omega)) (pcallO xt_cal.1 xt_cal.2 R2 x1_ D_ hD)
    obtain ⟨tt, t1_, ts⟩ := R2.2.2.2.2.2.1 1 (wcn (u_ : Int)) rfl
    have L1 : lok lo1 := lok_of R2 rfl
    have hlo : bLr (fun _ => 0) [(0, wth), (1, wcn (u_ : Int))] lo1 := by
      have et := wcn_eq (x_ := x_) hxu ts
      subst et
      exact xt_lo hxu L1.1 t1_
    have RB : bR bZ bIm (fun _ => 0) ([], 0, [(0, wth), (1, wcn (u_ : Int))], [wcn t2_.toInt], []) lo1 [.int t2_] h2 := bR_mk x2_ hlo ⟨wcn_at, trivial⟩ rfl rfl (by
      unfold xok
      simp only [Bool.and_eq_true]
      exact ⟨L1.2, rfl⟩)
    rcases x4_ with y0 | ⟨y1, y8, yp, y7, ys⟩
    · rw [y0] at RB
      rcases pchk_ok k2_ rfl RB with ⟨q9_, -, -, -, -, f9_, -⟩ | ⟨r9, p9_, t9, h9, f9_, -, B9, fr9, rn9⟩
      · cases f9_
      · exact ⟨t9, h9, fun D_ hD => ld2 D_ hD _ (rn9 D_ (by omega)), iap_ok f9_ bZ_339 (by show 6 < 768; omega) B9⟩
    · rw [y1] at RB
      obtain ⟨c9_, z9, -, -, e9_, l9, u9⟩ := bint_at x2_.1 bZ_338 (j_ := 9) (by show 9 < 26; omega) pI9
      have hb0 : bIm 339 (434 + 125 * u_) = some (.inl (0, 60)) := by
        have w_ : (wki 0 60 339 434 && wki 0 60 339 559) = true := by decide +kernel
        simp only [Bool.and_eq_true] at w_
        rcases u_ with _ | _ | u_
        · exact wki_ok w_.1
        · exact wki_ok w_.2
        · omega
      obtain ⟨cb, zb, -, -, eb, lb, ub_⟩ := bint_at x2_.1 bZ_339 (j_ := 434 + 125 * u_) (by show 434 + 125 * u_ < 768; omega) hb0
      have RC := bR_see (l := 0) (u_ := 60) RB x2_ bZ_338 (j_ := 9) (by show 9 < 26; omega) pI9 (by omega) (by omega)
      have RD := bR_see (l := 0) (u_ := 60) RC x2_ bZ_339 (j_ := 434 + 125 * u_) (by show 434 + 125 * u_ < 768; omega) hb0 (by omega) (by omega)
      rcases pchk_ok k3_ rfl RD with ⟨q9_, p9_, lo9, st9_, h9, f9_, ag9, R9, fr9, ld9⟩ | ⟨r9, p9_, t9, h9, f9_, ag9, B9, fr9, rn9⟩
      · obtain ⟨e10_, H9, R10⟩ := pis_ok f9_ R9
        rw [e10_] at ld9
        have est := pstk R10
        subst est
        have v6 : tv h9 339 6 = 0 := by
          have w_ := bR_tv (f_ := bcn 0) R10 bZ_339 (j_ := 6) (by show 6 < 768; omega) (by
            show (match Nat.beq 339 339 && Nat.beq (434 + 125 * u_) 6 with
              | true => some (some (Sum.inl (bvr 0)))
              | false => blo [((339, 6), wcn 0)] 339 6) = _
            rw [show Nat.beq (434 + 125 * u_) 6 = false from by
              cases e : Nat.beq (434 + 125 * u_) 6 with
              | false => rfl
              | true => have := Nat.eq_of_beq_eq_true e; omega]
            rfl)
          rw [w_]
          rfl
        have R11 : bR bZ bIm (bsu p9_ 2 (bgm 2 q9_.2 (xH9 u_))) (xHk u_ 0) lo9 [] h9 := by
          obtain ⟨r1_, r2, r3, r4, r5_, r6, r7, r8, r9', rx_⟩ := R10
          exact bR_mk H9 r6 trivial rfl rfl rx_
        have v9 : tv h9 338 9 = tv h2 338 9 := pbiw fr9 rfl
        obtain ⟨t_, h4, w1_, w2_, w3_, w4_, w5⟩ := xcopy (s_ := (tv h2 338 9).toNat) hu (by omega) (2 * (tv h2 338 9).toNat) 0 _ lo9 h9 (by omega) R11 (by omega)
        refine ⟨t_, h4, fun D_ hD => ld2 D_ hD _ (ld9 D_ (by omega) _ (w1_ D_ (by omega))), ?_⟩
        rw [← v6]
        refine pbiw w4_ ?_
        simp only [List.all_cons, List.all_nil, Bool.and_true, Bool.or_eq_true]
        exact Or.inr (Or.inr (Nat.ble_eq_true_of_le (by omega)))
      · exact ⟨t9, h9, fun D_ hD => ld2 D_ hD _ (rn9 D_ (by omega)), iap_ok f9_ bZ_339 (by show 6 < 768; omega) B9⟩
  · cases f_
/-- as a contract with exact answers: no answer told, the tape empty -/
def txq (RP : lRel) (q_ : lCs) : Bool := (decide (q_.1.1 = [some (.inl (0, 1))]) && decide (q_.2.2.2 = xWT)) && ((match q_.2.1.1 with
  | some _ => false
  | none => true) && q_.2.1.2.all (fun u_ => decide (lpm RP u_.1 = (339, 6)) && decide (u_.2 = (0, []))))
theorem txq_ok {RP : lRel} {q_ : lCs} (hq : txq RP q_ = true) : bcoq bZ bIm bXm (lck (lpm RP) 184 338 q_.2.2.2 q_) (lkk (lpm RP) q_) := by
  obtain ⟨⟨es, cn_⟩, ⟨Fo, up_⟩, Wx_, Wm_⟩ := q_
  unfold txq at hq
  simp only [Bool.and_eq_true, decide_eq_true_eq] at hq
  obtain ⟨⟨q1_, q2_⟩, q3_, q4_⟩ := hq
  subst q1_
  subst q2_
  intro h ts H_ hX hp hb_
  obtain ⟨dx_, hdx, Kx_⟩ := text_x
  obtain ⟨dy_, hdy, Ky_⟩ := text_ok
  cases ts with
  | nil => exact absurd hp id
  | cons t0_ ts =>
  obtain ⟨⟨p1_, -⟩, p2_⟩ := hp
  have e := List.mem_singleton.mp p1_
  subst e
  cases ts with
  | nil => exact absurd p2_ id
  | cons t1_ ts =>
  obtain ⟨⟨x_, ex_, b1_, b2_⟩, p3_⟩ := p2_
  subst ex_
  cases ts with
  | cons t2_ ts => exact absurd p3_ id
  | nil =>
  obtain ⟨t_, h', r1_, v6⟩ := Kx_ h x_ H_ hX b1_ b2_
  obtain ⟨t2_, h2, r2_, -, -, f2_, u_, eu, y_, ey, -⟩ := Ky_ h x_ H_ hX
  have e2_ := xrun_un (r1_ 900 hdx) (r2_ 900 hdy)
  have eh : h' = h2 := congrArg (fun o => o.2.1) e2_
  subst eh
  have ey : u_ = .int y_ := ey
  subst ey
  subst eu
  refine ⟨y_, h', fun v_ => match v_ with
    | 0 => 0
    | 1 => x_.toInt
    | j_ + 2 => match cn_[j_]? with
      | some w_ => tv h (lpm RP w_.1).1 (lpm RP w_.1).2
      | none => 0, fun D_ hD => r2_ D_ (Nat.le_trans hdy hD), f2_, fun v_ hv => ?_, fun j_ w_ hj => ?_, fun g_ hg => ?_, fun w_ hw => ?_⟩
  · have hv : v_ < 2 := hv
    rcases v_ with _ | _ | v_
    · rfl
    · rfl
    · omega
  · have hj : (cn_.map (fun w_ => (lpm RP w_.1, (.inl (w_.2.1, w_.2.2) : bN), (none : Option ((Nat × Nat) × Int × Int)))))[j_]? = some w_ := hj
    rw [List.getElem?_map] at hj
    have e3_ : (some (Sum.inr [Jvm.Term.index 338]) :: [some (Sum.inl ((0 : Int), (1 : Int)))] : List bP).length + j_ = j_ + 2 := by
      show 2 + j_ = j_ + 2
      omega
    show (fun v_ => match v_ with
      | 0 => (0 : Int)
      | 1 => x_.toInt
      | j_ + 2 => match cn_[j_]? with
        | some w_ => tv h (lpm RP w_.1).1 (lpm RP w_.1).2
        | none => 0) ((some (Sum.inr [Jvm.Term.index 338]) :: [some (Sum.inl ((0 : Int), (1 : Int)))] : List bP).length + j_) = _
    rw [e3_]
    cases hl : cn_[j_]? with
    | none => rw [hl] at hj; cases hj
    | some z_ =>
      rw [hl] at hj
      cases hj
      simp only [hl]
  · have hg : Fo = some g_ := hg
    subst hg
    cases q3_
  · obtain ⟨z_, hz, e⟩ := List.mem_map.mp hw
    subst e
    have k_ := List.all_eq_true.mp q4_ z_ hz
    simp only [Bool.and_eq_true, decide_eq_true_eq] at k_
    show tv h' (lpm RP z_.1).1 (lpm RP z_.1).2 = bfv _ z_.2
    rw [k_.1, k_.2]
    exact v6
