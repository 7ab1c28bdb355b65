-- ===== IMAGE and RESTORE of the reference, exactly
def lJi (l u_ : Int) : bT := ([(0, l, u_)], 1, [(0, wth)], [], [((338, 2), some (.inl (bvr 0)))])
def lJn : bT := ([(0, -2147483648, 2147483647)], 1, [(0, wth)], [], [((339, 2), some (.inl (bvr 0)))])
/-- an end: its answer by this form -/
def ian (F_ : bF) (y_ : bRet) : Bool := match y_.1 with
  | some (some (.inl f_)) => bqf y_.2.1 f_ F_
  | _ => false
def iap (a_ j_ : Nat) (F_ : bF) (y_ : bRet) : Bool := match blo y_.2.2.2.2.2 a_ j_ with
  | some (some (.inl f_)) => bqf y_.2.1 f_ F_
  | _ => false
theorem ian_ok {F_ : bF} {y_ : bRet} {p : Nat → Int} {t_ : Option Jvm.Term} {h : xH} (ha_ : ian F_ y_ = true) (B_ : bRt bZ bIm p y_ t_ h) : ∃ x_ : Int32, t_ = some (.int x_) ∧ x_.toInt = bfv p F_ := by
  obtain ⟨g1, g2, g3_, g4, g5_, g6⟩ := B_
  unfold ian at ha_
  cases hv : y_.1 with
  | none => rw [hv] at ha_; cases ha_
  | some v_ =>
  rw [hv] at ha_ g6
  rcases v_ with _ | (fo | l)
  · cases ha_
  · obtain ⟨u_, u1_, ⟨x_, x1_, x2_⟩, -⟩ := g6
    subst x1_
    exact ⟨x_, u1_, x2_.trans (bqf_ok g1 ha_)⟩
  · cases ha_
theorem iap_ok {a_ j_ : Nat} {F_ : bF} {y_ : bRet} {p : Nat → Int} {t_ : Option Jvm.Term} {h : xH} {z_ : Nat × Nat} (ha_ : iap a_ j_ F_ y_ = true) (hz : bZ[a_]? = some z_) (hj : j_ < z_.2) (B_ : bRt bZ bIm p y_ t_ h) : tv h a_ j_ = bfv p F_ := by
  obtain ⟨g1, g2, g3_, g4, g5_, g6⟩ := B_
  obtain ⟨d_, d1_, d2_, d3_, d4_⟩ := g4.2 _ z_ hz
  have hlt : j_ < d_.2.length := by omega
  have ht := List.getElem?_eq_getElem hlt
  have k4_ := d4_ j_ _ ht
  unfold iap at ha_
  cases hb_ : blo y_.2.2.2.2.2 a_ j_ with
  | none => rw [hb_] at ha_; cases ha_
  | some v_ =>
  rw [hb_] at ha_ k4_
  rcases v_ with _ | (fo | l)
  · cases ha_
  · obtain ⟨x_, x1_, x2_⟩ := k4_
    rw [x1_] at ht
    unfold tv
    rw [bpat_at d1_, ht]
    exact x2_.trans (bqf_ok g1 ha_)
  · cases ha_
noncomputable def cim3 : Bool := pchk (prun [(338, 338, 2, 2)] 232 11 1 [] (lJi (-2147483648) 2147483646)) pno (fun y_ => ian (1, [(0, 1)]) y_ && iap 338 2 (1, [(0, 1)]) y_) && pchk (prun [(338, 338, 2, 2)] 232 11 1 [] (lJi 2147483647 2147483647)) pno (fun y_ => ian (-2147483648, []) y_ && iap 338 2 (-2147483648, []) y_)
theorem cim3_ok : cim3 = true := by decide +kernel
/-- one more -/
def inx (v_ : Int) : Int := match decide (v_ = 2147483647) with
  | true => -2147483648
  | false => v_ + 1
theorem bI_338 : ∃ l u_, bIm 338 2 = some (.inl (l, u_)) := ⟨_, _, (by decide +kernel : bIm 338 2 = some (.inl (-2147483648, 2147483647)))⟩
theorem bI_339 : ∃ l u_, bIm 339 2 = some (.inl (l, u_)) := by
  have k_ : (match bIm 339 2 with
    | some (.inl _) => true
    | _ => false) = true := by decide +kernel
  cases h : bIm 339 2 with
  | none => rw [h] at k_; cases k_
  | some e =>
    rw [h] at k_
    rcases e with b_ | l
    · exact ⟨b_.1, b_.2, rfl⟩
    · cases k_
theorem tv_32 {h : xH} {a_ j_ : Nat} (H_ : bInv bZ bIm h) {z_ : Nat × Nat} (hz : bZ[a_]? = some z_) (hj : j_ < z_.2) (hI : ∃ l u_, bIm a_ j_ = some (.inl (l, u_))) : -2147483648 ≤ tv h a_ j_ ∧ tv h a_ j_ ≤ 2147483647 := by
  obtain ⟨l, u_, hI⟩ := hI
  obtain ⟨c_, x_, -, -, e, -, -⟩ := bint_at H_.1 hz hj hI
  rw [e]
  exact ⟨bi_lo x_, bi_hi x_⟩
def iWI : bW := [(338, 338, 2, 2), (340, 340, 0, 767)]
def iWR : bW := [(339, 339, 0, 767)]
theorem image_x {h : xH} (H_ : bInv bZ bIm h) : ∃ (x_ : Int32) (h' : xH), (∀ D_, 5 ≤ D_ → xrun D_ 232 0 [(0, .index 338)] [] h (some (.int x_), h', [])) ∧ bfr iWI h h' ∧ (∀ i_, i_ < 768 → tv h' 340 i_ = tv h 339 i_) ∧ x_.toInt = inx (tv h 338 2) ∧ tv h' 338 2 = inx (tv h 338 2) := by
  have k_ := cim_ok
  simp only [cim, Bool.and_eq_true] at k_
  obtain ⟨k1_, -, k3_⟩ := k_
  have kc_ := ckn_all
  have ke := cke_all
  simp only [Bool.and_eq_true] at kc_ ke
  have k4_ := cim3_ok
  simp only [cim3, Bool.and_eq_true] at k4_
  obtain ⟨k5_, k6_⟩ := k4_
  rcases pchk_ok k1_ rfl (t338 H_) with ⟨q_, p1_, lo1, st1, h1, f_, -, R3, fr_, ld⟩ | ⟨y_, -, -, -, f_, -⟩
  · obtain ⟨e1_, H1_, R4⟩ := pis_ok f_ R3
    rw [e1_] at ld
    obtain ⟨h2, v1_, v2, v3, v4_⟩ := carry_ok (a_ := 339) (b_ := 340) bZ_339 bZ_340 (by decide) kc_.1 (fun k_ hk => cki_ok hk) ke.1 rfl rfl rfl H1_
    have L_ := lok_of R4 rfl
    have ld2 := pcallS k3_ R4 v1_
    have R0_ : bR bZ bIm (fun _ => 0) ([], 0, [(0, wth)], [], []) lo1 [] h2 := lok_R v2 L_ trivial rfl rfl
    obtain ⟨l0, u0, hI⟩ := bI_338
    have b32_ := tv_32 (j_ := 2) v2 bZ_338 (by show 2 < 26; omega) ⟨l0, u0, hI⟩
    have e2_ : tv h2 338 2 = tv h 338 2 := by
      rw [show tv h2 338 2 = tv h1 338 2 from pbiw v3 rfl]
      exact pbiw fr_ rfl
    have W2_ : bfr iWI h h2 := fun a_ j_ hj => (v3 a_ j_ (bws_ok (V := [(340, 340, 0, 767)]) (W := iWI) rfl hj)).trans (fr_ a_ j_ rfl)
    have s0_ : ∀ j_, j_ < 768 → tv h2 340 j_ = tv h 339 j_ := fun j_ hj => by
      rw [v4_ j_ hj]
      exact pbiw fr_ rfl
    have fin_ : ∀ (y_ : bRet) (p9_ : Nat → Int) (t9 : Option Jvm.Term) (h9 : xH) (F_ : bF), (ian F_ y_ && iap 338 2 F_ y_) = true → bRt bZ bIm p9_ y_ t9 h9 → bfr [(338, 338, 2, 2)] h2 h9 → (∀ D_, 4 ≤ D_ → xrun D_ 232 11 lo1 [] h2 (t9, h9, [])) → bfv p9_ F_ = inx (tv h 338 2) → ∃ (x_ : Int32) (h' : xH), (∀ D_, 5 ≤ D_ → xrun D_ 232 0 [(0, .index 338)] [] h (some (.int x_), h', [])) ∧ bfr iWI h h' ∧ (∀ i_, i_ < 768 → tv h' 340 i_ = tv h 339 i_) ∧ x_.toInt = inx (tv h 338 2) ∧ tv h' 338 2 = inx (tv h 338 2) := by
      intro y_ p9_ t9 h9 F_ f9_ B9 fr9 rn9 eF
      rw [Bool.and_eq_true] at f9_
      obtain ⟨x_, ex_, ex2_⟩ := ian_ok f9_.1 B9
      have ep := iap_ok f9_.2 bZ_338 (show 2 < 26 by omega) B9
      subst ex_
      refine ⟨x_, h9, fun D_ hD => ld D_ (by omega) _ (ld2 D_ hD _ (rn9 D_ (by omega))), bfr_tt W2_ (fun a_ j_ hj => fr9 a_ j_ (bws_ok (V := [(338, 338, 2, 2)]) (W := iWI) rfl hj)), fun i_ hi_ => ?_, ex2_.trans eF, ep.trans eF⟩
      rw [show tv h9 340 i_ = tv h2 340 i_ from pbiw fr9 rfl]
      exact s0_ i_ hi_
    by_cases hq : tv h2 338 2 = 2147483647
    · have R1 := bR_see R0_ v2 bZ_338 (show 2 < 26 by omega) hI (show (2147483647 : Int) ≤ tv h2 338 2 by omega) (show tv h2 338 2 ≤ 2147483647 by omega)
      rcases pchk_ok k6_ rfl R1 with ⟨q9_, -, -, -, -, f9_, -⟩ | ⟨y_, p9_, t9, h9, f9_, -, B9, fr9, rn9⟩
      · cases f9_
      · refine fin_ y_ p9_ t9 h9 _ f9_ B9 fr9 rn9 ?_
        rw [← e2_, hq]
        rfl
    · have R1 := bR_see R0_ v2 bZ_338 (show 2 < 26 by omega) hI b32_.1 (show tv h2 338 2 ≤ 2147483646 by omega)
      rcases pchk_ok k5_ rfl R1 with ⟨q9_, -, -, -, -, f9_, -⟩ | ⟨y_, p9_, t9, h9, f9_, a9, B9, fr9, rn9⟩
      · cases f9_
      · refine fin_ y_ p9_ t9 h9 _ f9_ B9 fr9 rn9 ?_
        have a0_ := a9 0 (by omega)
        rw [bup_self] at a0_
        rw [← e2_]
        unfold inx
        rw [decide_eq_false hq]
        simp only [bfv, bsm, a0_]
        omega
  · cases f_
noncomputable def cre3 : Bool := (pchk (prun [] 233 0 0 [21] (lJi 1 2147483647)) (pis 21 0 (cS 340 339)) pno && pchk (prun [] 233 0 0 [21] (lJi (-2147483648) (-1))) (pis 21 0 (cS 340 339)) pno) && pchk (prun [] 233 24 1 [] lJn) pno (ian (bvr 0))
theorem cre3_ok : cre3 = true := by decide +kernel
theorem restore_x {h : xH} (H_ : bInv bZ bIm h) (h0 : tv h 338 2 ≠ 0) : ∃ (x_ : Int32) (h' : xH), (∀ D_, 5 ≤ D_ → xrun D_ 233 0 [(0, .index 338)] [] h (some (.int x_), h', [])) ∧ bfr iWR h h' ∧ (∀ i_, i_ < 768 → tv h' 339 i_ = tv h 340 i_) ∧ x_.toInt = tv h 340 2 := by
  have k_ := cre_ok
  simp only [cre, Bool.and_eq_true] at k_
  obtain ⟨-, -, k3_⟩ := k_
  have kc_ := ckn_all
  have ke := cke_all
  simp only [Bool.and_eq_true] at kc_ ke
  have k4_ := cre3_ok
  simp only [cre3, Bool.and_eq_true] at k4_
  obtain ⟨⟨k5_, k6_⟩, k7_⟩ := k4_
  obtain ⟨l0, u0, hI⟩ := bI_338
  have b32_ := tv_32 (j_ := 2) H_ bZ_338 (by show 2 < 26; omega) ⟨l0, u0, hI⟩
  have fin_ : ∀ (q_ : bQ) (p1_ : Nat → Int) (lo1 : xL) (st1 : List Jvm.Term) (h1 : xH), pis 21 0 (cS 340 339) q_ = true → bR bZ bIm p1_ q_.2 lo1 st1 h1 → bfr [] h h1 → bldD 4 233 0 [(0, .index 338)] [] h q_.1 lo1 st1 h1 → ∃ (x_ : Int32) (h' : xH), (∀ D_, 5 ≤ D_ → xrun D_ 233 0 [(0, .index 338)] [] h (some (.int x_), h', [])) ∧ bfr iWR h h' ∧ (∀ i_, i_ < 768 → tv h' 339 i_ = tv h 340 i_) ∧ x_.toInt = tv h 340 2 := by
    intro q_ p1_ lo1 st1 h1 f_ R3 fr_ ld
    obtain ⟨e1_, H1_, R4⟩ := pis_ok f_ R3
    rw [e1_] at ld
    obtain ⟨h2, v1_, v2, v3, v4_⟩ := carry_ok (a_ := 340) (b_ := 339) bZ_340 bZ_339 (by decide) kc_.2 (fun k_ hk => ckr_ok hk) ke.2 rfl rfl rfl H1_
    have L_ := lok_of R4 rfl
    have ld2 := pcallS k3_ R4 v1_
    have R0_ : bR bZ bIm (fun _ => 0) ([], 0, [(0, wth)], [], []) lo1 [] h2 := lok_R v2 L_ trivial rfl rfl
    obtain ⟨l2, u2_, hI2⟩ := bI_339
    have c32_ := tv_32 (j_ := 2) v2 bZ_339 (by show 2 < 768; omega) ⟨l2, u2_, hI2⟩
    have s0_ : ∀ j_, j_ < 768 → tv h2 339 j_ = tv h 340 j_ := fun j_ hj => by
      rw [v4_ j_ hj]
      exact pbiw fr_ rfl
    have R1 := bR_see R0_ v2 bZ_339 (show 2 < 768 by omega) hI2 c32_.1 c32_.2
    rcases pchk_ok k7_ rfl R1 with ⟨q9_, -, -, -, -, f9_, -⟩ | ⟨y_, p9_, t9, h9, f9_, a9, B9, fr9, rn9⟩
    · cases f9_
    · obtain ⟨x_, ex_, ex2_⟩ := ian_ok f9_ B9
      subst ex_
      refine ⟨x_, h9, fun D_ hD => ld D_ (by omega) _ (ld2 D_ hD _ (rn9 D_ (by omega))), fun a_ j_ hj => (fr9 a_ j_ rfl).trans ((v3 a_ j_ (bws_ok (V := [(339, 339, 0, 767)]) (W := iWR) rfl hj)).trans (fr_ a_ j_ rfl)), fun i_ hi_ => ?_, ?_⟩
      · rw [show tv h9 339 i_ = tv h2 339 i_ from pbiw fr9 rfl]
        exact s0_ i_ hi_
      · have a0_ := a9 0 (by omega)
        rw [bup_self] at a0_
        rw [ex2_]
        simp only [bfv, bvr, bsm, a0_]
        rw [← s0_ 2 (by omega)]
        omega
  rcases (show tv h 338 2 ≤ -1 ∨ 1 ≤ tv h 338 2 by omega) with g_ | g_
  · have R1 := bR_see (t338 H_) H_ bZ_338 (show 2 < 26 by omega) hI b32_.1 g_
    rcases pchk_ok k6_ rfl R1 with ⟨q_, p1_, lo1, st1, h1, f_, -, R3, fr_, ld⟩ | ⟨y_, -, -, -, f_, -⟩
    · exact fin_ q_ p1_ lo1 st1 h1 f_ R3 fr_ ld
    · cases f_
  · have R1 := bR_see (t338 H_) H_ bZ_338 (show 2 < 26 by omega) hI g_ b32_.2
    rcases pchk_ok k5_ rfl R1 with ⟨q_, p1_, lo1, st1, h1, f_, -, R3, fr_, ld⟩ | ⟨y_, -, -, -, f_, -⟩
    · exact fin_ q_ p1_ lo1 st1 h1 f_ R3 fr_ ld
    · cases f_
-- ===== as contracts with exact answers
/-- the place among those that are told ahead, as an unknown -/
def fcd (pl : Nat → Nat × Nat) (a_ : Nat × Nat) (l : List (Nat × Int × Int)) (k_ : Nat) : Option (Nat × Int × Int) := match l with
  | [] => none
  | u_ :: t_ => match decide (pl u_.1 = a_) with
    | true => some (k_, u_.2)
    | false => fcd pl a_ t_ (k_ + 1)
theorem fcd_ok {pl : Nat → Nat × Nat} {a_ : Nat × Nat} : ∀ {l : List (Nat × Int × Int)} {k_ i_ : Nat} {b_ : Int × Int}, fcd pl a_ l k_ = some (i_, b_) → ∃ j_ u_, i_ = k_ + j_ ∧ l[j_]? = some u_ ∧ pl u_.1 = a_ ∧ u_.2 = b_ := by
  intro l
  induction l with
  | nil => intro k_ i_ b_ hf; cases hf
  | cons u_ t_ ih_ =>
    intro k_ i_ b_ hf
    simp only [fcd] at hf
    cases hd_ : decide (pl u_.1 = a_) with
    | true =>
      rw [hd_] at hf
      cases hf
      exact ⟨0, u_, rfl, rfl, of_decide_eq_true hd_, rfl⟩
    | false =>
      rw [hd_] at hf
      obtain ⟨j_, v_, e1_, e2_, e3_, e4_⟩ := ih_ hf
      exact ⟨j_ + 1, v_, by omega, e2_, e3_, e4_⟩
def iqp (pl : Nat → Nat × Nat) (h : xH) (l : List (Nat × Int × Int)) (v_ : Nat) : Int := match v_ with
  | 0 => 0
  | j_ + 1 => match l[j_]? with
    | some u_ => tv h (pl u_.1).1 (pl u_.1).2
    | none => 0
theorem iqp_at {pl : Nat → Nat × Nat} {h : xH} {l : List (Nat × Int × Int)} {a_ : Nat × Nat} {i_ : Nat} {b_ : Int × Int} (hf : fcd pl a_ l 1 = some (i_, b_)) : iqp pl h l i_ = tv h a_.1 a_.2 := by
  obtain ⟨j_, u_, e1_, e2_, e3_, -⟩ := fcd_ok hf
  rw [e1_, Nat.add_comm 1 j_]
  show (match l[j_]? with
    | some u_ => tv h (pl u_.1).1 (pl u_.1).2
    | none => 0) = _
  rw [e2_, ← e3_]
/-- the form of one more image -/
def imf (pl : Nat → Nat × Nat) (l : List (Nat × Int × Int)) (f_ : bF) : Bool := match fcd pl (338, 2) l 1 with
  | some (i_, b_) => (decide (b_.2 ≤ 2147483646) && decide (f_ = (1, [(i_, 1)]))) || (decide (2147483647 ≤ b_.1) && decide (f_ = (-2147483648, [])))
  | none => false
theorem imf_ok {pl : Nat → Nat × Nat} {h : xH} {l : List (Nat × Int × Int)} {f_ : bF} (hf : imf pl l f_ = true) (h32 : tv h 338 2 ≤ 2147483647) (hb_ : bHp h (l.map (fun u_ => (pl u_.1, .inl (u_.2.1, u_.2.2), none)))) : bfv (iqp pl h l) f_ = inx (tv h 338 2) := by
  unfold imf at hf
  cases hc_ : fcd pl (338, 2) l 1 with
  | none => rw [hc_] at hf; cases hf
  | some w_ =>
  obtain ⟨i_, b_⟩ := w_
  rw [hc_] at hf
  simp only [Bool.or_eq_true, Bool.and_eq_true, decide_eq_true_eq] at hf
  have hi_ := iqp_at (h := h) hc_
  obtain ⟨j_, u_, e1_, e2_, e3_, e4_⟩ := fcd_ok hc_
  obtain ⟨c_, t_, c1_, c2_, ⟨x_, x0_, x1_, x2_⟩, -⟩ := hb_ (pl u_.1, .inl (u_.2.1, u_.2.2), none) (List.mem_map.mpr ⟨u_, List.mem_of_getElem? e2_, rfl⟩)
  have x0_ : t_ = .int x_ := x0_
  subst x0_
  have ht : tv h 338 2 = x_.toInt := by
    have c1_ : h[(pl u_.1).1]? = some c_ := c1_
    have c2_ : c_.2[(pl u_.1).2]? = some (.int x_) := c2_
    rw [e3_] at c1_ c2_
    simp only [tv, bpat_at c1_, c2_]
  have x1_ : u_.2.1 ≤ x_.toInt := x1_
  have x2_ : x_.toInt ≤ u_.2.2 := x2_
  rw [e4_] at x1_ x2_
  rcases hf with ⟨g1, g2⟩ | ⟨g1, g2⟩
  · rw [g2]
    unfold inx
    rw [decide_eq_false (show ¬ tv h 338 2 = 2147483647 by omega)]
    simp only [bfv, bsm, hi_]
    omega
  · rw [g2]
    unfold inx
    rw [decide_eq_true (show tv h 338 2 = 2147483647 by omega)]
    rfl
def imu (pl : Nat → Nat × Nat) (l : List (Nat × Int × Int)) (u_ : Nat × bF) : Bool := (decide (pl u_.1 = (338, 2)) && imf pl l u_.2) || ((Nat.beq (pl u_.1).1 340 && Nat.ble ((pl u_.1).2 + 1) 768) && (match fcd pl (339, (pl u_.1).2) l 1 with
  | some (i_, _) => decide (u_.2 = bvr i_)
  | none => false))
def imq (RP : lRel) (q_ : lCs) : Bool := (decide (q_.1.1 = []) && decide (q_.2.2.2 = iWI)) && ((match q_.2.1.1 with
  | some f_ => imf (lpm RP) q_.1.2 f_
  | none => true) && q_.2.1.2.all (imu (lpm RP) q_.1.2))
theorem bPs_one {b_ : Nat} {ts : List Jvm.Term} (hp : bPs [some (.inr [.index b_])] ts) : ts = [.index b_] := by
  cases ts with
  | nil => exact absurd hp id
  | cons t_ u_ =>
    obtain ⟨⟨h1, -⟩, h2⟩ := hp
    have e := List.mem_singleton.mp h1
    subst e
    cases u_ with
    | nil => rfl
    | cons t_ u_ => exact absurd h2 id
theorem iq_cd {pl : Nat → Nat × Nat} {h : xH} {l : List (Nat × Int × Int)} : ∀ (j_ : Nat) (q_ : (Nat × Nat) × bN × Option ((Nat × Nat) × Int × Int)), (l.map (fun u_ => (pl u_.1, (.inl (u_.2.1, u_.2.2) : bN), (none : Option ((Nat × Nat) × Int × Int)))))[j_]? = some q_ → iqp pl h l (1 + j_) = tv h q_.1.1 q_.1.2 := by
  intro j_ q_ hj
  rw [List.getElem?_map] at hj
  rw [Nat.add_comm 1 j_]
  show (match l[j_]? with
    | some u_ => tv h (pl u_.1).1 (pl u_.1).2
    | none => 0) = _
  cases hl : l[j_]? with
  | none => rw [hl] at hj; cases hj
  | some u_ =>
    rw [hl] at hj
    cases hj
    rfl
theorem imq_ok {RP : lRel} {q_ : lCs} (hq : imq RP q_ = true) : bcoq bZ bIm bTr (lck (lpm RP) 232 338 q_.2.2.2 q_) (lkk (lpm RP) q_) := by
  obtain ⟨⟨es, cn⟩, ⟨Fo, up_⟩, Wx_, Wm_⟩ := q_
  unfold imq at hq
  simp only [Bool.and_eq_true, decide_eq_true_eq] at hq
  obtain ⟨⟨q1_, q2_⟩, q3_, q4_⟩ := hq
  subst q1_
  subst q2_
  intro h ts H_ _ hp hb_
  have e := bPs_one hp
  subst e
  obtain ⟨x_, h', rn, fr_, cp_, ex_, ei⟩ := image_x H_
  have h32 := tv_32 (j_ := 2) H_ bZ_338 (by show 2 < 26; omega) bI_338
  refine ⟨x_, h', iqp (lpm RP) h cn, fun D_ hD => rn D_ (Nat.le_trans (by show 5 ≤ 900; omega) hD), fr_, fun v_ hv => ?_, iq_cd, fun g_ hg => ?_, fun u_ hu => ?_⟩
  · have hv : v_ < 1 := hv
    have ev_ : v_ = 0 := by omega
    subst ev_
    rfl
  · have hg : Fo = some g_ := hg
    subst hg
    rw [ex_]
    exact (imf_ok q3_ h32.2 hb_).symm
  · obtain ⟨w_, hw, e⟩ := List.mem_map.mp hu
    subst e
    have k_ := List.all_eq_true.mp q4_ w_ hw
    unfold imu at k_
    simp only [Bool.or_eq_true, Bool.and_eq_true, decide_eq_true_eq] at k_
    show tv h' (lpm RP w_.1).1 (lpm RP w_.1).2 = bfv (iqp (lpm RP) h cn) w_.2
    rcases k_ with ⟨k1_, k2_⟩ | ⟨⟨k1_, k2_⟩, k3_⟩
    · rw [k1_]
      exact ei.trans (imf_ok k2_ h32.2 hb_).symm
    · have k1_ := Nat.eq_of_beq_eq_true k1_
      have k2_ : (lpm RP w_.1).2 < 768 := Nat.le_of_ble_eq_true k2_
      cases hf : fcd (lpm RP) (339, (lpm RP w_.1).2) cn 1 with
      | none => rw [hf] at k3_; cases k3_
      | some v_ =>
        obtain ⟨i_, b_⟩ := v_
        rw [hf] at k3_
        have k3_ : w_.2 = bvr i_ := of_decide_eq_true k3_
        have hh : iqp (lpm RP) h cn i_ = tv h 339 (lpm RP w_.1).2 := iqp_at hf
        rw [k3_, k1_, cp_ _ k2_]
        simp only [bfv, bvr, bsm]
        rw [hh]
        omega
def rsu (pl : Nat → Nat × Nat) (l : List (Nat × Int × Int)) (u_ : Nat × bF) : Bool := (Nat.beq (pl u_.1).1 339 && Nat.ble ((pl u_.1).2 + 1) 768) && (match fcd pl (340, (pl u_.1).2) l 1 with
  | some (i_, _) => decide (u_.2 = bvr i_)
  | none => false)
def rsq (RP : lRel) (q_ : lCs) : Bool := (decide (q_.1.1 = []) && decide (q_.2.2.2 = iWR)) && ((match fcd (lpm RP) (338, 2) q_.1.2 1 with
  | some (_, b_) => decide (1 ≤ b_.1) || decide (b_.2 ≤ -1)
  | none => false) && ((match q_.2.1.1 with
  | some f_ => (match fcd (lpm RP) (340, 2) q_.1.2 1 with
    | some (i_, _) => decide (f_ = bvr i_)
    | none => false)
  | none => true) && q_.2.1.2.all (rsu (lpm RP) q_.1.2)))
theorem rsq_ok {RP : lRel} {q_ : lCs} (hq : rsq RP q_ = true) : bcoq bZ bIm bTr (lck (lpm RP) 233 338 q_.2.2.2 q_) (lkk (lpm RP) q_) := by
  obtain ⟨⟨es, cn⟩, ⟨Fo, up_⟩, Wx_, Wm_⟩ := q_
  unfold rsq at hq
  simp only [Bool.and_eq_true, decide_eq_true_eq] at hq
  obtain ⟨⟨q1_, q2_⟩, q5_, q3_, q4_⟩ := hq
  subst q1_
  subst q2_
  intro h ts H_ _ hp hb_
  have e := bPs_one hp
  subst e
  have h0 : tv h 338 2 ≠ 0 := by
    cases hc_ : fcd (lpm RP) (338, 2) cn 1 with
    | none => rw [hc_] at q5_; cases q5_
    | some w_ =>
    obtain ⟨i_, b_⟩ := w_
    rw [hc_] at q5_
    simp only [Bool.or_eq_true, decide_eq_true_eq] at q5_
    obtain ⟨j_, u_, e1_, e2_, e3_, e4_⟩ := fcd_ok hc_
    obtain ⟨c_, t_, c1_, c2_, ⟨x_, x0_, x1_, x2_⟩, -⟩ := hb_ (lpm RP u_.1, .inl (u_.2.1, u_.2.2), none) (List.mem_map.mpr ⟨u_, List.mem_of_getElem? e2_, rfl⟩)
    have x0_ : t_ = .int x_ := x0_
    subst x0_
    have ht : tv h 338 2 = x_.toInt := by
      have c1_ : h[(lpm RP u_.1).1]? = some c_ := c1_
      have c2_ : c_.2[(lpm RP u_.1).2]? = some (.int x_) := c2_
      rw [e3_] at c1_ c2_
      simp only [tv, bpat_at c1_, c2_]
    have x1_ : u_.2.1 ≤ x_.toInt := x1_
    have x2_ : x_.toInt ≤ u_.2.2 := x2_
    rw [e4_] at x1_ x2_
    omega
  obtain ⟨x_, h', rn, fr_, cp_, ex_⟩ := restore_x H_ h0
  refine ⟨x_, h', iqp (lpm RP) h cn, fun D_ hD => rn D_ (Nat.le_trans (by show 5 ≤ 900; omega) hD), fr_, fun v_ hv => ?_, iq_cd, fun g_ hg => ?_, fun u_ hu => ?_⟩
  · have hv : v_ < 1 := hv
    have ev_ : v_ = 0 := by omega
    subst ev_
    rfl
  · have hg : Fo = some g_ := hg
    subst hg
    cases hf : fcd (lpm RP) (340, 2) cn 1 with
    | none => rw [hf] at q3_; cases q3_
    | some v_ =>
      obtain ⟨i_, b_⟩ := v_
      rw [hf] at q3_
      have q3_ : g_ = bvr i_ := of_decide_eq_true q3_
      have hh : iqp (lpm RP) h cn i_ = tv h 340 2 := iqp_at hf
      rw [q3_, ex_]
      simp only [bfv, bvr, bsm]
      rw [hh]
      omega
  · obtain ⟨w_, hw, e⟩ := List.mem_map.mp hu
    subst e
    have k_ := List.all_eq_true.mp q4_ w_ hw
    unfold rsu at k_
    simp only [Bool.and_eq_true] at k_
    obtain ⟨⟨k1_, k2_⟩, k3_⟩ := k_
    have k1_ := Nat.eq_of_beq_eq_true k1_
    have k2_ : (lpm RP w_.1).2 < 768 := Nat.le_of_ble_eq_true k2_
    show tv h' (lpm RP w_.1).1 (lpm RP w_.1).2 = bfv (iqp (lpm RP) h cn) w_.2
    cases hf : fcd (lpm RP) (340, (lpm RP w_.1).2) cn 1 with
    | none => rw [hf] at k3_; cases k3_
    | some v_ =>
      obtain ⟨i_, b_⟩ := v_
      rw [hf] at k3_
      have k3_ : w_.2 = bvr i_ := of_decide_eq_true k3_
      have hh : iqp (lpm RP) h cn i_ = tv h 340 (lpm RP w_.1).2 := iqp_at hf
      rw [k3_, k1_, cp_ _ k2_]
      simp only [bfv, bvr, bsm]
      rw [hh]
      omega
