-- ===== the reference's parser: what it lays down can be worked out
theorem bZ_338 : bZ[338]? = some (12, 26) := by decide +kernel
theorem bZ_345 : bZ[345]? = some (20, 124) := by decide +kernel
noncomputable def prun (W : bW) (m_ pc nb : Nat) (stops : List Nat) (J_ : bT) : Option bRs := babs bzf bIm W [] bmpm bmqm bjn bgm blpm bspm bdgm bldm [] 3000 false 4 m_ pc stops nb [J_]
def pchk (o : Option bRs) (f_ : bQ → Bool) (g_ : bRet → Bool) : Bool := match o with
  | none => false
  | some r_ => r_.1.all f_ && r_.2.all g_
/-- a stretch of the parser: where it stops, or what it answers -/
theorem pchk_ok {W : bW} {m_ pc nb : Nat} {stops : List Nat} {J_ : bT} {f_ : bQ → Bool} {g_ : bRet → Bool} (hc_ : pchk (prun W m_ pc nb stops J_) f_ g_ = true) (hn : Nat.ble nb J_.2.1 = true) {p : Nat → Int} {lo : xL} {st : List Jvm.Term} {h : xH} (R : bR bZ bIm p J_ lo st h) :
    (∃ q_ p' lo' st' h', f_ q_ = true ∧ (∀ v_, v_ < nb → p' v_ = p v_) ∧ bR bZ bIm p' q_.2 lo' st' h' ∧ bfr W h h' ∧ bldD 4 m_ pc lo st h q_.1 lo' st' h') ∨ (∃ r0 p' t_ h', g_ r0 = true ∧ (∀ v_, v_ < nb → p' v_ = p v_) ∧ bRt bZ bIm p' r0 t_ h' ∧ bfr W h h' ∧ ∀ D_, 4 ≤ D_ → xrun D_ m_ pc lo st h (t_, h', [])) := by
  unfold pchk at hc_
  cases hr : prun W m_ pc nb stops J_ with
  | none => rw [hr] at hc_; cases hc_
  | some r_ =>
  rw [hr] at hc_
  simp only [Bool.and_eq_true] at hc_
  rcases babs_ok (X_ := bTr) bZ_len bzf_ok bTr_ok (fun _ q_ => absurd q_ List.not_mem_nil) (fun _ q_ => absurd q_ List.not_mem_nil) 3000 false 4 m_ pc stops nb [J_] r_ hr _ List.mem_cons_self (Nat.le_of_ble_eq_true hn) p lo st h R trivial with ⟨q_, hq, p', lo', st', h', a1_, a2, a3, a5, a4⟩ | ⟨r0, hr0, p', t_, h', a1_, a2, a3, a5, a4⟩
  · exact Or.inl ⟨q_, p', lo', st', h', List.all_eq_true.mp hc_.1 q_ hq, a1_, a3, a5, a4⟩
  · exact Or.inr ⟨r0, p', t_, h', List.all_eq_true.mp hc_.2 r0 hr0, a1_, a3, a5, a4⟩
/-- at this place, a case of this state -/
def pis (pc n0_ : Nat) (J_ : bT) (q_ : bQ) : Bool := Nat.beq q_.1 pc && (bnew bIm q_.2.1 q_.2.2.2.2.2 && bmS bIm n0_ (bgm n0_ q_.2 J_) q_.2 J_)
theorem pis_ok {pc n0_ : Nat} {J_ : bT} {q_ : bQ} {p : Nat → Int} {lo : xL} {st : List Jvm.Term} {h : xH} (hp : pis pc n0_ J_ q_ = true) (R : bR bZ bIm p q_.2 lo st h) : q_.1 = pc ∧ bInv bZ bIm h ∧ bR bZ bIm (bsu p n0_ (bgm n0_ q_.2 J_)) J_ lo st h := by
  unfold pis at hp
  simp only [Bool.and_eq_true] at hp
  exact ⟨Nat.eq_of_beq_eq_true hp.1, ⟨bHr_dropn R.1 hp.2.1 R.2.2.2.2.2.2.2.1, R.2.2.2.2.2.2.2.2.1⟩, bmS_ok R hp.2.2⟩
def pno {A_ : Type} (_ : A_) : Bool := false
/-- answers this number; these places hold these forms -/
noncomputable def pans (x_ : Int) (l : List ((Nat × Nat) × bF)) (r_ : bRet) : Bool := bans bzf bIm (some (.inl (x_, x_))) [] r_ && l.all (fun q_ => match blo r_.2.2.2.2.2 q_.1.1 q_.1.2 with
  | some (some (.inl f_)) => decide (f_ = q_.2)
  | _ => false)
theorem pans_ok {x_ : Int} {l : List ((Nat × Nat) × bF)} {r_ : bRet} {p : Nat → Int} {t_ : Option Jvm.Term} {h : xH} (ha_ : pans x_ l r_ = true) (b_ : bRt bZ bIm p r_ t_ h) : bInv bZ bIm h ∧ (∃ y_ : Int32, t_ = some (.int y_) ∧ y_.toInt = x_) ∧ ∀ q_ ∈ l, ∀ z_, bZ[q_.1.1]? = some z_ → q_.1.2 < z_.2 → tv h q_.1.1 q_.1.2 = bfv p q_.2 := by
  unfold pans at ha_
  simp only [Bool.and_eq_true] at ha_
  obtain ⟨k1_, ⟨u_, k2_, y_, k3_, k4_, k5_⟩, -⟩ := bans_ok bzf_ok ha_.1 b_
  refine ⟨k1_, ⟨y_, by rw [k2_, k3_], by have k4_ : x_ ≤ y_.toInt := k4_; have k5_ : y_.toInt ≤ x_ := k5_; omega⟩, ?_⟩
  intro q_ hq z_ hz hj
  have h1 := List.all_eq_true.mp ha_.2 q_ hq
  obtain ⟨g1, g2, g3_, g4, g5_, g6⟩ := b_
  obtain ⟨c_, c1_, c2_, c3_, c4_⟩ := g4.2 _ z_ hz
  have hlt : q_.1.2 < c_.2.length := by omega
  have ht := List.getElem?_eq_getElem hlt
  have k_ := c4_ q_.1.2 _ ht
  cases hb_ : blo r_.2.2.2.2.2 q_.1.1 q_.1.2 with
  | none => rw [hb_] at h1; cases h1
  | some v_ =>
    rw [hb_] at h1 k_
    rcases v_ with _ | (f_ | m_)
    · cases h1
    · have h1 := of_decide_eq_true h1
      subst h1
      obtain ⟨w_, w1_, w2_⟩ := k_
      rw [w1_] at ht
      unfold tv
      rw [bpat_at c1_, ht]
      exact w2_
    · cases h1
section
variable {p : Nat → Int} {G : bE} {n : Nat} {la : bL} {sa : List bV} {ov : bO} {lo : xL} {st : List Jvm.Term} {h : xH}
theorem bHr_0 {ov : bO} (H_ : bHr bZ bIm p [] h) : bHr bZ bIm (fun _ => 0) [] h := bHr_ag (n := 0) (fun v_ hv => absurd hv (Nat.not_lt_zero v_)) rfl H_
/-- what is known of a place holds of it -/
theorem bR_tv (R : bR bZ bIm p (G, n, la, sa, ov) lo st h) {a_ j_ : Nat} {z_ : Nat × Nat} (hz : bZ[a_]? = some z_) (hj : j_ < z_.2) {f_ : bF} (hf : blo ov a_ j_ = some (some (.inl f_))) : tv h a_ j_ = bfv p f_ := by
  obtain ⟨c_, c1_, c2_, c3_, c4_⟩ := R.2.2.2.2.2.2.2.1.2 _ z_ hz
  have hlt : j_ < c_.2.length := by omega
  have ht := List.getElem?_eq_getElem hlt
  have k_ := c4_ j_ _ ht
  rw [hf] at k_
  obtain ⟨w_, w1_, w2_⟩ := k_
  rw [w1_] at ht
  unfold tv
  rw [bpat_at c1_, ht]
  exact w2_
/-- a state of constants and this heap -/
theorem bR_mk (H_ : bInv bZ bIm h) (hl : bLr p la lo) (hs : bSr p sa st) (h1 : bLl 0 la = true) (h2 : bSl 0 sa = true) (hx : xok 354 lo st = true) : bR bZ bIm p ([], 0, la, sa, []) lo st h :=
  ⟨fun v_ l w_ hb_ => (by cases hb_), rfl, h1, h2, rfl, hl, hs, bHr_ag (n := 0) (fun v_ hv => absurd hv (Nat.not_lt_zero v_)) rfl H_.1, H_.2, hx⟩
theorem wth_at : bLr p [(0, wth)] [(0, .index 338)] := by
  intro i_ v_ hv
  rcases i_ with _ | i_
  · have e : some wth = some v_ := hv
    cases e
    exact ⟨.index 338, rfl, List.mem_cons_self, rfl, rfl⟩
  · cases hv
theorem wcn_at {x_ : Int32} : bga p (wcn x_.toInt) (.int x_) := ⟨x_, rfl, by simp only [bfv, bcn, bsm]; omega⟩
/-- a place of numbers, noted as an unknown -/
theorem bR_see (R : bR bZ bIm p (G, n, la, sa, ov) lo st h) (H_ : bInv bZ bIm h) {a_ j_ : Nat} {z_ : Nat × Nat} {l u_ : Int} (hz : bZ[a_]? = some z_) (hj : j_ < z_.2) {l0 u0 : Int} (hI : bIm a_ j_ = some (.inl (l0, u0))) (h1 : l ≤ tv h a_ j_) (h2 : tv h a_ j_ ≤ u_) : bR bZ bIm (bup p n (tv h a_ j_)) ((n, l, u_) :: G, n + 1, la, sa, ((a_, j_), some (.inl (bvr n))) :: ov) lo st h := by
  obtain ⟨c_, x_, c1_, c2_, c3_, -, -⟩ := bint_at H_.1 hz hj hI
  have R1 := bR_new R h1 h2
  exact bR_note R1 c1_ c2_ bvr_l ⟨x_, rfl, by rw [bvr_v, c3_]⟩
/-- as a number -/
theorem bR_know (R : bR bZ bIm p (G, n, la, sa, ov) lo st h) (H_ : bInv bZ bIm h) {a_ j_ : Nat} {z_ : Nat × Nat} (hz : bZ[a_]? = some z_) (hj : j_ < z_.2) {l0 u0 : Int} (hI : bIm a_ j_ = some (.inl (l0, u0))) {k_ : Int} (h1 : tv h a_ j_ = k_) : bR bZ bIm p (G, n, la, sa, ((a_, j_), wcn k_) :: ov) lo st h := by
  obtain ⟨c_, x_, c1_, c2_, c3_, -, -⟩ := bint_at H_.1 hz hj hI
  exact bR_note R c1_ c2_ rfl ⟨x_, rfl, by rw [← h1, c3_]; simp only [bfv, bcn, bsm]; omega⟩
end
-- ===== lays
theorem pIall : ((((wki 0 60 338 7 && wki 0 5 338 8) && (wki 0 60 338 9 && wki 0 60 339 6)) && wki 0 1 338 10) && ((List.range 124).all (fun j_ => wki (-2147483648) 2147483647 345 j_) && (List.range 60).all (fun j_ => wki (-2147483648) 2147483647 339 (684 + j_)))) = true := by decide +kernel
theorem pI7 : bIm 338 7 = some (.inl (0, 60)) := by
  have h := pIall
  simp only [Bool.and_eq_true] at h
  exact wki_ok h.1.1.1.1
theorem pI8 : bIm 338 8 = some (.inl (0, 5)) := by
  have h := pIall
  simp only [Bool.and_eq_true] at h
  exact wki_ok h.1.1.1.2
theorem pI9 : bIm 338 9 = some (.inl (0, 60)) := by
  have h := pIall
  simp only [Bool.and_eq_true] at h
  exact wki_ok h.1.1.2.1
theorem pIt : bIm 339 6 = some (.inl (0, 60)) := by
  have h := pIall
  simp only [Bool.and_eq_true] at h
  exact wki_ok h.1.1.2.2
theorem pIs {j_ : Nat} (hj : j_ < 124) : bIm 345 j_ = some (.inl (-2147483648, 2147483647)) := by
  have h := pIall
  simp only [Bool.and_eq_true] at h
  exact wki_ok (List.all_eq_true.mp h.2.1 j_ (List.mem_range.mpr hj))
theorem pItape {j_ : Nat} (hj : j_ < 60) : bIm 339 (684 + j_) = some (.inl (-2147483648, 2147483647)) := by
  have h := pIall
  simp only [Bool.and_eq_true] at h
  exact wki_ok (List.all_eq_true.mp h.2.2 j_ (List.mem_range.mpr hj))
def pWl (s_ : Nat) : bW := [(338, 338, 9, 9), (345, 345, 2 * s_, 2 * s_ + 1)]
def pJl (s_ : Nat) : bT := ([(1, -2147483648, 2147483647), (0, -2147483648, 2147483647)], 2, [(0, wth), (1, some (.inl (bvr 0))), (2, some (.inl (bvr 1)))], [], [((338, 9), wcn (s_ : Int))])
noncomputable def playc (s_ : Nat) : Bool := pchk (prun (pWl s_) 175 0 2 [] (pJl s_)) pno (fun r_ => (match r_.1 with
  | none => true
  | some _ => false) && (bnew bIm r_.2.1 r_.2.2.2.2.2 && [((345, 2 * s_), bvr 0), ((345, 2 * s_ + 1), bvr 1), ((338, 9), bcn ((s_ : Int) + 1))].all (fun q_ => match blo r_.2.2.2.2.2 q_.1.1 q_.1.2 with
  | some (some (.inl f_)) => decide (f_ = q_.2)
  | _ => false)))
theorem playc_all : (List.range 60).all playc = true := by decide +kernel
/-- these places alone are written: the others hold what they held -/
theorem pbiw {W : bW} {h h' : xH} (hf : bfr W h h') {a_ j_ : Nat} (hw : W.all (fun q_ => (Nat.ble (q_.2.1 + 1) a_ || Nat.ble (a_ + 1) q_.1) || (Nat.ble (q_.2.2.2 + 1) j_ || Nat.ble (j_ + 1) q_.2.2.1)) = true) : tv h' a_ j_ = tv h a_ j_ := by
  refine tv_eq (hf a_ j_ ?_)
  cases e : biw W a_ j_ with
  | false => rfl
  | true =>
    obtain ⟨q_, hq, hb_⟩ := List.any_eq_true.mp e
    have k_ := List.all_eq_true.mp hw q_ hq
    simp only [Bool.and_eq_true] at hb_
    simp only [Bool.or_eq_true] at k_
    have b1 := Nat.le_of_ble_eq_true hb_.1.1
    have b2 := Nat.le_of_ble_eq_true hb_.1.2
    have b3 := Nat.le_of_ble_eq_true hb_.2.1
    have b4 := Nat.le_of_ble_eq_true hb_.2.2
    rcases k_ with (k_ | k_) | (k_ | k_)
    · have := Nat.le_of_ble_eq_true k_; omega
    · have := Nat.le_of_ble_eq_true k_; omega
    · have := Nat.le_of_ble_eq_true k_; omega
    · have := Nat.le_of_ble_eq_true k_; omega
theorem lays_ok {h : xH} {s_ : Nat} {w_ v_ : Int32} (H_ : bInv bZ bIm h) (hs : s_ < 60) (h9 : tv h 338 9 = (s_ : Int)) : ∃ h', (∀ D_, 4 ≤ D_ → xrun D_ 175 0 [(0, .index 338), (1, .int w_), (2, .int v_)] [] h (none, h', [])) ∧ bInv bZ bIm h' ∧ bfr (pWl s_) h h' ∧ tv h' 345 (2 * s_) = w_.toInt ∧ tv h' 345 (2 * s_ + 1) = v_.toInt ∧ tv h' 338 9 = (s_ : Int) + 1 := by
  have R0_ : bR bZ bIm (fun _ => 0) ([], 0, [(0, wth), (1, wcn w_.toInt), (2, wcn v_.toInt)], [], []) [(0, .index 338), (1, .int w_), (2, .int v_)] [] h := bR_mk H_ (fun i_ u_ hu => by
    rcases i_ with _ | _ | _ | i_
    · have e : some wth = some u_ := hu
      cases e
      exact ⟨.index 338, rfl, List.mem_cons_self, rfl, rfl⟩
    · have e : some (wcn w_.toInt) = some u_ := hu
      cases e
      exact ⟨.int w_, rfl, wcn_at⟩
    · have e : some (wcn v_.toInt) = some u_ := hu
      cases e
      exact ⟨.int v_, rfl, wcn_at⟩
    · cases hu) trivial rfl rfl rfl
  have R1 := bR_new (x := v_.toInt) (bR_new (x := w_.toInt) R0_ (bi_lo w_) (bi_hi w_)) (bi_lo v_) (bi_hi v_)
  have R2 : bR bZ bIm (bup (bup (fun _ => 0) 0 w_.toInt) 1 v_.toInt) ([(1, -2147483648, 2147483647), (0, -2147483648, 2147483647)], 2, [(0, wth), (1, some (.inl (bvr 0))), (2, some (.inl (bvr 1)))], [], []) [(0, .index 338), (1, .int w_), (2, .int v_)] [] h := by
    obtain ⟨r1_, r2, r3, r4, r5_, r6, r7, r8, r9, rx_⟩ := R1
    refine ⟨r1_, r2, rfl, r4, r5_, ?_, r7, r8, r9, rx_⟩
    intro i_ u_ hu
    rcases i_ with _ | _ | _ | i_
    · have e : some wth = some u_ := hu
      cases e
      exact ⟨.index 338, rfl, List.mem_cons_self, rfl, rfl⟩
    · have e : some (some (.inl (bvr 0))) = some u_ := hu
      cases e
      refine ⟨.int w_, rfl, w_, rfl, ?_⟩
      simp only [bfv, bvr, bsm]
      rw [bup_ne (by omega), bup_self]
      omega
    · have e : some (some (.inl (bvr 1))) = some u_ := hu
      cases e
      exact ⟨.int v_, rfl, v_, rfl, bvr_v.symm⟩
    · cases hu
  have R3 := bR_know R2 H_ bZ_338 (by show 9 < 26; omega) pI9 h9
  have hc_ := List.all_eq_true.mp playc_all s_ (List.mem_range.mpr hs)
  rcases pchk_ok hc_ rfl R3 with ⟨q_, -, -, -, -, f_, -⟩ | ⟨r0, p', t_, h', g_, a1_, a3, a5, a4⟩
  · cases f_
  · simp only [Bool.and_eq_true] at g_
    obtain ⟨g1, g2, g3_⟩ := g_
    obtain ⟨b1, b2, b3, b4, b5, b6⟩ := a3
    cases hr : r0.1 with
    | some v_ => rw [hr] at g1; cases g1
    | none =>
    rw [hr] at b6
    have b6 : t_ = none := b6
    subst b6
    have vals_ : ∀ q_ ∈ ([((345, 2 * s_), bvr 0), ((345, 2 * s_ + 1), bvr 1), ((338, 9), bcn ((s_ : Int) + 1))] : List ((Nat × Nat) × bF)), ∀ z_, bZ[q_.1.1]? = some z_ → q_.1.2 < z_.2 → tv h' q_.1.1 q_.1.2 = bfv p' q_.2 := by
      intro q_ hq z_ hz hj
      have h1 := List.all_eq_true.mp g3_ q_ hq
      obtain ⟨c_, c1_, c2_, c3_, c4_⟩ := b4.2 _ z_ hz
      have hlt : q_.1.2 < c_.2.length := by omega
      have ht := List.getElem?_eq_getElem hlt
      have k_ := c4_ q_.1.2 _ ht
      cases hb_ : blo r0.2.2.2.2.2 q_.1.1 q_.1.2 with
      | none => rw [hb_] at h1; cases h1
      | some v_ =>
        rw [hb_] at h1 k_
        rcases v_ with _ | (f_ | m_)
        · cases h1
        · have h1 := of_decide_eq_true h1
          subst h1
          obtain ⟨w_, w1_, w2_⟩ := k_
          rw [w1_] at ht
          unfold tv
          rw [bpat_at c1_, ht]
          exact w2_
        · cases h1
    have e0_ : p' 0 = w_.toInt := by rw [a1_ 0 (by omega), bup_ne (by omega), bup_self]
    have e1_ : p' 1 = v_.toInt := by rw [a1_ 1 (by omega), bup_self]
    have v0_ := vals_ _ List.mem_cons_self _ bZ_345 (by show 2 * s_ < 124; omega)
    have v1_ := vals_ _ (List.mem_cons_of_mem _ List.mem_cons_self) _ bZ_345 (by show 2 * s_ + 1 < 124; omega)
    have v2 := vals_ _ (List.mem_cons_of_mem _ (List.mem_cons_of_mem _ List.mem_cons_self)) _ bZ_338 (by show 9 < 26; omega)
    simp only [bfv, bvr, bcn, bsm] at v0_ v1_ v2
    exact ⟨h', a4, ⟨bHr_dropn b1 g2 b4, b5⟩, a5, by omega, by omega, by omega⟩
