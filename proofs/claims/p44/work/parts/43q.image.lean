-- ===== IMAGE and RESTORE keep the texts such that they can be worked out
def cA (a_ b_ : Nat) : bT := ([], 0, [(0, some (.inr [.index a_])), (1, some (.inr [.index b_]))], [], [])
noncomputable def ckn (a_ b_ : Nat) : Bool := pchk (prun [] 138 0 0 [2] (cA a_ b_)) (pis 2 0 (cH a_ b_ 0)) pno
theorem ckn_all : (ckn 339 340 && ckn 340 339) = true := by decide +kernel
def pcas (m_ pc cm : Nat) : Bool := match xcd m_ pc with
  | some (.invokestatic _, _, [_, c_, _, _]) => Nat.beq c_ cm
  | _ => false
theorem pcas_ok {m_ pc cm : Nat} (h : pcas m_ pc cm = true) : ∃ idx_ ln p0_ a_ b_, xcd m_ pc = some (.invokestatic idx_, ln, [p0_, cm, a_, b_]) := by
  unfold pcas at h
  split at h
  · rename_i idx_ ln p0_ c_ a_ b_ e
    rw [← Nat.eq_of_beq_eq_true h]
    exact ⟨idx_, ln, p0_, a_, b_, e⟩
  · cases h
theorem ttx_mv {h h' : xH} {a_ a' b_ : Nat} (e : ∀ j_, b_ ≤ j_ → j_ ≤ b_ + 120 → tv h' a' j_ = tv h a_ j_) (H_ : ttx h a_ b_) : ttx h' a' b_ := by
  obtain ⟨h1, g_, h2⟩ := H_
  have e0_ := e b_ (Nat.le_refl _) (by omega)
  refine ⟨by rw [e0_]; exact h1, g_, ?_⟩
  rw [e0_, tcode_eq (h := h) (a_ := a_) (b_ := b_ + 1) (fun j_ hj => e (b_ + 1 + j_) (by omega) (by omega))]
  exact h2
theorem bZ_340 : bZ[340]? = some (20, 768) := by decide +kernel
theorem carry_ok {a_ b_ : Nat} (ha_ : bZ[a_]? = some (20, 768)) (hb_ : bZ[b_]? = some (20, 768)) (hab : a_ ≠ b_) (hk0 : ckn a_ b_ = true) (hk1 : ∀ k_, k_ < 768 → ckc a_ b_ k_ = true) (hk2 : cke a_ b_ = true) (hia : xidx 354 (.index a_) = true) (hib : xidx 354 (.index b_) = true) (hx : xok 354 [(0, .index a_), (1, .index b_)] [] = true) {h : xH} (H_ : bInv bZ bIm h) : ∃ h', (∀ D_, 4 ≤ D_ → xrun D_ 138 0 [(0, .index a_), (1, .index b_)] [] h (none, h', [])) ∧ bInv bZ bIm h' ∧ bfr [(b_, b_, 0, 767)] h h' ∧ (∀ i_, i_ < 768 → tv h' b_ i_ = tv h a_ i_) := by
  have R0_ : bR bZ bIm (fun _ => 0) (cA a_ b_) [(0, .index a_), (1, .index b_)] [] h := bR_mk H_ (fun i_ v_ hv => by
    rcases i_ with _ | _ | i_
    · have e : some (some (.inr [.index a_])) = some v_ := hv
      cases e
      exact ⟨.index a_, rfl, List.mem_cons_self, rfl, hia⟩
    · have e : some (some (.inr [.index b_])) = some v_ := hv
      cases e
      exact ⟨.index b_, rfl, List.mem_cons_self, rfl, hib⟩
    · cases hv) trivial rfl rfl hx
  unfold ckn at hk0
  rcases pchk_ok hk0 rfl R0_ with ⟨q_, p1_, lo1, st1_, h1, f_, -, R3, fr_, ld⟩ | ⟨r_, -, -, -, f_, -⟩
  · obtain ⟨e1_, -, R4⟩ := pis_ok f_ R3
    rw [e1_] at ld
    have est := pstk R4
    subst est
    obtain ⟨h2, v1_, v2, v3, v4_⟩ := cloop ha_ hb_ hab hk1 hk2 768 0 _ lo1 h1 rfl R4
    refine ⟨h2, fun D_ hD => ld D_ hD _ (v1_ D_ hD), v2, fun a' j' hj => (v3 a' j' hj).trans (fr_ a' j' rfl), fun i_ hi_ => ?_⟩
    rw [v4_ i_ hi_, if_neg (Nat.not_lt_zero i_)]
    exact pbiw fr_ rfl
  · cases f_
def cS (a_ b_ : Nat) : bT := ([], 0, [(0, wth)], [some (.inr [.index b_]), some (.inr [.index a_])], [])
noncomputable def cim : Bool :=
  (pchk (prun [] 232 0 0 [8] lJ0) (pis 8 0 (cS 339 340)) pno) &&
  ((pchk (prun [(338, 338, 2, 2)] 232 11 0 [] lJ0) pno (bans bzf bIm (some wany) [])) && pcas 232 8 138)
noncomputable def cre : Bool :=
  (pchk (prun [(341, 341, 2, 2)] 233 0 0 [21] lJ0) (pis 21 0 (cS 340 339)) (bans bzf bIm (some wany) [])) &&
  ((pchk (prun [] 233 24 0 [] lJ0) pno (bans bzf bIm (some wany) [])) && pcas 233 21 138)
theorem cim_ok : cim = true := by decide +kernel
theorem cre_ok : cre = true := by decide +kernel
theorem c138 : (Nat.beq (xn 138) 2 && Nat.ble 2 (xm 138)) = true := by decide +kernel
section
variable {p : Nat → Int} {G : bE} {n : Nat} {la : bL} {ov : bO} {lo : xL} {st : List Jvm.Term} {h h1 : xH} {m_ pc d_ : Nat}
theorem pcallS {a_ b_ : Nat} (hcal : pcas m_ pc 138 = true) (R : bR bZ bIm p (G, n, la, [some (.inr [.index b_]), some (.inr [.index a_])], ov) lo st h) (Hr : ∀ D_, d_ ≤ D_ → xrun D_ 138 0 [(0, .index a_), (1, .index b_)] [] h (none, h1, [])) : bldD (d_ + 1) m_ pc lo st h (pc + 3) lo [] h1 := by
  obtain ⟨idx_, ln, p0_, a1_, b1, hcd⟩ := pcas_ok hcal
  obtain ⟨t0_, s0_, rfl⟩ := bR_top R
  obtain ⟨R1, -, g0⟩ := bR_pop R
  have e0_ := List.mem_singleton.mp g0.1
  subst e0_
  obtain ⟨t1_, s1_, rfl⟩ := bR_top R1
  obtain ⟨R2, -, g1⟩ := bR_pop R1
  have e1_ := List.mem_singleton.mp g1.1
  subst e1_
  have e3_ : s1_ = [] := by
    have r7 : bSr p [] s1_ := R2.2.2.2.2.2.2.1
    cases s1_ with
    | nil => rfl
    | cons a_ t_ => exact absurd r7 id
  subst e3_
  have hlen : h.length = 354 := R.2.2.2.2.2.2.2.1.1.trans bZ_len
  have hx := R2.2.2.2.2.2.2.2.2.2
  unfold xok at hx
  simp only [Bool.and_eq_true] at hx
  have kk := c138
  simp only [Bool.and_eq_true] at kk
  obtain ⟨k1_, k3_⟩ := kk
  intro D_ hD o H_
  obtain ⟨D', rfl⟩ : ∃ D', D_ = D' + 1 := ⟨D_ - 1, by omega⟩
  refine xrun_static (as := [.index a_, .index b_]) (s' := []) (v := none) hcd ?_ ?_ (Hr D' (by omega)) H_
  · rw [Nat.eq_of_beq_eq_true k1_]
    rfl
  · simp only [Bool.and_eq_true, xcc]
    rw [hlen]
    exact ⟨k3_, rfl, rfl, hx.1, rfl⟩
end
theorem t338 {h : xH} (H_ : bInv bZ bIm h) : bR bZ bIm (fun _ => 0) lJ0 [(0, .index 338)] [] h := bR_mk H_ wth_at trivial rfl rfl rfl
theorem image_ok : ∃ d_, d_ ≤ 900 ∧ ∀ (h : xH), bInv bZ bIm h → bXm h → ∃ t_ h', (∀ D_, d_ ≤ D_ → xrun D_ 232 0 [(0, .index 338)] [] h (t_, h', [])) ∧ bInv bZ bIm h' ∧ bXm h' ∧ bfr [(338, 338, 2, 2), (340, 340, 0, 767)] h h' ∧ bav (some wany) t_ := by
  refine ⟨5, by omega, fun h H_ hX => ?_⟩
  have k_ := cim_ok
  simp only [cim, Bool.and_eq_true] at k_
  obtain ⟨k1_, k2_, k3_⟩ := k_
  have kc_ := ckn_all
  have ke := cke_all
  simp only [Bool.and_eq_true] at kc_ ke
  rcases pchk_ok k1_ rfl (t338 H_) with ⟨q_, p1_, lo1, st1_, h1, f_, -, R3, fr_, ld⟩ | ⟨r_, -, -, -, f_, -⟩
  · obtain ⟨e1_, H1_, R4⟩ := pis_ok f_ R3
    rw [e1_] at ld
    obtain ⟨h2, v1_, v2, v3, v4_⟩ := carry_ok (a_ := 339) (b_ := 340) bZ_339 bZ_340 (by decide) kc_.1 (fun k_ hk => cki_ok hk) ke.1 rfl rfl rfl H1_
    have L_ := lok_of R4 rfl
    have ld2 := pcallS k3_ R4 v1_
    rcases pchk_ok k2_ rfl (lok_R (p := fun _ => 0) (sa := []) (st := []) v2 L_ trivial rfl rfl) with ⟨q9_, -, -, -, -, f9_, -⟩ | ⟨r9, p9_, t9, h9, f9_, -, B9, fr9, rn9⟩
    · cases f9_
    · obtain ⟨i1_, i2_, -⟩ := bans_ok bzf_ok f9_ B9
      have X2 : bXm h2 := by
        have s9 : ∀ j_, tv h2 339 j_ = tv h 339 j_ := fun j_ => by
          rw [show tv h2 339 j_ = tv h1 339 j_ from pbiw v3 rfl]
          exact pbiw fr_ rfl
        have s0_ : ∀ j_, j_ < 768 → tv h2 340 j_ = tv h 339 j_ := fun j_ hj => by
          rw [v4_ j_ hj]
          exact pbiw fr_ rfl
        exact ⟨⟨ttx_eq (fun j_ j1 j2_ => s9 j_) hX.1.1, ttx_eq (fun j_ j1 j2_ => s9 j_) hX.1.2⟩, ⟨ttx_mv (fun j_ j1 j2_ => s0_ j_ (by omega)) hX.1.1, ttx_mv (fun j_ j1 j2_ => s0_ j_ (by omega)) hX.1.2⟩⟩
      have W2_ : bfr [(338, 338, 2, 2), (340, 340, 0, 767)] h h2 := fun a_ j_ hj => (v3 a_ j_ (bws_ok (V := [(340, 340, 0, 767)]) (W := [(338, 338, 2, 2), (340, 340, 0, 767)]) rfl hj)).trans (fr_ a_ j_ rfl)
      exact ⟨t9, h9, fun D_ hD => ld D_ (by omega) _ (ld2 D_ hD _ (rn9 D_ (by omega))), i1_, bxw_ok (W := [(338, 338, 2, 2)]) (by decide) h2 h9 fr9 X2, bfr_tt W2_ (fun a_ j_ hj => fr9 a_ j_ (bws_ok (V := [(338, 338, 2, 2)]) (W := [(338, 338, 2, 2), (340, 340, 0, 767)]) rfl hj)), i2_⟩
  · cases f_
def xWR : bW := [(339, 339, 0, 767), (341, 341, 2, 2)]
theorem restore_ok : ∃ d_, d_ ≤ 900 ∧ ∀ (h : xH), bInv bZ bIm h → bXm h → ∃ t_ h', (∀ D_, d_ ≤ D_ → xrun D_ 233 0 [(0, .index 338)] [] h (t_, h', [])) ∧ bInv bZ bIm h' ∧ bXm h' ∧ bfr xWR h h' ∧ bav (some wany) t_ := by
  refine ⟨5, by omega, fun h H_ hX => ?_⟩
  have k_ := cre_ok
  simp only [cre, Bool.and_eq_true] at k_
  obtain ⟨k1_, k2_, k3_⟩ := k_
  have kc_ := ckn_all
  have ke := cke_all
  simp only [Bool.and_eq_true] at kc_ ke
  rcases pchk_ok k1_ rfl (t338 H_) with ⟨q_, p1_, lo1, st1_, h1, f_, -, R3, fr_, ld⟩ | ⟨r9, p9_, t9, h9, f9_, -, B9, fr9, rn9⟩
  · obtain ⟨e1_, H1_, R4⟩ := pis_ok f_ R3
    rw [e1_] at ld
    obtain ⟨h2, v1_, v2, v3, v4_⟩ := carry_ok (a_ := 340) (b_ := 339) bZ_340 bZ_339 (by decide) kc_.2 (fun k_ hk => ckr_ok hk) ke.2 rfl rfl rfl H1_
    have L_ := lok_of R4 rfl
    have ld2 := pcallS k3_ R4 v1_
    rcases pchk_ok k2_ rfl (lok_R (p := fun _ => 0) (sa := []) (st := []) v2 L_ trivial rfl rfl) with ⟨q9_, -, -, -, -, f9_, -⟩ | ⟨r9, p9_, t9, h9, f9_, -, B9, fr9, rn9⟩
    · cases f9_
    · obtain ⟨i1_, i2_, -⟩ := bans_ok bzf_ok f9_ B9
      have X2 : bXm h2 := by
        have s9 : ∀ j_, tv h2 340 j_ = tv h 340 j_ := fun j_ => by
          rw [show tv h2 340 j_ = tv h1 340 j_ from pbiw v3 rfl]
          exact pbiw fr_ rfl
        have s0_ : ∀ j_, j_ < 768 → tv h2 339 j_ = tv h 340 j_ := fun j_ hj => by
          rw [v4_ j_ hj]
          exact pbiw fr_ rfl
        exact ⟨⟨ttx_mv (fun j_ j1 j2_ => s0_ j_ (by omega)) hX.2.1, ttx_mv (fun j_ j1 j2_ => s0_ j_ (by omega)) hX.2.2⟩, ⟨ttx_eq (fun j_ j1 j2_ => s9 j_) hX.2.1, ttx_eq (fun j_ j1 j2_ => s9 j_) hX.2.2⟩⟩
      have W2_ : bfr xWR h h2 := fun a_ j_ hj => (v3 a_ j_ (bws_ok (V := [(339, 339, 0, 767)]) (W := xWR) rfl hj)).trans (fr_ a_ j_ (bws_ok (V := [(341, 341, 2, 2)]) (W := xWR) rfl hj))
      exact ⟨t9, h9, fun D_ hD => ld D_ (by omega) _ (ld2 D_ hD _ (rn9 D_ (by omega))), i1_, bxw_ok (W := []) (by decide) h2 h9 fr9 X2, bfr_tt W2_ (fun a_ j_ hj => fr9 a_ j_ (bws_ok (V := []) (W := xWR) rfl hj)), i2_⟩
  · obtain ⟨i1_, i2_, -⟩ := bans_ok bzf_ok f9_ B9
    exact ⟨t9, h9, fun D_ hD => rn9 D_ (by omega), i1_, bxw_ok (W := [(341, 341, 2, 2)]) (by decide) h h9 fr9 hX, fun a_ j_ hj => fr9 a_ j_ (bws_ok (V := [(341, 341, 2, 2)]) (W := xWR) rfl hj), i2_⟩
