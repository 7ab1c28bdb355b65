-- ===== rows: a class's Row (its cell a, its numbers b), the reference's row (in cell b from place q on)
def rwx (h_ : xH) (a_ b_ m_ : Nat) (l : List Int32) : Prop := (bcq h_ a_ 6 2 ∧ bcq h_ b_ 20 m_) ∧ ((bpat h_ a_ 0 = some (.index b_) ∧ bpat h_ a_ 1 = some (.int (Int32.ofNat l.length))) ∧ (l.length ≤ m_ ∧ ∀ j_ x_, l[j_]? = some x_ → bpat h_ b_ j_ = some (.int x_)))
def rwm (h_ : xH) (b_ q_ n_ : Nat) (l : List Int32) : Prop := bcq h_ b_ 20 n_ ∧ (bpat h_ b_ q_ = some (.int (Int32.ofNat l.length)) ∧ ∀ j_ x_, l[j_]? = some x_ → bpat h_ b_ (q_ + 1 + j_) = some (.int x_))
theorem i32n {i_ : Nat} (h_ : i_ < 2147483648) : (Int32.ofNat i_).toInt = (i_ : Int) := Int32.toInt_ofNat_of_lt (by omega)
theorem i32t {i_ : Nat} (h_ : i_ < 2147483648) : (Int32.ofNat i_).toInt.toNat = i_ := by
  rw [i32n h_]
  rfl
theorem i32s (i_ : Nat) : Int32.ofNat i_ + 1 = Int32.ofNat (i_ + 1) := (Int32.ofNat_add i_ 1).symm
theorem bcq_ne {h_ : xH} {a_ b_ k_ k' l l' : Nat} (h1 : bcq h_ a_ k_ l) (h2 : bcq h_ b_ k' l') (hk : ¬ k_ = k') : ¬ a_ = b_ := by
  intro e_
  subst e_
  obtain ⟨c_, c1_, c2_, -⟩ := h1
  obtain ⟨d_, d1_, d2_, -⟩ := h2
  rw [c1_] at d1_
  cases d1_
  exact hk (c2_.symm.trans d2_)
theorem rwx_keep {h_ h' : xH} {a_ b_ m_ : Nat} {l : List Int32} (R_ : rwx h_ a_ b_ m_ l) (hm_ : ysm h_ h') (f_ : ∀ c_ j_, c_ = a_ ∨ c_ = b_ → bpat h' c_ j_ = bpat h_ c_ j_) : rwx h' a_ b_ m_ l := by
  obtain ⟨⟨R1, R2⟩, ⟨R3, R4⟩, R5, R6⟩ := R_
  exact ⟨⟨hm_.2 _ _ _ R1, hm_.2 _ _ _ R2⟩, ⟨(f_ a_ 0 (Or.inl rfl)).trans R3, (f_ a_ 1 (Or.inl rfl)).trans R4⟩, R5, fun j_ x_ hx => (f_ b_ j_ (Or.inr rfl)).trans (R6 j_ x_ hx)⟩
theorem rwx_set {h_ h' : xH} {a_ b_ m_ i_ : Nat} {l : List Int32} {y_ : Int32} (R_ : rwx h_ a_ b_ m_ l) (hm_ : ysm h_ h') (hi_ : i_ < l.length) (e_ : bpat h' b_ i_ = some (.int y_)) (f_ : ∀ c_ j_, ¬ (c_ = b_ ∧ j_ = i_) → bpat h' c_ j_ = bpat h_ c_ j_) : rwx h' a_ b_ m_ (l.set i_ y_) := by
  obtain ⟨⟨R1, R2⟩, ⟨R3, R4⟩, R5, R6⟩ := R_
  have ne_ : ¬ a_ = b_ := bcq_ne R1 R2 (by decide)
  refine ⟨⟨hm_.2 _ _ _ R1, hm_.2 _ _ _ R2⟩, ⟨(f_ a_ 0 (fun q_ => ne_ q_.1)).trans R3, ?_⟩, ?_, fun j_ x_ hx => ?_⟩
  · rw [List.length_set]
    exact (f_ a_ 1 (fun q_ => ne_ q_.1)).trans R4
  · rw [List.length_set]
    exact R5
  · by_cases q_ : j_ = i_
    · subst q_
      rw [List.getElem?_set_self hi_] at hx
      cases hx
      exact e_
    · rw [List.getElem?_set_ne (fun z_ => q_ z_.symm)] at hx
      exact (f_ b_ j_ (fun z_ => q_ z_.2)).trans (R6 j_ x_ hx)
theorem rwm_keep {h_ h' : xH} {b_ q_ n_ : Nat} {l : List Int32} (R_ : rwm h_ b_ q_ n_ l) (hm_ : ysm h_ h') (f_ : ∀ j_, q_ ≤ j_ → j_ ≤ q_ + l.length → bpat h' b_ j_ = bpat h_ b_ j_) : rwm h' b_ q_ n_ l := by
  obtain ⟨R1, R2, R3⟩ := R_
  refine ⟨hm_.2 _ _ _ R1, (f_ q_ (by omega) (by omega)).trans R2, fun j_ x_ hx => (f_ _ (by omega) ?_).trans (R3 j_ x_ hx)⟩
  have := (List.getElem?_eq_some_iff.mp hx).1
  omega
theorem rwm_set {h_ h' : xH} {b_ q_ n_ i_ : Nat} {l : List Int32} {y_ : Int32} (R_ : rwm h_ b_ q_ n_ l) (hm_ : ysm h_ h') (hi_ : i_ < l.length) (e_ : bpat h' b_ (q_ + 1 + i_) = some (.int y_)) (f_ : ∀ c_ j_, ¬ (c_ = b_ ∧ j_ = q_ + 1 + i_) → bpat h' c_ j_ = bpat h_ c_ j_) : rwm h' b_ q_ n_ (l.set i_ y_) := by
  obtain ⟨R1, R2, R3⟩ := R_
  refine ⟨hm_.2 _ _ _ R1, ?_, fun j_ x_ hx => ?_⟩
  · rw [List.length_set]
    exact (f_ b_ q_ (by omega)).trans R2
  · by_cases z_ : j_ = i_
    · subst z_
      rw [List.getElem?_set_self hi_] at hx
      cases hx
      exact e_
    · rw [List.getElem?_set_ne (fun u_ => z_ u_.symm)] at hx
      exact (f_ b_ _ (by omega)).trans (R3 j_ x_ hx)
-- ===== a loop that makes each number of a row another one
def mpf (f_ : Nat → Int32 → Int32) (i_ : Nat) (l : List Int32) : List Int32 := l.mapIdx (fun j_ y_ => if i_ ≤ j_ then f_ j_ y_ else y_)
theorem mpf_end {f_ : Nat → Int32 → Int32} {i_ : Nat} {l : List Int32} (h_ : l.length ≤ i_) : mpf f_ i_ l = l := by
  refine List.ext_getElem? (fun j_ => ?_)
  unfold mpf
  rw [List.getElem?_mapIdx]
  cases e_ : l[j_]? with
  | none => rfl
  | some x_ =>
    have := (List.getElem?_eq_some_iff.mp e_).1
    show some (if i_ ≤ j_ then f_ j_ x_ else x_) = some x_
    rw [if_neg (by omega)]
theorem mpf_step {f_ : Nat → Int32 → Int32} {i_ d_ : Nat} {l : List Int32} {x_ : Int32} (hx : l[i_]? = some x_) (hd_ : 1 ≤ d_) (hf : ∀ e_ y_, 0 < e_ → e_ < d_ → f_ (i_ + e_) y_ = y_) : mpf f_ (i_ + d_) (l.set i_ (f_ i_ x_)) = mpf f_ i_ l := by
  have hi_ := (List.getElem?_eq_some_iff.mp hx).1
  refine List.ext_getElem? (fun j_ => ?_)
  unfold mpf
  rw [List.getElem?_mapIdx, List.getElem?_mapIdx]
  by_cases q_ : j_ = i_
  · subst q_
    rw [List.getElem?_set_self hi_, hx]
    show some (if j_ + d_ ≤ j_ then f_ j_ (f_ j_ x_) else f_ j_ x_) = some (if j_ ≤ j_ then f_ j_ x_ else x_)
    rw [if_neg (by omega), if_pos (by omega)]
  · rw [List.getElem?_set_ne (fun z_ => q_ z_.symm)]
    cases e_ : l[j_]? with
    | none => rfl
    | some y_ =>
      show some (if i_ + d_ ≤ j_ then f_ j_ y_ else y_) = some (if i_ ≤ j_ then f_ j_ y_ else y_)
      by_cases u_ : i_ + d_ ≤ j_
      · rw [if_pos u_, if_pos (by omega)]
      · rw [if_neg u_]
        by_cases u2_ : i_ ≤ j_
        · rw [if_pos u2_]
          have k_ := hf (j_ - i_) y_ (by omega) (by omega)
          rw [show i_ + (j_ - i_) = j_ by omega] at k_
          rw [k_]
        · rw [if_neg u2_]
/-- by its turns -/
theorem map_loop {mi pc d_ dp : Nat} {HD : Nat → xL → Prop} {RW : xH → List Int32 → Prop} {FR : xH → xH → Prop} {f_ : Nat → Int32 → Int32} {E_ : xL → xH → xH → Prop} (hd_ : 1 ≤ d_) (hf : ∀ i_ lo_, HD i_ lo_ → ∀ e_ y_, 0 < e_ → e_ < d_ → f_ (i_ + e_) y_ = y_)
    (ht : ∀ a_ b_ c_, FR a_ b_ → FR b_ c_ → FR a_ c_) (he : ∀ lo_ lo' h_ h1 h2, bldD dp mi pc lo_ [] h_ pc lo' [] h1 → E_ lo' h1 h2 → E_ lo_ h_ h2)
    (turn_ : ∀ i_ l h_ lo_ x_, RW h_ l → l[i_]? = some x_ → HD i_ lo_ → ∃ h1 lo', RW h1 (l.set i_ (f_ i_ x_)) ∧ FR h_ h1 ∧ HD (i_ + d_) lo' ∧ bldD dp mi pc lo_ [] h_ pc lo' [] h1)
    (exit : ∀ i_ l h_ lo_, RW h_ l → l.length ≤ i_ → HD i_ lo_ → ∃ h', RW h' l ∧ FR h_ h' ∧ E_ lo_ h_ h') :
    ∀ (k_ i_ : Nat) (l : List Int32) (h_ : xH) (lo_ : xL), l.length ≤ i_ + k_ → RW h_ l → HD i_ lo_ → ∃ h', RW h' (mpf f_ i_ l) ∧ FR h_ h' ∧ E_ lo_ h_ h' := by
  intro k_
  induction k_ with
  | zero =>
    intro i_ l h_ lo_ hl R_ H_
    rw [mpf_end (by omega)]
    exact exit i_ l h_ lo_ R_ (by omega) H_
  | succ k_ ih_ =>
    intro i_ l h_ lo_ hl R_ H_
    cases hx : l[i_]? with
    | none =>
      have hl2 := List.getElem?_eq_none_iff.mp hx
      rw [mpf_end hl2]
      exact exit i_ l h_ lo_ R_ hl2 H_
    | some x_ =>
      obtain ⟨h1, lo', R1, F1_, H1_, ld⟩ := turn_ i_ l h_ lo_ x_ R_ hx H_
      obtain ⟨h2, R2, F2, E2⟩ := ih_ (i_ + d_) (l.set i_ (f_ i_ x_)) h1 lo' (by rw [List.length_set]; omega) R1 H1_
      rw [mpf_step hx hd_ (hf i_ lo_ H_)] at R2
      exact ⟨h2, R2, ht _ _ _ F1_ F2, he _ _ _ _ _ ld E2⟩
def frb (b_ : Nat) (h_ h' : xH) : Prop := ysm h_ h' ∧ ∀ c_ j_, ¬ c_ = b_ → bpat h' c_ j_ = bpat h_ c_ j_
theorem frb_tr {b_ : Nat} (x_ y_ z_ : xH) (h1 : frb b_ x_ y_) (h2 : frb b_ y_ z_) : frb b_ x_ z_ := ⟨ysm_tr h1.1 h2.1, fun c_ j_ n_ => (h2.2 c_ j_ n_).trans (h1.2 c_ j_ n_)⟩
def eRet (mi pc : Nat) (lo_ : xL) (h_ h' : xH) : Prop := ∀ D_, 60 ≤ D_ → xrun D_ mi pc lo_ [] h_ (none, h', [])
theorem eRet_led {mi pc : Nat} (lo_ lo' : xL) (h_ h1 h2 : xH) (l : bldD 60 mi pc lo_ [] h_ pc lo' [] h1) (e_ : eRet mi pc lo' h1 h2) : eRet mi pc lo_ h_ h2 := fun D_ hD => l D_ hD _ (e_ D_ hD)
theorem set_same {l : List Int32} {i_ : Nat} {x_ : Int32} (h_ : l[i_]? = some x_) : l.set i_ x_ = l := by
  have hi_ := (List.getElem?_eq_some_iff.mp h_).1
  refine List.ext_getElem? (fun j_ => ?_)
  by_cases q_ : j_ = i_
  · subst q_
    rw [List.getElem?_set_self hi_, h_]
  · rw [List.getElem?_set_ne (fun z_ => q_ z_.symm)]
-- tSN0_v0: 34 steps, 2 ends, 0 returns
def tSN0_v0_L : List (Nat × Nat × Nat) := [(1000, 6, 2), (1001, 20, 12)]
def tSN0_v0_O : yO := [(1000, .int 1, .arg 300), (1000, .int 0, .index 1001), (1001, .arg 2, .arg 301)]
def tSN0_v0_A : yA := (yZ tSN0_v0_L, [(.arg 2, 12)], [], [], [(131, [.arg 301], .arg 501), (133, [.arg 301], .arg 502)])
def tSN0_v0_C : List xB := [(.lt, .arg 2, .arg 300, true)]
def tSN0_v0_ss : List yS := [(2, [(2, .add (.arg 2) (.int 1)), (3, .int 1), (0, .index 1000), (1, .int 0)], [], [(1000, .int 1, .arg 300), (1000, .int 0, .index 1001), (1001, .arg 2, .arg 301)], [(.eq, .arg 501, .int 0, false), (.lt, .arg 2, .arg 300, true)], []),
  (2, [(2, .add (.arg 2) (.int 1)), (3, .int 0), (0, .index 1000), (1, .int 0)], [], [(1001, .arg 2, .arg 502), (1000, .int 1, .arg 300), (1000, .int 0, .index 1001)], [(.eq, .arg 501, .int 0, true), (.lt, .arg 2, .arg 300, true)], [(1001, .arg 2)])]
def tSN0_v0_rs : List yR := []
theorem tSN0_v0_w : ywa tSN0_v0_A tSN0_v0_ss tSN0_v0_rs = true := by decide +kernel
theorem tSN0_v0_k : yis (yev tSN0_v0_A 3000 60 43 [2] (2, [(2, .arg 2), (0, .index 1000), (1, .int 0)], [], tSN0_v0_O, tSN0_v0_C, [])) tSN0_v0_ss tSN0_v0_rs = true := by decide +kernel
def tSN0_v0_r (v2 v300 v301 v501 v502 : Int32) (k_ : Nat) : Value := bif Nat.beq k_ 2 then .int v2 else (bif Nat.beq k_ 300 then .int v300 else (bif Nat.beq k_ 301 then .int v301 else (bif Nat.beq k_ 501 then .int v501 else (bif Nat.beq k_ 502 then .int v502 else (.int 0)))))
def tSN0_v0_s (a1000 a1001 : Nat) (n_ : Nat) : Nat := bif Nat.beq n_ 1000 then a1000 else (bif Nat.beq n_ 1001 then a1001 else (0))
theorem tSN0_v0 {h_ : xH} {a1000 a1001 : Nat} {v2 v300 v301 v501 v502 : Int32} (hs : sHp h_) (k1000 : bcq h_ a1000 6 2) (k1001 : bcq h_ a1001 20 12) (o0_ : bpat h_ a1000 1 = some (.int v300)) (o1 : bpat h_ a1000 0 = some (.index a1001)) (o2 : bpat h_ a1001 (v2).toInt.toNat = some (.int v301)) (b0 : 0 ≤ (v2).toInt ∧ (v2).toInt < 12) (p0_ : ∀ (h_ : xH) (D_ : Nat), 5 ≤ D_ → xrun D_ 131 0 [(0, .int v301)] [] h_ (some (.int v501), h_, [])) (p1_ : ∀ (h_ : xH) (D_ : Nat), 5 ≤ D_ → xrun D_ 133 0 [(0, .int v301)] [] h_ (some (.int v502), h_, [])) (c0_ : v2.toInt < v300.toInt) : ∃ h', ysm h_ h' ∧ (((¬ v501 = (0 : Int32)) ∧ (∀ a_ j_ : Nat, bpat h' a_ j_ = bpat h_ a_ j_) ∧ (bldD 60 43 2 [(2, .int v2), (0, .index a1000), (1, .int (0 : Int32))] [] h_ 2 [(2, .int (v2 + (1 : Int32))), (3, .int (1 : Int32)), (0, .index a1000), (1, .int (0 : Int32))] [] h'))
  ∨ ((v501 = (0 : Int32)) ∧ (bpat h' a1001 (v2).toInt.toNat = some (.int v502)) ∧ (∀ a_ j_ : Nat, ¬ (a_ = a1001 ∧ j_ = (v2).toInt.toNat) → bpat h' a_ j_ = bpat h_ a_ j_) ∧ (bldD 60 43 2 [(2, .int v2), (0, .index a1000), (1, .int (0 : Int32))] [] h_ 2 [(2, .int (v2 + (1 : Int32))), (3, .int (0 : Int32)), (0, .index a1000), (1, .int (0 : Int32))] [] h'))) := by
  have hA : yas tSN0_v0_A (tSN0_v0_r v2 v300 v301 v501 v502) (yg (tSN0_v0_s a1000 a1001)) := ⟨List.forall_mem_cons.mpr ⟨b0, fun q_ hq => absurd hq List.not_mem_nil⟩, fun q_ hq => absurd hq List.not_mem_nil, fun q_ hq => absurd hq List.not_mem_nil, fun n_ hn => yg_lo hn, List.forall_mem_cons.mpr ⟨p0_, List.forall_mem_cons.mpr ⟨p1_, fun q_ hq => absurd hq List.not_mem_nil⟩⟩⟩
  have Hs : ysh tSN0_v0_A.1 (yg (tSN0_v0_s a1000 a1001)) h_ := ysh_of2 hs (List.forall_mem_cons.mpr ⟨⟨by decide, k1000⟩, List.forall_mem_cons.mpr ⟨⟨by decide, k1001⟩, fun q_ hq => absurd hq List.not_mem_nil⟩⟩)
  have Ho : ymem (tSN0_v0_r v2 v300 v301 v501 v502) (yg (tSN0_v0_s a1000 a1001)) tSN0_v0_O h_ := List.forall_mem_cons.mpr ⟨bpat_some o0_, List.forall_mem_cons.mpr ⟨bpat_some o1, List.forall_mem_cons.mpr ⟨bpat_some o2, fun q_ hq => absurd hq List.not_mem_nil⟩⟩⟩
  have HC : ∀ q_ ∈ tSN0_v0_C, xhold (tSN0_v0_r v2 v300 v301 v501 v502) q_ := List.forall_mem_cons.mpr ⟨xh_ltT c0_, fun q_ hq => absurd hq List.not_mem_nil⟩
  rcases yrun (yis_ok tSN0_v0_k) hA Hs Ho HC with ⟨q_, hq, h', K_, G_⟩ | ⟨q_, hq, h', K_, G_⟩
  · rcases List.mem_cons.mp hq with e_ | hq
    · subst e_
      exact ⟨h', yfr_sm K_.2.2.2 hs K_.1 (ywa_s tSN0_v0_w List.mem_cons_self), Or.inl (⟨xq_eqF rfl rfl (K_.2.2.1 _ List.mem_cons_self), fun a_ j_ => yfr_bp K_.2.2.2 (fun q_ hq => absurd hq List.not_mem_nil), G_⟩)⟩
    have e_ := List.mem_singleton.mp hq
    subst e_
    exact ⟨h', yfr_sm K_.2.2.2 hs K_.1 (ywa_s tSN0_v0_w (List.mem_cons_of_mem _ List.mem_cons_self)), Or.inr (⟨xq_eqT rfl rfl (K_.2.2.1 _ List.mem_cons_self), bpat_of (K_.2.1 _ List.mem_cons_self), fun a_ j_ n0_ => yfr_bp K_.2.2.2 (List.forall_mem_cons.mpr ⟨fun e_ => n0_ ⟨e_.1.symm, e_.2.symm⟩, fun q_ hq => absurd hq List.not_mem_nil⟩), G_⟩)⟩
  · cases hq
-- tSN0_v1: 34 steps, 2 ends, 0 returns
def tSN0_v1_L : List (Nat × Nat × Nat) := [(1000, 6, 2), (1001, 20, 12)]
def tSN0_v1_O : yO := [(1000, .int 1, .arg 300), (1000, .int 0, .index 1001), (1001, .arg 2, .arg 301)]
def tSN0_v1_A : yA := (yZ tSN0_v1_L, [(.arg 2, 12)], [], [], [(131, [.arg 301], .arg 501), (133, [.arg 301], .arg 502)])
def tSN0_v1_C : List xB := [(.lt, .arg 2, .arg 300, true)]
def tSN0_v1_ss : List yS := [(2, [(2, .add (.arg 2) (.int 1)), (3, .int 1), (0, .index 1000), (1, .int 0)], [], [(1000, .int 1, .arg 300), (1000, .int 0, .index 1001), (1001, .arg 2, .arg 301)], [(.eq, .arg 501, .int 0, false), (.lt, .arg 2, .arg 300, true)], []),
  (2, [(2, .add (.arg 2) (.int 1)), (3, .int 0), (0, .index 1000), (1, .int 0)], [], [(1001, .arg 2, .arg 502), (1000, .int 1, .arg 300), (1000, .int 0, .index 1001)], [(.eq, .arg 501, .int 0, true), (.lt, .arg 2, .arg 300, true)], [(1001, .arg 2)])]
def tSN0_v1_rs : List yR := []
theorem tSN0_v1_w : ywa tSN0_v1_A tSN0_v1_ss tSN0_v1_rs = true := by decide +kernel
theorem tSN0_v1_k : yis (yev tSN0_v1_A 3000 60 43 [2] (2, [(2, .arg 2), (3, .arg 903), (0, .index 1000), (1, .int 0)], [], tSN0_v1_O, tSN0_v1_C, [])) tSN0_v1_ss tSN0_v1_rs = true := by decide +kernel
def tSN0_v1_r (v2 v300 v301 v501 v502 v903 : Int32) (k_ : Nat) : Value := bif Nat.beq k_ 2 then .int v2 else (bif Nat.beq k_ 300 then .int v300 else (bif Nat.beq k_ 301 then .int v301 else (bif Nat.beq k_ 501 then .int v501 else (bif Nat.beq k_ 502 then .int v502 else (bif Nat.beq k_ 903 then .int v903 else (.int 0))))))
def tSN0_v1_s (a1000 a1001 : Nat) (n_ : Nat) : Nat := bif Nat.beq n_ 1000 then a1000 else (bif Nat.beq n_ 1001 then a1001 else (0))
theorem tSN0_v1 {h_ : xH} {a1000 a1001 : Nat} {v2 v300 v301 v501 v502 v903 : Int32} (hs : sHp h_) (k1000 : bcq h_ a1000 6 2) (k1001 : bcq h_ a1001 20 12) (o0_ : bpat h_ a1000 1 = some (.int v300)) (o1 : bpat h_ a1000 0 = some (.index a1001)) (o2 : bpat h_ a1001 (v2).toInt.toNat = some (.int v301)) (b0 : 0 ≤ (v2).toInt ∧ (v2).toInt < 12) (p0_ : ∀ (h_ : xH) (D_ : Nat), 5 ≤ D_ → xrun D_ 131 0 [(0, .int v301)] [] h_ (some (.int v501), h_, [])) (p1_ : ∀ (h_ : xH) (D_ : Nat), 5 ≤ D_ → xrun D_ 133 0 [(0, .int v301)] [] h_ (some (.int v502), h_, [])) (c0_ : v2.toInt < v300.toInt) : ∃ h', ysm h_ h' ∧ (((¬ v501 = (0 : Int32)) ∧ (∀ a_ j_ : Nat, bpat h' a_ j_ = bpat h_ a_ j_) ∧ (bldD 60 43 2 [(2, .int v2), (3, .int v903), (0, .index a1000), (1, .int (0 : Int32))] [] h_ 2 [(2, .int (v2 + (1 : Int32))), (3, .int (1 : Int32)), (0, .index a1000), (1, .int (0 : Int32))] [] h'))
  ∨ ((v501 = (0 : Int32)) ∧ (bpat h' a1001 (v2).toInt.toNat = some (.int v502)) ∧ (∀ a_ j_ : Nat, ¬ (a_ = a1001 ∧ j_ = (v2).toInt.toNat) → bpat h' a_ j_ = bpat h_ a_ j_) ∧ (bldD 60 43 2 [(2, .int v2), (3, .int v903), (0, .index a1000), (1, .int (0 : Int32))] [] h_ 2 [(2, .int (v2 + (1 : Int32))), (3, .int (0 : Int32)), (0, .index a1000), (1, .int (0 : Int32))] [] h'))) := by
  have hA : yas tSN0_v1_A (tSN0_v1_r v2 v300 v301 v501 v502 v903) (yg (tSN0_v1_s a1000 a1001)) := ⟨List.forall_mem_cons.mpr ⟨b0, fun q_ hq => absurd hq List.not_mem_nil⟩, fun q_ hq => absurd hq List.not_mem_nil, fun q_ hq => absurd hq List.not_mem_nil, fun n_ hn => yg_lo hn, List.forall_mem_cons.mpr ⟨p0_, List.forall_mem_cons.mpr ⟨p1_, fun q_ hq => absurd hq List.not_mem_nil⟩⟩⟩
  have Hs : ysh tSN0_v1_A.1 (yg (tSN0_v1_s a1000 a1001)) h_ := ysh_of2 hs (List.forall_mem_cons.mpr ⟨⟨by decide, k1000⟩, List.forall_mem_cons.mpr ⟨⟨by decide, k1001⟩, fun q_ hq => absurd hq List.not_mem_nil⟩⟩)
  have Ho : ymem (tSN0_v1_r v2 v300 v301 v501 v502 v903) (yg (tSN0_v1_s a1000 a1001)) tSN0_v1_O h_ := List.forall_mem_cons.mpr ⟨bpat_some o0_, List.forall_mem_cons.mpr ⟨bpat_some o1, List.forall_mem_cons.mpr ⟨bpat_some o2, fun q_ hq => absurd hq List.not_mem_nil⟩⟩⟩
  have HC : ∀ q_ ∈ tSN0_v1_C, xhold (tSN0_v1_r v2 v300 v301 v501 v502 v903) q_ := List.forall_mem_cons.mpr ⟨xh_ltT c0_, fun q_ hq => absurd hq List.not_mem_nil⟩
  rcases yrun (yis_ok tSN0_v1_k) hA Hs Ho HC with ⟨q_, hq, h', K_, G_⟩ | ⟨q_, hq, h', K_, G_⟩
  · rcases List.mem_cons.mp hq with e_ | hq
    · subst e_
      exact ⟨h', yfr_sm K_.2.2.2 hs K_.1 (ywa_s tSN0_v1_w List.mem_cons_self), Or.inl (⟨xq_eqF rfl rfl (K_.2.2.1 _ List.mem_cons_self), fun a_ j_ => yfr_bp K_.2.2.2 (fun q_ hq => absurd hq List.not_mem_nil), G_⟩)⟩
    have e_ := List.mem_singleton.mp hq
    subst e_
    exact ⟨h', yfr_sm K_.2.2.2 hs K_.1 (ywa_s tSN0_v1_w (List.mem_cons_of_mem _ List.mem_cons_self)), Or.inr (⟨xq_eqT rfl rfl (K_.2.2.1 _ List.mem_cons_self), bpat_of (K_.2.1 _ List.mem_cons_self), fun a_ j_ n0_ => yfr_bp K_.2.2.2 (List.forall_mem_cons.mpr ⟨fun e_ => n0_ ⟨e_.1.symm, e_.2.symm⟩, fun q_ hq => absurd hq List.not_mem_nil⟩), G_⟩)⟩
  · cases hq
def tSN0_hd (a1000 : Nat) (p1_ p2_ : Int32) (lo_ : xL) : Prop := (lo_ = [(2, .int p2_), (0, .index a1000), (1, .int p1_)]) ∨ (∃ y3 : Int32, lo_ = [(2, .int p2_), (3, .int y3), (0, .index a1000), (1, .int p1_)])
theorem tSN0 {h_ : xH} {a1000 a1001 : Nat} {v2 v300 v301 v501 v502 : Int32} {lo_ : xL} (hs : sHp h_) (k1000 : bcq h_ a1000 6 2) (k1001 : bcq h_ a1001 20 12) (o0_ : bpat h_ a1000 1 = some (.int v300)) (o1 : bpat h_ a1000 0 = some (.index a1001)) (o2 : bpat h_ a1001 (v2).toInt.toNat = some (.int v301)) (b0 : 0 ≤ (v2).toInt ∧ (v2).toInt < 12) (p0_ : ∀ (h_ : xH) (D_ : Nat), 5 ≤ D_ → xrun D_ 131 0 [(0, .int v301)] [] h_ (some (.int v501), h_, [])) (p1_ : ∀ (h_ : xH) (D_ : Nat), 5 ≤ D_ → xrun D_ 133 0 [(0, .int v301)] [] h_ (some (.int v502), h_, [])) (c0_ : v2.toInt < v300.toInt) (H_ : tSN0_hd a1000 (0 : Int32) v2 lo_) : ∃ h', ysm h_ h' ∧ (((¬ v501 = (0 : Int32)) ∧ (∀ a_ j_ : Nat, bpat h' a_ j_ = bpat h_ a_ j_) ∧ (∃ lo', tSN0_hd a1000 (0 : Int32) (v2 + (1 : Int32)) lo' ∧ bldD 60 43 2 lo_ [] h_ 2 lo' [] h'))
  ∨ ((v501 = (0 : Int32)) ∧ (bpat h' a1001 (v2).toInt.toNat = some (.int v502)) ∧ (∀ a_ j_ : Nat, ¬ (a_ = a1001 ∧ j_ = (v2).toInt.toNat) → bpat h' a_ j_ = bpat h_ a_ j_) ∧ (∃ lo', tSN0_hd a1000 (0 : Int32) (v2 + (1 : Int32)) lo' ∧ bldD 60 43 2 lo_ [] h_ 2 lo' [] h'))) := by
  rcases H_ with rfl | ⟨y3, rfl⟩
  · obtain ⟨h', m_, e_⟩ := tSN0_v0 hs k1000 k1001 o0_ o1 o2 b0 p0_ p1_ c0_
    refine ⟨h', m_, ?_⟩
    rcases e_ with e_ | e_
    · obtain ⟨g0, g1, g2⟩ := e_
      exact Or.inl ⟨g0, g1, ⟨_, Or.inr (⟨_, rfl⟩), g2⟩⟩
    · obtain ⟨g0, g1, g2, g3_⟩ := e_
      exact Or.inr (⟨g0, g1, g2, ⟨_, Or.inr (⟨_, rfl⟩), g3_⟩⟩)
  · obtain ⟨h', m_, e_⟩ := tSN0_v1 hs k1000 k1001 o0_ o1 o2 b0 p0_ p1_ c0_
    refine ⟨h', m_, ?_⟩
    rcases e_ with e_ | e_
    · obtain ⟨g0, g1, g2⟩ := e_
      exact Or.inl ⟨g0, g1, ⟨_, Or.inr (⟨_, rfl⟩), g2⟩⟩
    · obtain ⟨g0, g1, g2, g3_⟩ := e_
      exact Or.inr (⟨g0, g1, g2, ⟨_, Or.inr (⟨_, rfl⟩), g3_⟩⟩)
-- xSN0_v0: 5 steps, 0 ends, 1 returns
def xSN0_v0_L : List (Nat × Nat × Nat) := [(1000, 6, 2), (1001, 20, 12)]
def xSN0_v0_O : yO := [(1000, .int 1, .arg 300)]
def xSN0_v0_A : yA := (yZ xSN0_v0_L, [], [], [], [])
def xSN0_v0_C : List xB := [(.lt, .arg 2, .arg 300, false)]
def xSN0_v0_ss : List yS := []
def xSN0_v0_rs : List yR := [(none, [(1000, .int 1, .arg 300)], [(.lt, .arg 2, .arg 300, false)], [])]
theorem xSN0_v0_w : ywa xSN0_v0_A xSN0_v0_ss xSN0_v0_rs = true := by decide +kernel
theorem xSN0_v0_k : yis (yev xSN0_v0_A 3000 60 43 [2] (2, [(2, .arg 2), (0, .index 1000), (1, .int 0)], [], xSN0_v0_O, xSN0_v0_C, [])) xSN0_v0_ss xSN0_v0_rs = true := by decide +kernel
def xSN0_v0_r (v2 v300 : Int32) (k_ : Nat) : Value := bif Nat.beq k_ 2 then .int v2 else (bif Nat.beq k_ 300 then .int v300 else (.int 0))
def xSN0_v0_s (a1000 a1001 : Nat) (n_ : Nat) : Nat := bif Nat.beq n_ 1000 then a1000 else (bif Nat.beq n_ 1001 then a1001 else (0))
theorem xSN0_v0 {h_ : xH} {a1000 a1001 : Nat} {v2 v300 : Int32} (hs : sHp h_) (k1000 : bcq h_ a1000 6 2) (k1001 : bcq h_ a1001 20 12) (o0_ : bpat h_ a1000 1 = some (.int v300)) (c0_ : v300.toInt ≤ v2.toInt) : ∃ h', ysm h_ h' ∧ (((∀ a_ j_ : Nat, bpat h' a_ j_ = bpat h_ a_ j_) ∧ (∀ D_, 60 ≤ D_ → xrun D_ 43 2 [(2, .int v2), (0, .index a1000), (1, .int (0 : Int32))] [] h_ (none, h', [])))) := by
  have hA : yas xSN0_v0_A (xSN0_v0_r v2 v300) (yg (xSN0_v0_s a1000 a1001)) := ⟨fun q_ hq => absurd hq List.not_mem_nil, fun q_ hq => absurd hq List.not_mem_nil, fun q_ hq => absurd hq List.not_mem_nil, fun n_ hn => yg_lo hn, fun q_ hq => absurd hq List.not_mem_nil⟩
  have Hs : ysh xSN0_v0_A.1 (yg (xSN0_v0_s a1000 a1001)) h_ := ysh_of2 hs (List.forall_mem_cons.mpr ⟨⟨by decide, k1000⟩, List.forall_mem_cons.mpr ⟨⟨by decide, k1001⟩, fun q_ hq => absurd hq List.not_mem_nil⟩⟩)
  have Ho : ymem (xSN0_v0_r v2 v300) (yg (xSN0_v0_s a1000 a1001)) xSN0_v0_O h_ := List.forall_mem_cons.mpr ⟨bpat_some o0_, fun q_ hq => absurd hq List.not_mem_nil⟩
  have HC : ∀ q_ ∈ xSN0_v0_C, xhold (xSN0_v0_r v2 v300) q_ := List.forall_mem_cons.mpr ⟨xh_ltF c0_, fun q_ hq => absurd hq List.not_mem_nil⟩
  rcases yrun (yis_ok xSN0_v0_k) hA Hs Ho HC with ⟨q_, hq, h', K_, G_⟩ | ⟨q_, hq, h', K_, G_⟩
  · cases hq
  · have e_ := List.mem_singleton.mp hq
    subst e_
    exact ⟨h', yfr_sm K_.2.2.2 hs K_.1 (ywa_r xSN0_v0_w List.mem_cons_self), ⟨fun a_ j_ => yfr_bp K_.2.2.2 (fun q_ hq => absurd hq List.not_mem_nil), G_⟩⟩
-- xSN0_v1: 5 steps, 0 ends, 1 returns
def xSN0_v1_L : List (Nat × Nat × Nat) := [(1000, 6, 2), (1001, 20, 12)]
def xSN0_v1_O : yO := [(1000, .int 1, .arg 300)]
def xSN0_v1_A : yA := (yZ xSN0_v1_L, [], [], [], [])
def xSN0_v1_C : List xB := [(.lt, .arg 2, .arg 300, false)]
def xSN0_v1_ss : List yS := []
def xSN0_v1_rs : List yR := [(none, [(1000, .int 1, .arg 300)], [(.lt, .arg 2, .arg 300, false)], [])]
theorem xSN0_v1_w : ywa xSN0_v1_A xSN0_v1_ss xSN0_v1_rs = true := by decide +kernel
theorem xSN0_v1_k : yis (yev xSN0_v1_A 3000 60 43 [2] (2, [(2, .arg 2), (3, .arg 903), (0, .index 1000), (1, .int 0)], [], xSN0_v1_O, xSN0_v1_C, [])) xSN0_v1_ss xSN0_v1_rs = true := by decide +kernel
def xSN0_v1_r (v2 v300 v903 : Int32) (k_ : Nat) : Value := bif Nat.beq k_ 2 then .int v2 else (bif Nat.beq k_ 300 then .int v300 else (bif Nat.beq k_ 903 then .int v903 else (.int 0)))
def xSN0_v1_s (a1000 a1001 : Nat) (n_ : Nat) : Nat := bif Nat.beq n_ 1000 then a1000 else (bif Nat.beq n_ 1001 then a1001 else (0))
theorem xSN0_v1 {h_ : xH} {a1000 a1001 : Nat} {v2 v300 v903 : Int32} (hs : sHp h_) (k1000 : bcq h_ a1000 6 2) (k1001 : bcq h_ a1001 20 12) (o0_ : bpat h_ a1000 1 = some (.int v300)) (c0_ : v300.toInt ≤ v2.toInt) : ∃ h', ysm h_ h' ∧ (((∀ a_ j_ : Nat, bpat h' a_ j_ = bpat h_ a_ j_) ∧ (∀ D_, 60 ≤ D_ → xrun D_ 43 2 [(2, .int v2), (3, .int v903), (0, .index a1000), (1, .int (0 : Int32))] [] h_ (none, h', [])))) := by
  have hA : yas xSN0_v1_A (xSN0_v1_r v2 v300 v903) (yg (xSN0_v1_s a1000 a1001)) := ⟨fun q_ hq => absurd hq List.not_mem_nil, fun q_ hq => absurd hq List.not_mem_nil, fun q_ hq => absurd hq List.not_mem_nil, fun n_ hn => yg_lo hn, fun q_ hq => absurd hq List.not_mem_nil⟩
  have Hs : ysh xSN0_v1_A.1 (yg (xSN0_v1_s a1000 a1001)) h_ := ysh_of2 hs (List.forall_mem_cons.mpr ⟨⟨by decide, k1000⟩, List.forall_mem_cons.mpr ⟨⟨by decide, k1001⟩, fun q_ hq => absurd hq List.not_mem_nil⟩⟩)
  have Ho : ymem (xSN0_v1_r v2 v300 v903) (yg (xSN0_v1_s a1000 a1001)) xSN0_v1_O h_ := List.forall_mem_cons.mpr ⟨bpat_some o0_, fun q_ hq => absurd hq List.not_mem_nil⟩
  have HC : ∀ q_ ∈ xSN0_v1_C, xhold (xSN0_v1_r v2 v300 v903) q_ := List.forall_mem_cons.mpr ⟨xh_ltF c0_, fun q_ hq => absurd hq List.not_mem_nil⟩
  rcases yrun (yis_ok xSN0_v1_k) hA Hs Ho HC with ⟨q_, hq, h', K_, G_⟩ | ⟨q_, hq, h', K_, G_⟩
  · cases hq
  · have e_ := List.mem_singleton.mp hq
    subst e_
    exact ⟨h', yfr_sm K_.2.2.2 hs K_.1 (ywa_r xSN0_v1_w List.mem_cons_self), ⟨fun a_ j_ => yfr_bp K_.2.2.2 (fun q_ hq => absurd hq List.not_mem_nil), G_⟩⟩
theorem xSN0 {h_ : xH} {a1000 a1001 : Nat} {v2 v300 : Int32} {lo_ : xL} (hs : sHp h_) (k1000 : bcq h_ a1000 6 2) (k1001 : bcq h_ a1001 20 12) (o0_ : bpat h_ a1000 1 = some (.int v300)) (c0_ : v300.toInt ≤ v2.toInt) (H_ : tSN0_hd a1000 (0 : Int32) v2 lo_) : ∃ h', ysm h_ h' ∧ (((∀ a_ j_ : Nat, bpat h' a_ j_ = bpat h_ a_ j_) ∧ (∀ D_, 60 ≤ D_ → xrun D_ 43 2 lo_ [] h_ (none, h', [])))) := by
  rcases H_ with rfl | ⟨y3, rfl⟩
  · obtain ⟨h', m_, e_⟩ := xSN0_v0 hs k1000 k1001 o0_ c0_
    refine ⟨h', m_, ?_⟩
    obtain ⟨g0, g1⟩ := e_
    exact ⟨g0, g1⟩
  · obtain ⟨h', m_, e_⟩ := xSN0_v1 hs k1000 k1001 o0_ c0_
    refine ⟨h', m_, ?_⟩
    obtain ⟨g0, g1⟩ := e_
    exact ⟨g0, g1⟩
-- eSN0: 2 steps, 1 ends, 0 returns
def eSN0_L : List (Nat × Nat × Nat) := [(1000, 6, 2)]
def eSN0_O : yO := []
def eSN0_A : yA := (yZ eSN0_L, [], [], [], [])
def eSN0_C : List xB := []
def eSN0_ss : List yS := [(2, [(2, .int 0), (0, .index 1000), (1, .int 0)], [], [], [], [])]
def eSN0_rs : List yR := []
theorem eSN0_w : ywa eSN0_A eSN0_ss eSN0_rs = true := by decide +kernel
theorem eSN0_k : yis (yev eSN0_A 3000 60 43 [2] (0, [(0, .index 1000), (1, .int 0)], [], eSN0_O, eSN0_C, [])) eSN0_ss eSN0_rs = true := by decide +kernel
def eSN0_r (k_ : Nat) : Value := .int 0
def eSN0_s (a1000 : Nat) (n_ : Nat) : Nat := bif Nat.beq n_ 1000 then a1000 else (0)
theorem eSN0 {h_ : xH} {a1000 : Nat} (hs : sHp h_) (k1000 : bcq h_ a1000 6 2) : ∃ h', ysm h_ h' ∧ (((∀ a_ j_ : Nat, bpat h' a_ j_ = bpat h_ a_ j_) ∧ (bldD 60 43 0 [(0, .index a1000), (1, .int (0 : Int32))] [] h_ 2 [(2, .int (0 : Int32)), (0, .index a1000), (1, .int (0 : Int32))] [] h'))) := by
  have hA : yas eSN0_A eSN0_r (yg (eSN0_s a1000)) := ⟨fun q_ hq => absurd hq List.not_mem_nil, fun q_ hq => absurd hq List.not_mem_nil, fun q_ hq => absurd hq List.not_mem_nil, fun n_ hn => yg_lo hn, fun q_ hq => absurd hq List.not_mem_nil⟩
  have Hs : ysh eSN0_A.1 (yg (eSN0_s a1000)) h_ := ysh_of2 hs (List.forall_mem_cons.mpr ⟨⟨by decide, k1000⟩, fun q_ hq => absurd hq List.not_mem_nil⟩)
  have Ho : ymem eSN0_r (yg (eSN0_s a1000)) eSN0_O h_ := fun q_ hq => absurd hq List.not_mem_nil
  have HC : ∀ q_ ∈ eSN0_C, xhold eSN0_r q_ := fun q_ hq => absurd hq List.not_mem_nil
  rcases yrun (yis_ok eSN0_k) hA Hs Ho HC with ⟨q_, hq, h', K_, G_⟩ | ⟨q_, hq, h', K_, G_⟩
  · have e_ := List.mem_singleton.mp hq
    subst e_
    exact ⟨h', yfr_sm K_.2.2.2 hs K_.1 (ywa_s eSN0_w List.mem_cons_self), ⟨fun a_ j_ => yfr_bp K_.2.2.2 (fun q_ hq => absurd hq List.not_mem_nil), G_⟩⟩
  · cases hq
-- tSN1_v0: 45 steps, 3 ends, 0 returns
def tSN1_v0_L : List (Nat × Nat × Nat) := [(1000, 6, 2), (1001, 20, 12)]
def tSN1_v0_O : yO := [(1000, .int 1, .arg 300), (1000, .int 0, .index 1001), (1001, .arg 2, .arg 301)]
def tSN1_v0_A : yA := (yZ tSN1_v0_L, [(.arg 2, 12)], [], [], [(131, [.arg 301], .arg 501), (133, [.arg 301], .arg 502)])
def tSN1_v0_C : List xB := [(.lt, .arg 2, .arg 300, true)]
def tSN1_v0_ss : List yS := [(2, [(2, .add (.arg 2) (.int 1)), (3, .int 1), (0, .index 1000), (1, .int 1)], [], [(1000, .int 1, .arg 300), (1000, .int 0, .index 1001), (1001, .arg 2, .arg 301)], [(.eq, .arg 501, .int 0, false), (.lt, .arg 2, .arg 300, true)], []),
  (2, [(2, .add (.arg 2) (.int 1)), (3, .int 0), (0, .index 1000), (1, .int 1)], [], [(1001, .arg 2, .arg 502), (1000, .int 1, .arg 300), (1000, .int 0, .index 1001)], [(.eq, .rem (.arg 2) (.int 2), .int 0, false), (.eq, .arg 501, .int 0, true), (.lt, .arg 2, .arg 300, true)], [(1001, .arg 2)]),
  (2, [(2, .add (.arg 2) (.int 1)), (3, .int 1), (0, .index 1000), (1, .int 1)], [], [(1000, .int 1, .arg 300), (1000, .int 0, .index 1001), (1001, .arg 2, .arg 301)], [(.eq, .rem (.arg 2) (.int 2), .int 0, true), (.eq, .arg 501, .int 0, true), (.lt, .arg 2, .arg 300, true)], [])]
def tSN1_v0_rs : List yR := []
theorem tSN1_v0_w : ywa tSN1_v0_A tSN1_v0_ss tSN1_v0_rs = true := by decide +kernel
theorem tSN1_v0_k : yis (yev tSN1_v0_A 3000 60 43 [2] (2, [(2, .arg 2), (0, .index 1000), (1, .int 1)], [], tSN1_v0_O, tSN1_v0_C, [])) tSN1_v0_ss tSN1_v0_rs = true := by decide +kernel
def tSN1_v0_r (v2 v300 v301 v501 v502 : Int32) (k_ : Nat) : Value := bif Nat.beq k_ 2 then .int v2 else (bif Nat.beq k_ 300 then .int v300 else (bif Nat.beq k_ 301 then .int v301 else (bif Nat.beq k_ 501 then .int v501 else (bif Nat.beq k_ 502 then .int v502 else (.int 0)))))
def tSN1_v0_s (a1000 a1001 : Nat) (n_ : Nat) : Nat := bif Nat.beq n_ 1000 then a1000 else (bif Nat.beq n_ 1001 then a1001 else (0))
theorem tSN1_v0 {h_ : xH} {a1000 a1001 : Nat} {v2 v300 v301 v501 v502 : Int32} (hs : sHp h_) (k1000 : bcq h_ a1000 6 2) (k1001 : bcq h_ a1001 20 12) (o0_ : bpat h_ a1000 1 = some (.int v300)) (o1 : bpat h_ a1000 0 = some (.index a1001)) (o2 : bpat h_ a1001 (v2).toInt.toNat = some (.int v301)) (b0 : 0 ≤ (v2).toInt ∧ (v2).toInt < 12) (p0_ : ∀ (h_ : xH) (D_ : Nat), 5 ≤ D_ → xrun D_ 131 0 [(0, .int v301)] [] h_ (some (.int v501), h_, [])) (p1_ : ∀ (h_ : xH) (D_ : Nat), 5 ≤ D_ → xrun D_ 133 0 [(0, .int v301)] [] h_ (some (.int v502), h_, [])) (c0_ : v2.toInt < v300.toInt) : ∃ h', ysm h_ h' ∧ (((¬ v501 = (0 : Int32)) ∧ (∀ a_ j_ : Nat, bpat h' a_ j_ = bpat h_ a_ j_) ∧ (bldD 60 43 2 [(2, .int v2), (0, .index a1000), (1, .int (1 : Int32))] [] h_ 2 [(2, .int (v2 + (1 : Int32))), (3, .int (1 : Int32)), (0, .index a1000), (1, .int (1 : Int32))] [] h'))
  ∨ ((¬ (v2 - v2 / (2 : Int32) * (2 : Int32)) = (0 : Int32)) ∧ (v501 = (0 : Int32)) ∧ (bpat h' a1001 (v2).toInt.toNat = some (.int v502)) ∧ (∀ a_ j_ : Nat, ¬ (a_ = a1001 ∧ j_ = (v2).toInt.toNat) → bpat h' a_ j_ = bpat h_ a_ j_) ∧ (bldD 60 43 2 [(2, .int v2), (0, .index a1000), (1, .int (1 : Int32))] [] h_ 2 [(2, .int (v2 + (1 : Int32))), (3, .int (0 : Int32)), (0, .index a1000), (1, .int (1 : Int32))] [] h'))
  ∨ (((v2 - v2 / (2 : Int32) * (2 : Int32)) = (0 : Int32)) ∧ (v501 = (0 : Int32)) ∧ (∀ a_ j_ : Nat, bpat h' a_ j_ = bpat h_ a_ j_) ∧ (bldD 60 43 2 [(2, .int v2), (0, .index a1000), (1, .int (1 : Int32))] [] h_ 2 [(2, .int (v2 + (1 : Int32))), (3, .int (1 : Int32)), (0, .index a1000), (1, .int (1 : Int32))] [] h'))) := by
  have hA : yas tSN1_v0_A (tSN1_v0_r v2 v300 v301 v501 v502) (yg (tSN1_v0_s a1000 a1001)) := ⟨List.forall_mem_cons.mpr ⟨b0, fun q_ hq => absurd hq List.not_mem_nil⟩, fun q_ hq => absurd hq List.not_mem_nil, fun q_ hq => absurd hq List.not_mem_nil, fun n_ hn => yg_lo hn, List.forall_mem_cons.mpr ⟨p0_, List.forall_mem_cons.mpr ⟨p1_, fun q_ hq => absurd hq List.not_mem_nil⟩⟩⟩
  have Hs : ysh tSN1_v0_A.1 (yg (tSN1_v0_s a1000 a1001)) h_ := ysh_of2 hs (List.forall_mem_cons.mpr ⟨⟨by decide, k1000⟩, List.forall_mem_cons.mpr ⟨⟨by decide, k1001⟩, fun q_ hq => absurd hq List.not_mem_nil⟩⟩)
  have Ho : ymem (tSN1_v0_r v2 v300 v301 v501 v502) (yg (tSN1_v0_s a1000 a1001)) tSN1_v0_O h_ := List.forall_mem_cons.mpr ⟨bpat_some o0_, List.forall_mem_cons.mpr ⟨bpat_some o1, List.forall_mem_cons.mpr ⟨bpat_some o2, fun q_ hq => absurd hq List.not_mem_nil⟩⟩⟩
  have HC : ∀ q_ ∈ tSN1_v0_C, xhold (tSN1_v0_r v2 v300 v301 v501 v502) q_ := List.forall_mem_cons.mpr ⟨xh_ltT c0_, fun q_ hq => absurd hq List.not_mem_nil⟩
  rcases yrun (yis_ok tSN1_v0_k) hA Hs Ho HC with ⟨q_, hq, h', K_, G_⟩ | ⟨q_, hq, h', K_, G_⟩
  · rcases List.mem_cons.mp hq with e_ | hq
    · subst e_
      exact ⟨h', yfr_sm K_.2.2.2 hs K_.1 (ywa_s tSN1_v0_w List.mem_cons_self), Or.inl (⟨xq_eqF rfl rfl (K_.2.2.1 _ List.mem_cons_self), fun a_ j_ => yfr_bp K_.2.2.2 (fun q_ hq => absurd hq List.not_mem_nil), G_⟩)⟩
    rcases List.mem_cons.mp hq with e_ | hq
    · subst e_
      exact ⟨h', yfr_sm K_.2.2.2 hs K_.1 (ywa_s tSN1_v0_w (List.mem_cons_of_mem _ List.mem_cons_self)), Or.inr (Or.inl (⟨xq_eqF rfl rfl (K_.2.2.1 _ List.mem_cons_self), xq_eqT rfl rfl (K_.2.2.1 _ (List.mem_cons_of_mem _ List.mem_cons_self)), bpat_of (K_.2.1 _ List.mem_cons_self), fun a_ j_ n0_ => yfr_bp K_.2.2.2 (List.forall_mem_cons.mpr ⟨fun e_ => n0_ ⟨e_.1.symm, e_.2.symm⟩, fun q_ hq => absurd hq List.not_mem_nil⟩), G_⟩))⟩
    have e_ := List.mem_singleton.mp hq
    subst e_
    exact ⟨h', yfr_sm K_.2.2.2 hs K_.1 (ywa_s tSN1_v0_w (List.mem_cons_of_mem _ (List.mem_cons_of_mem _ List.mem_cons_self))), Or.inr (Or.inr (⟨xq_eqT rfl rfl (K_.2.2.1 _ List.mem_cons_self), xq_eqT rfl rfl (K_.2.2.1 _ (List.mem_cons_of_mem _ List.mem_cons_self)), fun a_ j_ => yfr_bp K_.2.2.2 (fun q_ hq => absurd hq List.not_mem_nil), G_⟩))⟩
  · cases hq
-- tSN1_v1: 45 steps, 3 ends, 0 returns
def tSN1_v1_L : List (Nat × Nat × Nat) := [(1000, 6, 2), (1001, 20, 12)]
def tSN1_v1_O : yO := [(1000, .int 1, .arg 300), (1000, .int 0, .index 1001), (1001, .arg 2, .arg 301)]
def tSN1_v1_A : yA := (yZ tSN1_v1_L, [(.arg 2, 12)], [], [], [(131, [.arg 301], .arg 501), (133, [.arg 301], .arg 502)])
def tSN1_v1_C : List xB := [(.lt, .arg 2, .arg 300, true)]
def tSN1_v1_ss : List yS := [(2, [(2, .add (.arg 2) (.int 1)), (3, .int 1), (0, .index 1000), (1, .int 1)], [], [(1000, .int 1, .arg 300), (1000, .int 0, .index 1001), (1001, .arg 2, .arg 301)], [(.eq, .arg 501, .int 0, false), (.lt, .arg 2, .arg 300, true)], []),
  (2, [(2, .add (.arg 2) (.int 1)), (3, .int 0), (0, .index 1000), (1, .int 1)], [], [(1001, .arg 2, .arg 502), (1000, .int 1, .arg 300), (1000, .int 0, .index 1001)], [(.eq, .rem (.arg 2) (.int 2), .int 0, false), (.eq, .arg 501, .int 0, true), (.lt, .arg 2, .arg 300, true)], [(1001, .arg 2)]),
  (2, [(2, .add (.arg 2) (.int 1)), (3, .int 1), (0, .index 1000), (1, .int 1)], [], [(1000, .int 1, .arg 300), (1000, .int 0, .index 1001), (1001, .arg 2, .arg 301)], [(.eq, .rem (.arg 2) (.int 2), .int 0, true), (.eq, .arg 501, .int 0, true), (.lt, .arg 2, .arg 300, true)], [])]
def tSN1_v1_rs : List yR := []
theorem tSN1_v1_w : ywa tSN1_v1_A tSN1_v1_ss tSN1_v1_rs = true := by decide +kernel
theorem tSN1_v1_k : yis (yev tSN1_v1_A 3000 60 43 [2] (2, [(2, .arg 2), (3, .arg 903), (0, .index 1000), (1, .int 1)], [], tSN1_v1_O, tSN1_v1_C, [])) tSN1_v1_ss tSN1_v1_rs = true := by decide +kernel
def tSN1_v1_r (v2 v300 v301 v501 v502 v903 : Int32) (k_ : Nat) : Value := bif Nat.beq k_ 2 then .int v2 else (bif Nat.beq k_ 300 then .int v300 else (bif Nat.beq k_ 301 then .int v301 else (bif Nat.beq k_ 501 then .int v501 else (bif Nat.beq k_ 502 then .int v502 else (bif Nat.beq k_ 903 then .int v903 else (.int 0))))))
def tSN1_v1_s (a1000 a1001 : Nat) (n_ : Nat) : Nat := bif Nat.beq n_ 1000 then a1000 else (bif Nat.beq n_ 1001 then a1001 else (0))
theorem tSN1_v1 {h_ : xH} {a1000 a1001 : Nat} {v2 v300 v301 v501 v502 v903 : Int32} (hs : sHp h_) (k1000 : bcq h_ a1000 6 2) (k1001 : bcq h_ a1001 20 12) (o0_ : bpat h_ a1000 1 = some (.int v300)) (o1 : bpat h_ a1000 0 = some (.index a1001)) (o2 : bpat h_ a1001 (v2).toInt.toNat = some (.int v301)) (b0 : 0 ≤ (v2).toInt ∧ (v2).toInt < 12) (p0_ : ∀ (h_ : xH) (D_ : Nat), 5 ≤ D_ → xrun D_ 131 0 [(0, .int v301)] [] h_ (some (.int v501), h_, [])) (p1_ : ∀ (h_ : xH) (D_ : Nat), 5 ≤ D_ → xrun D_ 133 0 [(0, .int v301)] [] h_ (some (.int v502), h_, [])) (c0_ : v2.toInt < v300.toInt) : ∃ h', ysm h_ h' ∧ (((¬ v501 = (0 : Int32)) ∧ (∀ a_ j_ : Nat, bpat h' a_ j_ = bpat h_ a_ j_) ∧ (bldD 60 43 2 [(2, .int v2), (3, .int v903), (0, .index a1000), (1, .int (1 : Int32))] [] h_ 2 [(2, .int (v2 + (1 : Int32))), (3, .int (1 : Int32)), (0, .index a1000), (1, .int (1 : Int32))] [] h'))
  ∨ ((¬ (v2 - v2 / (2 : Int32) * (2 : Int32)) = (0 : Int32)) ∧ (v501 = (0 : Int32)) ∧ (bpat h' a1001 (v2).toInt.toNat = some (.int v502)) ∧ (∀ a_ j_ : Nat, ¬ (a_ = a1001 ∧ j_ = (v2).toInt.toNat) → bpat h' a_ j_ = bpat h_ a_ j_) ∧ (bldD 60 43 2 [(2, .int v2), (3, .int v903), (0, .index a1000), (1, .int (1 : Int32))] [] h_ 2 [(2, .int (v2 + (1 : Int32))), (3, .int (0 : Int32)), (0, .index a1000), (1, .int (1 : Int32))] [] h'))
  ∨ (((v2 - v2 / (2 : Int32) * (2 : Int32)) = (0 : Int32)) ∧ (v501 = (0 : Int32)) ∧ (∀ a_ j_ : Nat, bpat h' a_ j_ = bpat h_ a_ j_) ∧ (bldD 60 43 2 [(2, .int v2), (3, .int v903), (0, .index a1000), (1, .int (1 : Int32))] [] h_ 2 [(2, .int (v2 + (1 : Int32))), (3, .int (1 : Int32)), (0, .index a1000), (1, .int (1 : Int32))] [] h'))) := by
  have hA : yas tSN1_v1_A (tSN1_v1_r v2 v300 v301 v501 v502 v903) (yg (tSN1_v1_s a1000 a1001)) := ⟨List.forall_mem_cons.mpr ⟨b0, fun q_ hq => absurd hq List.not_mem_nil⟩, fun q_ hq => absurd hq List.not_mem_nil, fun q_ hq => absurd hq List.not_mem_nil, fun n_ hn => yg_lo hn, List.forall_mem_cons.mpr ⟨p0_, List.forall_mem_cons.mpr ⟨p1_, fun q_ hq => absurd hq List.not_mem_nil⟩⟩⟩
  have Hs : ysh tSN1_v1_A.1 (yg (tSN1_v1_s a1000 a1001)) h_ := ysh_of2 hs (List.forall_mem_cons.mpr ⟨⟨by decide, k1000⟩, List.forall_mem_cons.mpr ⟨⟨by decide, k1001⟩, fun q_ hq => absurd hq List.not_mem_nil⟩⟩)
  have Ho : ymem (tSN1_v1_r v2 v300 v301 v501 v502 v903) (yg (tSN1_v1_s a1000 a1001)) tSN1_v1_O h_ := List.forall_mem_cons.mpr ⟨bpat_some o0_, List.forall_mem_cons.mpr ⟨bpat_some o1, List.forall_mem_cons.mpr ⟨bpat_some o2, fun q_ hq => absurd hq List.not_mem_nil⟩⟩⟩
  have HC : ∀ q_ ∈ tSN1_v1_C, xhold (tSN1_v1_r v2 v300 v301 v501 v502 v903) q_ := List.forall_mem_cons.mpr ⟨xh_ltT c0_, fun q_ hq => absurd hq List.not_mem_nil⟩
  rcases yrun (yis_ok tSN1_v1_k) hA Hs Ho HC with ⟨q_, hq, h', K_, G_⟩ | ⟨q_, hq, h', K_, G_⟩
  · rcases List.mem_cons.mp hq with e_ | hq
    · subst e_
      exact ⟨h', yfr_sm K_.2.2.2 hs K_.1 (ywa_s tSN1_v1_w List.mem_cons_self), Or.inl (⟨xq_eqF rfl rfl (K_.2.2.1 _ List.mem_cons_self), fun a_ j_ => yfr_bp K_.2.2.2 (fun q_ hq => absurd hq List.not_mem_nil), G_⟩)⟩
    rcases List.mem_cons.mp hq with e_ | hq
    · subst e_
      exact ⟨h', yfr_sm K_.2.2.2 hs K_.1 (ywa_s tSN1_v1_w (List.mem_cons_of_mem _ List.mem_cons_self)), Or.inr (Or.inl (⟨xq_eqF rfl rfl (K_.2.2.1 _ List.mem_cons_self), xq_eqT rfl rfl (K_.2.2.1 _ (List.mem_cons_of_mem _ List.mem_cons_self)), bpat_of (K_.2.1 _ List.mem_cons_self), fun a_ j_ n0_ => yfr_bp K_.2.2.2 (List.forall_mem_cons.mpr ⟨fun e_ => n0_ ⟨e_.1.symm, e_.2.symm⟩, fun q_ hq => absurd hq List.not_mem_nil⟩), G_⟩))⟩
    have e_ := List.mem_singleton.mp hq
    subst e_
    exact ⟨h', yfr_sm K_.2.2.2 hs K_.1 (ywa_s tSN1_v1_w (List.mem_cons_of_mem _ (List.mem_cons_of_mem _ List.mem_cons_self))), Or.inr (Or.inr (⟨xq_eqT rfl rfl (K_.2.2.1 _ List.mem_cons_self), xq_eqT rfl rfl (K_.2.2.1 _ (List.mem_cons_of_mem _ List.mem_cons_self)), fun a_ j_ => yfr_bp K_.2.2.2 (fun q_ hq => absurd hq List.not_mem_nil), G_⟩))⟩
  · cases hq
def tSN1_hd (a1000 : Nat) (p1_ p2_ : Int32) (lo_ : xL) : Prop := (lo_ = [(2, .int p2_), (0, .index a1000), (1, .int p1_)]) ∨ (∃ y3 : Int32, lo_ = [(2, .int p2_), (3, .int y3), (0, .index a1000), (1, .int p1_)])
theorem tSN1 {h_ : xH} {a1000 a1001 : Nat} {v2 v300 v301 v501 v502 : Int32} {lo_ : xL} (hs : sHp h_) (k1000 : bcq h_ a1000 6 2) (k1001 : bcq h_ a1001 20 12) (o0_ : bpat h_ a1000 1 = some (.int v300)) (o1 : bpat h_ a1000 0 = some (.index a1001)) (o2 : bpat h_ a1001 (v2).toInt.toNat = some (.int v301)) (b0 : 0 ≤ (v2).toInt ∧ (v2).toInt < 12) (p0_ : ∀ (h_ : xH) (D_ : Nat), 5 ≤ D_ → xrun D_ 131 0 [(0, .int v301)] [] h_ (some (.int v501), h_, [])) (p1_ : ∀ (h_ : xH) (D_ : Nat), 5 ≤ D_ → xrun D_ 133 0 [(0, .int v301)] [] h_ (some (.int v502), h_, [])) (c0_ : v2.toInt < v300.toInt) (H_ : tSN1_hd a1000 (1 : Int32) v2 lo_) : ∃ h', ysm h_ h' ∧ (((¬ v501 = (0 : Int32)) ∧ (∀ a_ j_ : Nat, bpat h' a_ j_ = bpat h_ a_ j_) ∧ (∃ lo', tSN1_hd a1000 (1 : Int32) (v2 + (1 : Int32)) lo' ∧ bldD 60 43 2 lo_ [] h_ 2 lo' [] h'))
  ∨ ((¬ (v2 - v2 / (2 : Int32) * (2 : Int32)) = (0 : Int32)) ∧ (v501 = (0 : Int32)) ∧ (bpat h' a1001 (v2).toInt.toNat = some (.int v502)) ∧ (∀ a_ j_ : Nat, ¬ (a_ = a1001 ∧ j_ = (v2).toInt.toNat) → bpat h' a_ j_ = bpat h_ a_ j_) ∧ (∃ lo', tSN1_hd a1000 (1 : Int32) (v2 + (1 : Int32)) lo' ∧ bldD 60 43 2 lo_ [] h_ 2 lo' [] h'))
  ∨ (((v2 - v2 / (2 : Int32) * (2 : Int32)) = (0 : Int32)) ∧ (v501 = (0 : Int32)) ∧ (∀ a_ j_ : Nat, bpat h' a_ j_ = bpat h_ a_ j_) ∧ (∃ lo', tSN1_hd a1000 (1 : Int32) (v2 + (1 : Int32)) lo' ∧ bldD 60 43 2 lo_ [] h_ 2 lo' [] h'))) := by
  rcases H_ with rfl | ⟨y3, rfl⟩
  · obtain ⟨h', m_, e_⟩ := tSN1_v0 hs k1000 k1001 o0_ o1 o2 b0 p0_ p1_ c0_
    refine ⟨h', m_, ?_⟩
    rcases e_ with e_ | e_ | e_
    · obtain ⟨g0, g1, g2⟩ := e_
      exact Or.inl ⟨g0, g1, ⟨_, Or.inr (⟨_, rfl⟩), g2⟩⟩
    · obtain ⟨g0, g1, g2, g3_, g4⟩ := e_
      exact Or.inr (Or.inl ⟨g0, g1, g2, g3_, ⟨_, Or.inr (⟨_, rfl⟩), g4⟩⟩)
    · obtain ⟨g0, g1, g2, g3_⟩ := e_
      exact Or.inr (Or.inr (⟨g0, g1, g2, ⟨_, Or.inr (⟨_, rfl⟩), g3_⟩⟩))
  · obtain ⟨h', m_, e_⟩ := tSN1_v1 hs k1000 k1001 o0_ o1 o2 b0 p0_ p1_ c0_
    refine ⟨h', m_, ?_⟩
    rcases e_ with e_ | e_ | e_
    · obtain ⟨g0, g1, g2⟩ := e_
      exact Or.inl ⟨g0, g1, ⟨_, Or.inr (⟨_, rfl⟩), g2⟩⟩
    · obtain ⟨g0, g1, g2, g3_, g4⟩ := e_
      exact Or.inr (Or.inl ⟨g0, g1, g2, g3_, ⟨_, Or.inr (⟨_, rfl⟩), g4⟩⟩)
    · obtain ⟨g0, g1, g2, g3_⟩ := e_
      exact Or.inr (Or.inr (⟨g0, g1, g2, ⟨_, Or.inr (⟨_, rfl⟩), g3_⟩⟩))
-- xSN1_v0: 5 steps, 0 ends, 1 returns
def xSN1_v0_L : List (Nat × Nat × Nat) := [(1000, 6, 2), (1001, 20, 12)]
def xSN1_v0_O : yO := [(1000, .int 1, .arg 300)]
def xSN1_v0_A : yA := (yZ xSN1_v0_L, [], [], [], [])
def xSN1_v0_C : List xB := [(.lt, .arg 2, .arg 300, false)]
def xSN1_v0_ss : List yS := []
def xSN1_v0_rs : List yR := [(none, [(1000, .int 1, .arg 300)], [(.lt, .arg 2, .arg 300, false)], [])]
theorem xSN1_v0_w : ywa xSN1_v0_A xSN1_v0_ss xSN1_v0_rs = true := by decide +kernel
theorem xSN1_v0_k : yis (yev xSN1_v0_A 3000 60 43 [2] (2, [(2, .arg 2), (0, .index 1000), (1, .int 1)], [], xSN1_v0_O, xSN1_v0_C, [])) xSN1_v0_ss xSN1_v0_rs = true := by decide +kernel
def xSN1_v0_r (v2 v300 : Int32) (k_ : Nat) : Value := bif Nat.beq k_ 2 then .int v2 else (bif Nat.beq k_ 300 then .int v300 else (.int 0))
def xSN1_v0_s (a1000 a1001 : Nat) (n_ : Nat) : Nat := bif Nat.beq n_ 1000 then a1000 else (bif Nat.beq n_ 1001 then a1001 else (0))
theorem xSN1_v0 {h_ : xH} {a1000 a1001 : Nat} {v2 v300 : Int32} (hs : sHp h_) (k1000 : bcq h_ a1000 6 2) (k1001 : bcq h_ a1001 20 12) (o0_ : bpat h_ a1000 1 = some (.int v300)) (c0_ : v300.toInt ≤ v2.toInt) : ∃ h', ysm h_ h' ∧ (((∀ a_ j_ : Nat, bpat h' a_ j_ = bpat h_ a_ j_) ∧ (∀ D_, 60 ≤ D_ → xrun D_ 43 2 [(2, .int v2), (0, .index a1000), (1, .int (1 : Int32))] [] h_ (none, h', [])))) := by
  have hA : yas xSN1_v0_A (xSN1_v0_r v2 v300) (yg (xSN1_v0_s a1000 a1001)) := ⟨fun q_ hq => absurd hq List.not_mem_nil, fun q_ hq => absurd hq List.not_mem_nil, fun q_ hq => absurd hq List.not_mem_nil, fun n_ hn => yg_lo hn, fun q_ hq => absurd hq List.not_mem_nil⟩
  have Hs : ysh xSN1_v0_A.1 (yg (xSN1_v0_s a1000 a1001)) h_ := ysh_of2 hs (List.forall_mem_cons.mpr ⟨⟨by decide, k1000⟩, List.forall_mem_cons.mpr ⟨⟨by decide, k1001⟩, fun q_ hq => absurd hq List.not_mem_nil⟩⟩)
  have Ho : ymem (xSN1_v0_r v2 v300) (yg (xSN1_v0_s a1000 a1001)) xSN1_v0_O h_ := List.forall_mem_cons.mpr ⟨bpat_some o0_, fun q_ hq => absurd hq List.not_mem_nil⟩
  have HC : ∀ q_ ∈ xSN1_v0_C, xhold (xSN1_v0_r v2 v300) q_ := List.forall_mem_cons.mpr ⟨xh_ltF c0_, fun q_ hq => absurd hq List.not_mem_nil⟩
  rcases yrun (yis_ok xSN1_v0_k) hA Hs Ho HC with ⟨q_, hq, h', K_, G_⟩ | ⟨q_, hq, h', K_, G_⟩
  · cases hq
  · have e_ := List.mem_singleton.mp hq
    subst e_
    exact ⟨h', yfr_sm K_.2.2.2 hs K_.1 (ywa_r xSN1_v0_w List.mem_cons_self), ⟨fun a_ j_ => yfr_bp K_.2.2.2 (fun q_ hq => absurd hq List.not_mem_nil), G_⟩⟩
-- xSN1_v1: 5 steps, 0 ends, 1 returns
def xSN1_v1_L : List (Nat × Nat × Nat) := [(1000, 6, 2), (1001, 20, 12)]
def xSN1_v1_O : yO := [(1000, .int 1, .arg 300)]
def xSN1_v1_A : yA := (yZ xSN1_v1_L, [], [], [], [])
def xSN1_v1_C : List xB := [(.lt, .arg 2, .arg 300, false)]
def xSN1_v1_ss : List yS := []
def xSN1_v1_rs : List yR := [(none, [(1000, .int 1, .arg 300)], [(.lt, .arg 2, .arg 300, false)], [])]
theorem xSN1_v1_w : ywa xSN1_v1_A xSN1_v1_ss xSN1_v1_rs = true := by decide +kernel
theorem xSN1_v1_k : yis (yev xSN1_v1_A 3000 60 43 [2] (2, [(2, .arg 2), (3, .arg 903), (0, .index 1000), (1, .int 1)], [], xSN1_v1_O, xSN1_v1_C, [])) xSN1_v1_ss xSN1_v1_rs = true := by decide +kernel
def xSN1_v1_r (v2 v300 v903 : Int32) (k_ : Nat) : Value := bif Nat.beq k_ 2 then .int v2 else (bif Nat.beq k_ 300 then .int v300 else (bif Nat.beq k_ 903 then .int v903 else (.int 0)))
def xSN1_v1_s (a1000 a1001 : Nat) (n_ : Nat) : Nat := bif Nat.beq n_ 1000 then a1000 else (bif Nat.beq n_ 1001 then a1001 else (0))
theorem xSN1_v1 {h_ : xH} {a1000 a1001 : Nat} {v2 v300 v903 : Int32} (hs : sHp h_) (k1000 : bcq h_ a1000 6 2) (k1001 : bcq h_ a1001 20 12) (o0_ : bpat h_ a1000 1 = some (.int v300)) (c0_ : v300.toInt ≤ v2.toInt) : ∃ h', ysm h_ h' ∧ (((∀ a_ j_ : Nat, bpat h' a_ j_ = bpat h_ a_ j_) ∧ (∀ D_, 60 ≤ D_ → xrun D_ 43 2 [(2, .int v2), (3, .int v903), (0, .index a1000), (1, .int (1 : Int32))] [] h_ (none, h', [])))) := by
  have hA : yas xSN1_v1_A (xSN1_v1_r v2 v300 v903) (yg (xSN1_v1_s a1000 a1001)) := ⟨fun q_ hq => absurd hq List.not_mem_nil, fun q_ hq => absurd hq List.not_mem_nil, fun q_ hq => absurd hq List.not_mem_nil, fun n_ hn => yg_lo hn, fun q_ hq => absurd hq List.not_mem_nil⟩
  have Hs : ysh xSN1_v1_A.1 (yg (xSN1_v1_s a1000 a1001)) h_ := ysh_of2 hs (List.forall_mem_cons.mpr ⟨⟨by decide, k1000⟩, List.forall_mem_cons.mpr ⟨⟨by decide, k1001⟩, fun q_ hq => absurd hq List.not_mem_nil⟩⟩)
  have Ho : ymem (xSN1_v1_r v2 v300 v903) (yg (xSN1_v1_s a1000 a1001)) xSN1_v1_O h_ := List.forall_mem_cons.mpr ⟨bpat_some o0_, fun q_ hq => absurd hq List.not_mem_nil⟩
  have HC : ∀ q_ ∈ xSN1_v1_C, xhold (xSN1_v1_r v2 v300 v903) q_ := List.forall_mem_cons.mpr ⟨xh_ltF c0_, fun q_ hq => absurd hq List.not_mem_nil⟩
  rcases yrun (yis_ok xSN1_v1_k) hA Hs Ho HC with ⟨q_, hq, h', K_, G_⟩ | ⟨q_, hq, h', K_, G_⟩
  · cases hq
  · have e_ := List.mem_singleton.mp hq
    subst e_
    exact ⟨h', yfr_sm K_.2.2.2 hs K_.1 (ywa_r xSN1_v1_w List.mem_cons_self), ⟨fun a_ j_ => yfr_bp K_.2.2.2 (fun q_ hq => absurd hq List.not_mem_nil), G_⟩⟩
theorem xSN1 {h_ : xH} {a1000 a1001 : Nat} {v2 v300 : Int32} {lo_ : xL} (hs : sHp h_) (k1000 : bcq h_ a1000 6 2) (k1001 : bcq h_ a1001 20 12) (o0_ : bpat h_ a1000 1 = some (.int v300)) (c0_ : v300.toInt ≤ v2.toInt) (H_ : tSN1_hd a1000 (1 : Int32) v2 lo_) : ∃ h', ysm h_ h' ∧ (((∀ a_ j_ : Nat, bpat h' a_ j_ = bpat h_ a_ j_) ∧ (∀ D_, 60 ≤ D_ → xrun D_ 43 2 lo_ [] h_ (none, h', [])))) := by
  rcases H_ with rfl | ⟨y3, rfl⟩
  · obtain ⟨h', m_, e_⟩ := xSN1_v0 hs k1000 k1001 o0_ c0_
    refine ⟨h', m_, ?_⟩
    obtain ⟨g0, g1⟩ := e_
    exact ⟨g0, g1⟩
  · obtain ⟨h', m_, e_⟩ := xSN1_v1 hs k1000 k1001 o0_ c0_
    refine ⟨h', m_, ?_⟩
    obtain ⟨g0, g1⟩ := e_
    exact ⟨g0, g1⟩
-- eSN1: 2 steps, 1 ends, 0 returns
def eSN1_L : List (Nat × Nat × Nat) := [(1000, 6, 2)]
def eSN1_O : yO := []
def eSN1_A : yA := (yZ eSN1_L, [], [], [], [])
def eSN1_C : List xB := []
def eSN1_ss : List yS := [(2, [(2, .int 0), (0, .index 1000), (1, .int 1)], [], [], [], [])]
def eSN1_rs : List yR := []
theorem eSN1_w : ywa eSN1_A eSN1_ss eSN1_rs = true := by decide +kernel
theorem eSN1_k : yis (yev eSN1_A 3000 60 43 [2] (0, [(0, .index 1000), (1, .int 1)], [], eSN1_O, eSN1_C, [])) eSN1_ss eSN1_rs = true := by decide +kernel
def eSN1_r (k_ : Nat) : Value := .int 0
def eSN1_s (a1000 : Nat) (n_ : Nat) : Nat := bif Nat.beq n_ 1000 then a1000 else (0)
theorem eSN1 {h_ : xH} {a1000 : Nat} (hs : sHp h_) (k1000 : bcq h_ a1000 6 2) : ∃ h', ysm h_ h' ∧ (((∀ a_ j_ : Nat, bpat h' a_ j_ = bpat h_ a_ j_) ∧ (bldD 60 43 0 [(0, .index a1000), (1, .int (1 : Int32))] [] h_ 2 [(2, .int (0 : Int32)), (0, .index a1000), (1, .int (1 : Int32))] [] h'))) := by
  have hA : yas eSN1_A eSN1_r (yg (eSN1_s a1000)) := ⟨fun q_ hq => absurd hq List.not_mem_nil, fun q_ hq => absurd hq List.not_mem_nil, fun q_ hq => absurd hq List.not_mem_nil, fun n_ hn => yg_lo hn, fun q_ hq => absurd hq List.not_mem_nil⟩
  have Hs : ysh eSN1_A.1 (yg (eSN1_s a1000)) h_ := ysh_of2 hs (List.forall_mem_cons.mpr ⟨⟨by decide, k1000⟩, fun q_ hq => absurd hq List.not_mem_nil⟩)
  have Ho : ymem eSN1_r (yg (eSN1_s a1000)) eSN1_O h_ := fun q_ hq => absurd hq List.not_mem_nil
  have HC : ∀ q_ ∈ eSN1_C, xhold eSN1_r q_ := fun q_ hq => absurd hq List.not_mem_nil
  rcases yrun (yis_ok eSN1_k) hA Hs Ho HC with ⟨q_, hq, h', K_, G_⟩ | ⟨q_, hq, h', K_, G_⟩
  · have e_ := List.mem_singleton.mp hq
    subst e_
    exact ⟨h', yfr_sm K_.2.2.2 hs K_.1 (ywa_s eSN1_w List.mem_cons_self), ⟨fun a_ j_ => yfr_bp K_.2.2.2 (fun q_ hq => absurd hq List.not_mem_nil), G_⟩⟩
  · cases hq
/-- NAY's turn of a SOUND in place j -/
def nay0 (_ : Nat) (x_ : Int32) : Int32 := if puN_F x_ = 0 then puC_F x_ else x_
def nay1 (j_ : Nat) (x_ : Int32) : Int32 := if puN_F x_ = 0 then (if Int32.ofNat j_ - Int32.ofNat j_ / 2 * 2 = 0 then x_ else puC_F x_) else x_
def rW (a_ b_ : Nat) (h_ : xH) (l : List Int32) : Prop := sHp h_ ∧ (rwx h_ a_ b_ 12 l ∧ l.length ≤ 12)
/-- NAY, the class -/
theorem sayNay0 {a_ b_ : Nat} {l : List Int32} {h_ : xH} (R_ : rW a_ b_ h_ l) : ∃ h', rW a_ b_ h' (mpf nay0 0 l) ∧ frb b_ h_ h' ∧ eRet 43 0 [(0, .index a_), (1, .int 0)] h_ h' := by
  obtain ⟨h0, m0_, f0_, ld0⟩ := eSN0 (a1000 := a_) R_.1 R_.2.1.1.1
  have R0_ : rW a_ b_ h0 l := ⟨m0_.1, rwx_keep R_.2.1 m0_ (fun c_ j_ _ => f0_ c_ j_), R_.2.2⟩
  obtain ⟨h', R', F', E'_⟩ := map_loop (mi := 43) (pc := 2) (d_ := 1) (HD := fun i_ lo_ => i_ ≤ 14 ∧ tSN0_hd a_ 0 (Int32.ofNat i_) lo_) (RW := rW a_ b_) (FR := frb b_) (f_ := nay0) (E_ := eRet 43 2) (by omega) (fun i_ lo_ H_ e_ y_ h1 h2 => by omega) frb_tr eRet_led (by
    intro i_ l h_ lo_ x_ R_ hx H_
    obtain ⟨hb_, H_⟩ := H_
    obtain ⟨Rs_, ⟨⟨R1, R2⟩, ⟨R3, R4⟩, R5, R6⟩, R7⟩ := R_
    have hi_ := (List.getElem?_eq_some_iff.mp hx).1
    have e6_ : bpat h_ b_ (Int32.ofNat i_).toInt.toNat = some (.int x_) := by
      rw [i32t (by omega)]
      exact R6 i_ x_ hx
    obtain ⟨h1, m1_, e_⟩ := tSN0 Rs_ R1 R2 R4 R3 e6_ ⟨by rw [i32n (by omega)]; omega, by rw [i32n (by omega)]; omega⟩ (puN x_) (puC x_) (by rw [i32n (by omega), i32n (by omega)]; omega) H_
    have R_ : rwx h_ a_ b_ 12 l := ⟨⟨R1, R2⟩, ⟨R3, R4⟩, R5, R6⟩
    rw [i32s, i32t (i_ := i_) (by omega)] at e_
    rcases e_ with ⟨g0, f1_, lo', H', ld⟩ | ⟨g0, e1_, f1_, lo', H', ld⟩
    · have en : nay0 i_ x_ = x_ := if_neg g0
      refine ⟨h1, lo', ⟨m1_.1, ?_, by rw [List.length_set]; exact R7⟩, ⟨m1_, fun c_ j_ _ => f1_ c_ j_⟩, ⟨by omega, H'⟩, ld⟩
      rw [en, set_same hx]
      exact rwx_keep R_ m1_ (fun c_ j_ _ => f1_ c_ j_)
    · have en : nay0 i_ x_ = puC_F x_ := if_pos g0
      refine ⟨h1, lo', ⟨m1_.1, ?_, by rw [List.length_set]; exact R7⟩, ⟨m1_, fun c_ j_ n_ => f1_ c_ j_ (fun q_ => n_ q_.1)⟩, ⟨by omega, H'⟩, ld⟩
      rw [en]
      exact rwx_set R_ m1_ hi_ e1_ f1_) (by
    intro i_ l h_ lo_ R_ hl H_
    obtain ⟨hb_, H_⟩ := H_
    obtain ⟨Rs_, ⟨⟨R1, R2⟩, ⟨R3, R4⟩, R5, R6⟩, R7⟩ := R_
    obtain ⟨h1, m1_, f1_, e1_⟩ := xSN0 Rs_ R1 R2 R4 (by rw [i32n (by omega), i32n (by omega)]; omega) H_
    exact ⟨h1, ⟨m1_.1, rwx_keep ⟨⟨R1, R2⟩, ⟨R3, R4⟩, R5, R6⟩ m1_ (fun c_ j_ _ => f1_ c_ j_), R7⟩, ⟨m1_, fun c_ j_ _ => f1_ c_ j_⟩, e1_⟩) l.length 0 l h0 _ (by omega) R0_ ⟨by omega, Or.inl rfl⟩
  exact ⟨h', R', frb_tr _ _ _ ⟨m0_, fun c_ j_ _ => f0_ c_ j_⟩ F', fun D_ hD => ld0 D_ hD _ (E'_ D_ hD)⟩
/-- SECOND, the class -/
theorem sayNay1 {a_ b_ : Nat} {l : List Int32} {h_ : xH} (R_ : rW a_ b_ h_ l) : ∃ h', rW a_ b_ h' (mpf nay1 0 l) ∧ frb b_ h_ h' ∧ eRet 43 0 [(0, .index a_), (1, .int 1)] h_ h' := by
  obtain ⟨h0, m0_, f0_, ld0⟩ := eSN1 (a1000 := a_) R_.1 R_.2.1.1.1
  have R0_ : rW a_ b_ h0 l := ⟨m0_.1, rwx_keep R_.2.1 m0_ (fun c_ j_ _ => f0_ c_ j_), R_.2.2⟩
  obtain ⟨h', R', F', E'_⟩ := map_loop (mi := 43) (pc := 2) (d_ := 1) (HD := fun i_ lo_ => i_ ≤ 14 ∧ tSN1_hd a_ 1 (Int32.ofNat i_) lo_) (RW := rW a_ b_) (FR := frb b_) (f_ := nay1) (E_ := eRet 43 2) (by omega) (fun i_ lo_ H_ e_ y_ h1 h2 => by omega) frb_tr eRet_led (by
    intro i_ l h_ lo_ x_ R_ hx H_
    obtain ⟨hb_, H_⟩ := H_
    obtain ⟨Rs_, ⟨⟨R1, R2⟩, ⟨R3, R4⟩, R5, R6⟩, R7⟩ := R_
    have hi_ := (List.getElem?_eq_some_iff.mp hx).1
    have e6_ : bpat h_ b_ (Int32.ofNat i_).toInt.toNat = some (.int x_) := by
      rw [i32t (by omega)]
      exact R6 i_ x_ hx
    obtain ⟨h1, m1_, e_⟩ := tSN1 Rs_ R1 R2 R4 R3 e6_ ⟨by rw [i32n (by omega)]; omega, by rw [i32n (by omega)]; omega⟩ (puN x_) (puC x_) (by rw [i32n (by omega), i32n (by omega)]; omega) H_
    have R_ : rwx h_ a_ b_ 12 l := ⟨⟨R1, R2⟩, ⟨R3, R4⟩, R5, R6⟩
    rw [i32s, i32t (i_ := i_) (by omega)] at e_
    rcases e_ with ⟨g0, f1_, lo', H', ld⟩ | ⟨g1, g0, e1_, f1_, lo', H', ld⟩ | ⟨g1, g0, f1_, lo', H', ld⟩
    · have en : nay1 i_ x_ = x_ := if_neg g0
      refine ⟨h1, lo', ⟨m1_.1, ?_, by rw [List.length_set]; exact R7⟩, ⟨m1_, fun c_ j_ _ => f1_ c_ j_⟩, ⟨by omega, H'⟩, ld⟩
      rw [en, set_same hx]
      exact rwx_keep R_ m1_ (fun c_ j_ _ => f1_ c_ j_)
    · have en : nay1 i_ x_ = puC_F x_ := (if_pos g0).trans (if_neg g1)
      refine ⟨h1, lo', ⟨m1_.1, ?_, by rw [List.length_set]; exact R7⟩, ⟨m1_, fun c_ j_ n_ => f1_ c_ j_ (fun q_ => n_ q_.1)⟩, ⟨by omega, H'⟩, ld⟩
      rw [en]
      exact rwx_set R_ m1_ hi_ e1_ f1_
    · have en : nay1 i_ x_ = x_ := (if_pos g0).trans (if_pos g1)
      refine ⟨h1, lo', ⟨m1_.1, ?_, by rw [List.length_set]; exact R7⟩, ⟨m1_, fun c_ j_ _ => f1_ c_ j_⟩, ⟨by omega, H'⟩, ld⟩
      rw [en, set_same hx]
      exact rwx_keep R_ m1_ (fun c_ j_ _ => f1_ c_ j_)) (by
    intro i_ l h_ lo_ R_ hl H_
    obtain ⟨hb_, H_⟩ := H_
    obtain ⟨Rs_, ⟨⟨R1, R2⟩, ⟨R3, R4⟩, R5, R6⟩, R7⟩ := R_
    obtain ⟨h1, m1_, f1_, e1_⟩ := xSN1 Rs_ R1 R2 R4 (by rw [i32n (by omega), i32n (by omega)]; omega) H_
    exact ⟨h1, ⟨m1_.1, rwx_keep ⟨⟨R1, R2⟩, ⟨R3, R4⟩, R5, R6⟩ m1_ (fun c_ j_ _ => f1_ c_ j_), R7⟩, ⟨m1_, fun c_ j_ _ => f1_ c_ j_⟩, e1_⟩) l.length 0 l h0 _ (by omega) R0_ ⟨by omega, Or.inl rfl⟩
  exact ⟨h', R', frb_tr _ _ _ ⟨m0_, fun c_ j_ _ => f0_ c_ j_⟩ F', fun D_ hD => ld0 D_ hD _ (E'_ D_ hD)⟩
-- tTN_v0: 23 steps, 2 ends, 0 returns
def tTN_v0_L : List (Nat × Nat × Nat) := [(1000, 6, 2), (1001, 20, 12)]
def tTN_v0_O : yO := [(1000, .int 1, .arg 300), (1000, .int 0, .index 1001), (1001, .arg 2, .arg 301)]
def tTN_v0_A : yA := (yZ tTN_v0_L, [(.arg 2, 12)], [], [], [(131, [.arg 301], .arg 501), (133, [.arg 301], .arg 502)])
def tTN_v0_C : List xB := [(.lt, .arg 2, .arg 300, true)]
def tTN_v0_ss : List yS := [(2, [(1, .add (.arg 2) (.int 1)), (0, .index 1000)], [], [(1000, .int 1, .arg 300), (1000, .int 0, .index 1001), (1001, .arg 2, .arg 301)], [(.eq, .arg 501, .int 0, true), (.lt, .arg 2, .arg 300, true)], []),
  (2, [(1, .add (.arg 2) (.int 1)), (0, .index 1000)], [], [(1001, .arg 2, .arg 502), (1000, .int 1, .arg 300), (1000, .int 0, .index 1001)], [(.eq, .arg 501, .int 0, false), (.lt, .arg 2, .arg 300, true)], [(1001, .arg 2)])]
def tTN_v0_rs : List yR := []
theorem tTN_v0_w : ywa tTN_v0_A tTN_v0_ss tTN_v0_rs = true := by decide +kernel
theorem tTN_v0_k : yis (yev tTN_v0_A 3000 60 44 [2] (2, [(1, .arg 2), (0, .index 1000)], [], tTN_v0_O, tTN_v0_C, [])) tTN_v0_ss tTN_v0_rs = true := by decide +kernel
def tTN_v0_r (v2 v300 v301 v501 v502 : Int32) (k_ : Nat) : Value := bif Nat.beq k_ 2 then .int v2 else (bif Nat.beq k_ 300 then .int v300 else (bif Nat.beq k_ 301 then .int v301 else (bif Nat.beq k_ 501 then .int v501 else (bif Nat.beq k_ 502 then .int v502 else (.int 0)))))
def tTN_v0_s (a1000 a1001 : Nat) (n_ : Nat) : Nat := bif Nat.beq n_ 1000 then a1000 else (bif Nat.beq n_ 1001 then a1001 else (0))
theorem tTN_v0 {h_ : xH} {a1000 a1001 : Nat} {v2 v300 v301 v501 v502 : Int32} (hs : sHp h_) (k1000 : bcq h_ a1000 6 2) (k1001 : bcq h_ a1001 20 12) (o0_ : bpat h_ a1000 1 = some (.int v300)) (o1 : bpat h_ a1000 0 = some (.index a1001)) (o2 : bpat h_ a1001 (v2).toInt.toNat = some (.int v301)) (b0 : 0 ≤ (v2).toInt ∧ (v2).toInt < 12) (p0_ : ∀ (h_ : xH) (D_ : Nat), 5 ≤ D_ → xrun D_ 131 0 [(0, .int v301)] [] h_ (some (.int v501), h_, [])) (p1_ : ∀ (h_ : xH) (D_ : Nat), 5 ≤ D_ → xrun D_ 133 0 [(0, .int v301)] [] h_ (some (.int v502), h_, [])) (c0_ : v2.toInt < v300.toInt) : ∃ h', ysm h_ h' ∧ (((v501 = (0 : Int32)) ∧ (∀ a_ j_ : Nat, bpat h' a_ j_ = bpat h_ a_ j_) ∧ (bldD 60 44 2 [(1, .int v2), (0, .index a1000)] [] h_ 2 [(1, .int (v2 + (1 : Int32))), (0, .index a1000)] [] h'))
  ∨ ((¬ v501 = (0 : Int32)) ∧ (bpat h' a1001 (v2).toInt.toNat = some (.int v502)) ∧ (∀ a_ j_ : Nat, ¬ (a_ = a1001 ∧ j_ = (v2).toInt.toNat) → bpat h' a_ j_ = bpat h_ a_ j_) ∧ (bldD 60 44 2 [(1, .int v2), (0, .index a1000)] [] h_ 2 [(1, .int (v2 + (1 : Int32))), (0, .index a1000)] [] h'))) := by
  have hA : yas tTN_v0_A (tTN_v0_r v2 v300 v301 v501 v502) (yg (tTN_v0_s a1000 a1001)) := ⟨List.forall_mem_cons.mpr ⟨b0, fun q_ hq => absurd hq List.not_mem_nil⟩, fun q_ hq => absurd hq List.not_mem_nil, fun q_ hq => absurd hq List.not_mem_nil, fun n_ hn => yg_lo hn, List.forall_mem_cons.mpr ⟨p0_, List.forall_mem_cons.mpr ⟨p1_, fun q_ hq => absurd hq List.not_mem_nil⟩⟩⟩
  have Hs : ysh tTN_v0_A.1 (yg (tTN_v0_s a1000 a1001)) h_ := ysh_of2 hs (List.forall_mem_cons.mpr ⟨⟨by decide, k1000⟩, List.forall_mem_cons.mpr ⟨⟨by decide, k1001⟩, fun q_ hq => absurd hq List.not_mem_nil⟩⟩)
  have Ho : ymem (tTN_v0_r v2 v300 v301 v501 v502) (yg (tTN_v0_s a1000 a1001)) tTN_v0_O h_ := List.forall_mem_cons.mpr ⟨bpat_some o0_, List.forall_mem_cons.mpr ⟨bpat_some o1, List.forall_mem_cons.mpr ⟨bpat_some o2, fun q_ hq => absurd hq List.not_mem_nil⟩⟩⟩
  have HC : ∀ q_ ∈ tTN_v0_C, xhold (tTN_v0_r v2 v300 v301 v501 v502) q_ := List.forall_mem_cons.mpr ⟨xh_ltT c0_, fun q_ hq => absurd hq List.not_mem_nil⟩
  rcases yrun (yis_ok tTN_v0_k) hA Hs Ho HC with ⟨q_, hq, h', K_, G_⟩ | ⟨q_, hq, h', K_, G_⟩
  · rcases List.mem_cons.mp hq with e_ | hq
    · subst e_
      exact ⟨h', yfr_sm K_.2.2.2 hs K_.1 (ywa_s tTN_v0_w List.mem_cons_self), Or.inl (⟨xq_eqT rfl rfl (K_.2.2.1 _ List.mem_cons_self), fun a_ j_ => yfr_bp K_.2.2.2 (fun q_ hq => absurd hq List.not_mem_nil), G_⟩)⟩
    have e_ := List.mem_singleton.mp hq
    subst e_
    exact ⟨h', yfr_sm K_.2.2.2 hs K_.1 (ywa_s tTN_v0_w (List.mem_cons_of_mem _ List.mem_cons_self)), Or.inr (⟨xq_eqF rfl rfl (K_.2.2.1 _ List.mem_cons_self), bpat_of (K_.2.1 _ List.mem_cons_self), fun a_ j_ n0_ => yfr_bp K_.2.2.2 (List.forall_mem_cons.mpr ⟨fun e_ => n0_ ⟨e_.1.symm, e_.2.symm⟩, fun q_ hq => absurd hq List.not_mem_nil⟩), G_⟩)⟩
  · cases hq
def tTN_hd (a1000 : Nat) (p1_ : Int32) (lo_ : xL) : Prop := (lo_ = [(1, .int p1_), (0, .index a1000)])
theorem tTN {h_ : xH} {a1000 a1001 : Nat} {v2 v300 v301 v501 v502 : Int32} {lo_ : xL} (hs : sHp h_) (k1000 : bcq h_ a1000 6 2) (k1001 : bcq h_ a1001 20 12) (o0_ : bpat h_ a1000 1 = some (.int v300)) (o1 : bpat h_ a1000 0 = some (.index a1001)) (o2 : bpat h_ a1001 (v2).toInt.toNat = some (.int v301)) (b0 : 0 ≤ (v2).toInt ∧ (v2).toInt < 12) (p0_ : ∀ (h_ : xH) (D_ : Nat), 5 ≤ D_ → xrun D_ 131 0 [(0, .int v301)] [] h_ (some (.int v501), h_, [])) (p1_ : ∀ (h_ : xH) (D_ : Nat), 5 ≤ D_ → xrun D_ 133 0 [(0, .int v301)] [] h_ (some (.int v502), h_, [])) (c0_ : v2.toInt < v300.toInt) (H_ : tTN_hd a1000 v2 lo_) : ∃ h', ysm h_ h' ∧ (((v501 = (0 : Int32)) ∧ (∀ a_ j_ : Nat, bpat h' a_ j_ = bpat h_ a_ j_) ∧ (∃ lo', tTN_hd a1000 (v2 + (1 : Int32)) lo' ∧ bldD 60 44 2 lo_ [] h_ 2 lo' [] h'))
  ∨ ((¬ v501 = (0 : Int32)) ∧ (bpat h' a1001 (v2).toInt.toNat = some (.int v502)) ∧ (∀ a_ j_ : Nat, ¬ (a_ = a1001 ∧ j_ = (v2).toInt.toNat) → bpat h' a_ j_ = bpat h_ a_ j_) ∧ (∃ lo', tTN_hd a1000 (v2 + (1 : Int32)) lo' ∧ bldD 60 44 2 lo_ [] h_ 2 lo' [] h'))) := by
  rcases H_ with rfl
  · obtain ⟨h', m_, e_⟩ := tTN_v0 hs k1000 k1001 o0_ o1 o2 b0 p0_ p1_ c0_
    refine ⟨h', m_, ?_⟩
    rcases e_ with e_ | e_
    · obtain ⟨g0, g1, g2⟩ := e_
      exact Or.inl ⟨g0, g1, ⟨_, rfl, g2⟩⟩
    · obtain ⟨g0, g1, g2, g3_⟩ := e_
      exact Or.inr (⟨g0, g1, g2, ⟨_, rfl, g3_⟩⟩)
-- xTN_v0: 5 steps, 0 ends, 1 returns
def xTN_v0_L : List (Nat × Nat × Nat) := [(1000, 6, 2), (1001, 20, 12)]
def xTN_v0_O : yO := [(1000, .int 1, .arg 300)]
def xTN_v0_A : yA := (yZ xTN_v0_L, [], [], [], [])
def xTN_v0_C : List xB := [(.lt, .arg 2, .arg 300, false)]
def xTN_v0_ss : List yS := []
def xTN_v0_rs : List yR := [(none, [(1000, .int 1, .arg 300)], [(.lt, .arg 2, .arg 300, false)], [])]
theorem xTN_v0_w : ywa xTN_v0_A xTN_v0_ss xTN_v0_rs = true := by decide +kernel
theorem xTN_v0_k : yis (yev xTN_v0_A 3000 60 44 [2] (2, [(1, .arg 2), (0, .index 1000)], [], xTN_v0_O, xTN_v0_C, [])) xTN_v0_ss xTN_v0_rs = true := by decide +kernel
def xTN_v0_r (v2 v300 : Int32) (k_ : Nat) : Value := bif Nat.beq k_ 2 then .int v2 else (bif Nat.beq k_ 300 then .int v300 else (.int 0))
def xTN_v0_s (a1000 a1001 : Nat) (n_ : Nat) : Nat := bif Nat.beq n_ 1000 then a1000 else (bif Nat.beq n_ 1001 then a1001 else (0))
theorem xTN_v0 {h_ : xH} {a1000 a1001 : Nat} {v2 v300 : Int32} (hs : sHp h_) (k1000 : bcq h_ a1000 6 2) (k1001 : bcq h_ a1001 20 12) (o0_ : bpat h_ a1000 1 = some (.int v300)) (c0_ : v300.toInt ≤ v2.toInt) : ∃ h', ysm h_ h' ∧ (((∀ a_ j_ : Nat, bpat h' a_ j_ = bpat h_ a_ j_) ∧ (∀ D_, 60 ≤ D_ → xrun D_ 44 2 [(1, .int v2), (0, .index a1000)] [] h_ (none, h', [])))) := by
  have hA : yas xTN_v0_A (xTN_v0_r v2 v300) (yg (xTN_v0_s a1000 a1001)) := ⟨fun q_ hq => absurd hq List.not_mem_nil, fun q_ hq => absurd hq List.not_mem_nil, fun q_ hq => absurd hq List.not_mem_nil, fun n_ hn => yg_lo hn, fun q_ hq => absurd hq List.not_mem_nil⟩
  have Hs : ysh xTN_v0_A.1 (yg (xTN_v0_s a1000 a1001)) h_ := ysh_of2 hs (List.forall_mem_cons.mpr ⟨⟨by decide, k1000⟩, List.forall_mem_cons.mpr ⟨⟨by decide, k1001⟩, fun q_ hq => absurd hq List.not_mem_nil⟩⟩)
  have Ho : ymem (xTN_v0_r v2 v300) (yg (xTN_v0_s a1000 a1001)) xTN_v0_O h_ := List.forall_mem_cons.mpr ⟨bpat_some o0_, fun q_ hq => absurd hq List.not_mem_nil⟩
  have HC : ∀ q_ ∈ xTN_v0_C, xhold (xTN_v0_r v2 v300) q_ := List.forall_mem_cons.mpr ⟨xh_ltF c0_, fun q_ hq => absurd hq List.not_mem_nil⟩
  rcases yrun (yis_ok xTN_v0_k) hA Hs Ho HC with ⟨q_, hq, h', K_, G_⟩ | ⟨q_, hq, h', K_, G_⟩
  · cases hq
  · have e_ := List.mem_singleton.mp hq
    subst e_
    exact ⟨h', yfr_sm K_.2.2.2 hs K_.1 (ywa_r xTN_v0_w List.mem_cons_self), ⟨fun a_ j_ => yfr_bp K_.2.2.2 (fun q_ hq => absurd hq List.not_mem_nil), G_⟩⟩
theorem xTN {h_ : xH} {a1000 a1001 : Nat} {v2 v300 : Int32} {lo_ : xL} (hs : sHp h_) (k1000 : bcq h_ a1000 6 2) (k1001 : bcq h_ a1001 20 12) (o0_ : bpat h_ a1000 1 = some (.int v300)) (c0_ : v300.toInt ≤ v2.toInt) (H_ : tTN_hd a1000 v2 lo_) : ∃ h', ysm h_ h' ∧ (((∀ a_ j_ : Nat, bpat h' a_ j_ = bpat h_ a_ j_) ∧ (∀ D_, 60 ≤ D_ → xrun D_ 44 2 lo_ [] h_ (none, h', [])))) := by
  rcases H_ with rfl
  · obtain ⟨h', m_, e_⟩ := xTN_v0 hs k1000 k1001 o0_ c0_
    refine ⟨h', m_, ?_⟩
    obtain ⟨g0, g1⟩ := e_
    exact ⟨g0, g1⟩
-- eTN: 2 steps, 1 ends, 0 returns
def eTN_L : List (Nat × Nat × Nat) := [(1000, 6, 2)]
def eTN_O : yO := []
def eTN_A : yA := (yZ eTN_L, [], [], [], [])
def eTN_C : List xB := []
def eTN_ss : List yS := [(2, [(1, .int 0), (0, .index 1000)], [], [], [], [])]
def eTN_rs : List yR := []
theorem eTN_w : ywa eTN_A eTN_ss eTN_rs = true := by decide +kernel
theorem eTN_k : yis (yev eTN_A 3000 60 44 [2] (0, [(0, .index 1000)], [], eTN_O, eTN_C, [])) eTN_ss eTN_rs = true := by decide +kernel
def eTN_r (k_ : Nat) : Value := .int 0
def eTN_s (a1000 : Nat) (n_ : Nat) : Nat := bif Nat.beq n_ 1000 then a1000 else (0)
theorem eTN {h_ : xH} {a1000 : Nat} (hs : sHp h_) (k1000 : bcq h_ a1000 6 2) : ∃ h', ysm h_ h' ∧ (((∀ a_ j_ : Nat, bpat h' a_ j_ = bpat h_ a_ j_) ∧ (bldD 60 44 0 [(0, .index a1000)] [] h_ 2 [(1, .int (0 : Int32)), (0, .index a1000)] [] h'))) := by
  have hA : yas eTN_A eTN_r (yg (eTN_s a1000)) := ⟨fun q_ hq => absurd hq List.not_mem_nil, fun q_ hq => absurd hq List.not_mem_nil, fun q_ hq => absurd hq List.not_mem_nil, fun n_ hn => yg_lo hn, fun q_ hq => absurd hq List.not_mem_nil⟩
  have Hs : ysh eTN_A.1 (yg (eTN_s a1000)) h_ := ysh_of2 hs (List.forall_mem_cons.mpr ⟨⟨by decide, k1000⟩, fun q_ hq => absurd hq List.not_mem_nil⟩)
  have Ho : ymem eTN_r (yg (eTN_s a1000)) eTN_O h_ := fun q_ hq => absurd hq List.not_mem_nil
  have HC : ∀ q_ ∈ eTN_C, xhold eTN_r q_ := fun q_ hq => absurd hq List.not_mem_nil
  rcases yrun (yis_ok eTN_k) hA Hs Ho HC with ⟨q_, hq, h', K_, G_⟩ | ⟨q_, hq, h', K_, G_⟩
  · have e_ := List.mem_singleton.mp hq
    subst e_
    exact ⟨h', yfr_sm K_.2.2.2 hs K_.1 (ywa_s eTN_w List.mem_cons_self), ⟨fun a_ j_ => yfr_bp K_.2.2.2 (fun q_ hq => absurd hq List.not_mem_nil), G_⟩⟩
  · cases hq
/-- LESS's turn -/
def les0 (_ : Nat) (x_ : Int32) : Int32 := if puN_F x_ = 0 then x_ else puC_F x_
/-- LESS, the class -/
theorem turnNumbers {a_ b_ : Nat} {l : List Int32} {h_ : xH} (R_ : rW a_ b_ h_ l) : ∃ h', rW a_ b_ h' (mpf les0 0 l) ∧ frb b_ h_ h' ∧ eRet 44 0 [(0, .index a_)] h_ h' := by
  obtain ⟨h0, m0_, f0_, ld0⟩ := eTN (a1000 := a_) R_.1 R_.2.1.1.1
  have R0_ : rW a_ b_ h0 l := ⟨m0_.1, rwx_keep R_.2.1 m0_ (fun c_ j_ _ => f0_ c_ j_), R_.2.2⟩
  obtain ⟨h', R', F', E'_⟩ := map_loop (mi := 44) (pc := 2) (d_ := 1) (HD := fun i_ lo_ => i_ ≤ 14 ∧ tTN_hd a_ (Int32.ofNat i_) lo_) (RW := rW a_ b_) (FR := frb b_) (f_ := les0) (E_ := eRet 44 2) (by omega) (fun i_ lo_ H_ e_ y_ h1 h2 => by omega) frb_tr eRet_led (by
    intro i_ l h_ lo_ x_ R_ hx H_
    obtain ⟨hb_, H_⟩ := H_
    obtain ⟨Rs_, ⟨⟨R1, R2⟩, ⟨R3, R4⟩, R5, R6⟩, R7⟩ := R_
    have hi_ := (List.getElem?_eq_some_iff.mp hx).1
    have e6_ : bpat h_ b_ (Int32.ofNat i_).toInt.toNat = some (.int x_) := by
      rw [i32t (by omega)]
      exact R6 i_ x_ hx
    obtain ⟨h1, m1_, e_⟩ := tTN Rs_ R1 R2 R4 R3 e6_ ⟨by rw [i32n (by omega)]; omega, by rw [i32n (by omega)]; omega⟩ (puN x_) (puC x_) (by rw [i32n (by omega), i32n (by omega)]; omega) H_
    have R_ : rwx h_ a_ b_ 12 l := ⟨⟨R1, R2⟩, ⟨R3, R4⟩, R5, R6⟩
    rw [i32s, i32t (i_ := i_) (by omega)] at e_
    rcases e_ with ⟨g0, f1_, lo', H', ld⟩ | ⟨g0, e1_, f1_, lo', H', ld⟩
    · have en : les0 i_ x_ = x_ := if_pos g0
      refine ⟨h1, lo', ⟨m1_.1, ?_, by rw [List.length_set]; exact R7⟩, ⟨m1_, fun c_ j_ _ => f1_ c_ j_⟩, ⟨by omega, H'⟩, ld⟩
      rw [en, set_same hx]
      exact rwx_keep R_ m1_ (fun c_ j_ _ => f1_ c_ j_)
    · have en : les0 i_ x_ = puC_F x_ := if_neg g0
      refine ⟨h1, lo', ⟨m1_.1, ?_, by rw [List.length_set]; exact R7⟩, ⟨m1_, fun c_ j_ n_ => f1_ c_ j_ (fun q_ => n_ q_.1)⟩, ⟨by omega, H'⟩, ld⟩
      rw [en]
      exact rwx_set R_ m1_ hi_ e1_ f1_) (by
    intro i_ l h_ lo_ R_ hl H_
    obtain ⟨hb_, H_⟩ := H_
    obtain ⟨Rs_, ⟨⟨R1, R2⟩, ⟨R3, R4⟩, R5, R6⟩, R7⟩ := R_
    obtain ⟨h1, m1_, f1_, e1_⟩ := xTN Rs_ R1 R2 R4 (by rw [i32n (by omega), i32n (by omega)]; omega) H_
    exact ⟨h1, ⟨m1_.1, rwx_keep ⟨⟨R1, R2⟩, ⟨R3, R4⟩, R5, R6⟩ m1_ (fun c_ j_ _ => f1_ c_ j_), R7⟩, ⟨m1_, fun c_ j_ _ => f1_ c_ j_⟩, e1_⟩) l.length 0 l h0 _ (by omega) R0_ ⟨by omega, rfl⟩
  exact ⟨h', R', frb_tr _ _ _ ⟨m0_, fun c_ j_ _ => f0_ c_ j_⟩ F', fun D_ hD => ld0 D_ hD _ (E'_ D_ hD)⟩
-- tTR_v0: 24 steps, 1 ends, 0 returns
def tTR_v0_L : List (Nat × Nat × Nat) := [(1000, 6, 2), (1001, 20, 12)]
def tTR_v0_O : yO := [(1000, .int 0, .index 1001), (1001, .arg 1, .arg 301), (1001, .arg 2, .arg 302)]
def tTR_v0_A : yA := (yZ tTR_v0_L, [(.arg 1, 12), (.arg 2, 12)], [(.arg 1, .arg 2)], [], [])
def tTR_v0_C : List xB := [(.lt, .arg 1, .arg 2, true)]
def tTR_v0_ss : List yS := [(9, [(2, .add (.arg 2) (.int (Int32.ofInt (-1)))), (1, .add (.arg 1) (.int 1)), (3, .arg 301), (0, .index 1000)], [], [(1001, .arg 2, .arg 301), (1001, .arg 1, .arg 302), (1000, .int 0, .index 1001)], [(.lt, .arg 1, .arg 2, true)], [(1001, .arg 2), (1001, .arg 1)])]
def tTR_v0_rs : List yR := []
theorem tTR_v0_w : ywa tTR_v0_A tTR_v0_ss tTR_v0_rs = true := by decide +kernel
theorem tTR_v0_k : yis (yev tTR_v0_A 3000 60 45 [9] (9, [(2, .arg 2), (1, .arg 1), (0, .index 1000)], [], tTR_v0_O, tTR_v0_C, [])) tTR_v0_ss tTR_v0_rs = true := by decide +kernel
def tTR_v0_r (v1_ v2 v301 v302 : Int32) (k_ : Nat) : Value := bif Nat.beq k_ 1 then .int v1_ else (bif Nat.beq k_ 2 then .int v2 else (bif Nat.beq k_ 301 then .int v301 else (bif Nat.beq k_ 302 then .int v302 else (.int 0))))
def tTR_v0_s (a1000 a1001 : Nat) (n_ : Nat) : Nat := bif Nat.beq n_ 1000 then a1000 else (bif Nat.beq n_ 1001 then a1001 else (0))
theorem tTR_v0 {h_ : xH} {a1000 a1001 : Nat} {v1_ v2 v301 v302 : Int32} (hs : sHp h_) (k1000 : bcq h_ a1000 6 2) (k1001 : bcq h_ a1001 20 12) (o0_ : bpat h_ a1000 0 = some (.index a1001)) (o1 : bpat h_ a1001 (v1_).toInt.toNat = some (.int v301)) (o2 : bpat h_ a1001 (v2).toInt.toNat = some (.int v302)) (b0 : 0 ≤ (v1_).toInt ∧ (v1_).toInt < 12) (b1 : 0 ≤ (v2).toInt ∧ (v2).toInt < 12) (x0_ : ¬ (v1_).toInt.toNat = (v2).toInt.toNat) (c0_ : v1_.toInt < v2.toInt) : ∃ h', ysm h_ h' ∧ (((bpat h' a1001 (v2).toInt.toNat = some (.int v301)) ∧ (bpat h' a1001 (v1_).toInt.toNat = some (.int v302)) ∧ (∀ a_ j_ : Nat, ¬ (a_ = a1001 ∧ j_ = (v2).toInt.toNat) → ¬ (a_ = a1001 ∧ j_ = (v1_).toInt.toNat) → bpat h' a_ j_ = bpat h_ a_ j_) ∧ (bldD 60 45 9 [(2, .int v2), (1, .int v1_), (0, .index a1000)] [] h_ 9 [(2, .int (v2 + (Int32.ofInt (-1)))), (1, .int (v1_ + (1 : Int32))), (3, .int v301), (0, .index a1000)] [] h'))) := by
  have hA : yas tTR_v0_A (tTR_v0_r v1_ v2 v301 v302) (yg (tTR_v0_s a1000 a1001)) := ⟨List.forall_mem_cons.mpr ⟨b0, List.forall_mem_cons.mpr ⟨b1, fun q_ hq => absurd hq List.not_mem_nil⟩⟩, List.forall_mem_cons.mpr ⟨x0_, fun q_ hq => absurd hq List.not_mem_nil⟩, fun q_ hq => absurd hq List.not_mem_nil, fun n_ hn => yg_lo hn, fun q_ hq => absurd hq List.not_mem_nil⟩
  have Hs : ysh tTR_v0_A.1 (yg (tTR_v0_s a1000 a1001)) h_ := ysh_of2 hs (List.forall_mem_cons.mpr ⟨⟨by decide, k1000⟩, List.forall_mem_cons.mpr ⟨⟨by decide, k1001⟩, fun q_ hq => absurd hq List.not_mem_nil⟩⟩)
  have Ho : ymem (tTR_v0_r v1_ v2 v301 v302) (yg (tTR_v0_s a1000 a1001)) tTR_v0_O h_ := List.forall_mem_cons.mpr ⟨bpat_some o0_, List.forall_mem_cons.mpr ⟨bpat_some o1, List.forall_mem_cons.mpr ⟨bpat_some o2, fun q_ hq => absurd hq List.not_mem_nil⟩⟩⟩
  have HC : ∀ q_ ∈ tTR_v0_C, xhold (tTR_v0_r v1_ v2 v301 v302) q_ := List.forall_mem_cons.mpr ⟨xh_ltT c0_, fun q_ hq => absurd hq List.not_mem_nil⟩
  rcases yrun (yis_ok tTR_v0_k) hA Hs Ho HC with ⟨q_, hq, h', K_, G_⟩ | ⟨q_, hq, h', K_, G_⟩
  · have e_ := List.mem_singleton.mp hq
    subst e_
    exact ⟨h', yfr_sm K_.2.2.2 hs K_.1 (ywa_s tTR_v0_w List.mem_cons_self), ⟨bpat_of (K_.2.1 _ List.mem_cons_self), bpat_of (K_.2.1 _ (List.mem_cons_of_mem _ List.mem_cons_self)), fun a_ j_ n0_ n1_ => yfr_bp K_.2.2.2 (List.forall_mem_cons.mpr ⟨fun e_ => n0_ ⟨e_.1.symm, e_.2.symm⟩, List.forall_mem_cons.mpr ⟨fun e_ => n1_ ⟨e_.1.symm, e_.2.symm⟩, fun q_ hq => absurd hq List.not_mem_nil⟩⟩), G_⟩⟩
  · cases hq
-- tTR_v1: 24 steps, 1 ends, 0 returns
def tTR_v1_L : List (Nat × Nat × Nat) := [(1000, 6, 2), (1001, 20, 12)]
def tTR_v1_O : yO := [(1000, .int 0, .index 1001), (1001, .arg 1, .arg 301), (1001, .arg 2, .arg 302)]
def tTR_v1_A : yA := (yZ tTR_v1_L, [(.arg 1, 12), (.arg 2, 12)], [(.arg 1, .arg 2)], [], [])
def tTR_v1_C : List xB := [(.lt, .arg 1, .arg 2, true)]
def tTR_v1_ss : List yS := [(9, [(2, .add (.arg 2) (.int (Int32.ofInt (-1)))), (1, .add (.arg 1) (.int 1)), (3, .arg 301), (0, .index 1000)], [], [(1001, .arg 2, .arg 301), (1001, .arg 1, .arg 302), (1000, .int 0, .index 1001)], [(.lt, .arg 1, .arg 2, true)], [(1001, .arg 2), (1001, .arg 1)])]
def tTR_v1_rs : List yR := []
theorem tTR_v1_w : ywa tTR_v1_A tTR_v1_ss tTR_v1_rs = true := by decide +kernel
theorem tTR_v1_k : yis (yev tTR_v1_A 3000 60 45 [9] (9, [(2, .arg 2), (1, .arg 1), (3, .arg 903), (0, .index 1000)], [], tTR_v1_O, tTR_v1_C, [])) tTR_v1_ss tTR_v1_rs = true := by decide +kernel
def tTR_v1_r (v1_ v2 v301 v302 v903 : Int32) (k_ : Nat) : Value := bif Nat.beq k_ 1 then .int v1_ else (bif Nat.beq k_ 2 then .int v2 else (bif Nat.beq k_ 301 then .int v301 else (bif Nat.beq k_ 302 then .int v302 else (bif Nat.beq k_ 903 then .int v903 else (.int 0)))))
def tTR_v1_s (a1000 a1001 : Nat) (n_ : Nat) : Nat := bif Nat.beq n_ 1000 then a1000 else (bif Nat.beq n_ 1001 then a1001 else (0))
theorem tTR_v1 {h_ : xH} {a1000 a1001 : Nat} {v1_ v2 v301 v302 v903 : Int32} (hs : sHp h_) (k1000 : bcq h_ a1000 6 2) (k1001 : bcq h_ a1001 20 12) (o0_ : bpat h_ a1000 0 = some (.index a1001)) (o1 : bpat h_ a1001 (v1_).toInt.toNat = some (.int v301)) (o2 : bpat h_ a1001 (v2).toInt.toNat = some (.int v302)) (b0 : 0 ≤ (v1_).toInt ∧ (v1_).toInt < 12) (b1 : 0 ≤ (v2).toInt ∧ (v2).toInt < 12) (x0_ : ¬ (v1_).toInt.toNat = (v2).toInt.toNat) (c0_ : v1_.toInt < v2.toInt) : ∃ h', ysm h_ h' ∧ (((bpat h' a1001 (v2).toInt.toNat = some (.int v301)) ∧ (bpat h' a1001 (v1_).toInt.toNat = some (.int v302)) ∧ (∀ a_ j_ : Nat, ¬ (a_ = a1001 ∧ j_ = (v2).toInt.toNat) → ¬ (a_ = a1001 ∧ j_ = (v1_).toInt.toNat) → bpat h' a_ j_ = bpat h_ a_ j_) ∧ (bldD 60 45 9 [(2, .int v2), (1, .int v1_), (3, .int v903), (0, .index a1000)] [] h_ 9 [(2, .int (v2 + (Int32.ofInt (-1)))), (1, .int (v1_ + (1 : Int32))), (3, .int v301), (0, .index a1000)] [] h'))) := by
  have hA : yas tTR_v1_A (tTR_v1_r v1_ v2 v301 v302 v903) (yg (tTR_v1_s a1000 a1001)) := ⟨List.forall_mem_cons.mpr ⟨b0, List.forall_mem_cons.mpr ⟨b1, fun q_ hq => absurd hq List.not_mem_nil⟩⟩, List.forall_mem_cons.mpr ⟨x0_, fun q_ hq => absurd hq List.not_mem_nil⟩, fun q_ hq => absurd hq List.not_mem_nil, fun n_ hn => yg_lo hn, fun q_ hq => absurd hq List.not_mem_nil⟩
  have Hs : ysh tTR_v1_A.1 (yg (tTR_v1_s a1000 a1001)) h_ := ysh_of2 hs (List.forall_mem_cons.mpr ⟨⟨by decide, k1000⟩, List.forall_mem_cons.mpr ⟨⟨by decide, k1001⟩, fun q_ hq => absurd hq List.not_mem_nil⟩⟩)
  have Ho : ymem (tTR_v1_r v1_ v2 v301 v302 v903) (yg (tTR_v1_s a1000 a1001)) tTR_v1_O h_ := List.forall_mem_cons.mpr ⟨bpat_some o0_, List.forall_mem_cons.mpr ⟨bpat_some o1, List.forall_mem_cons.mpr ⟨bpat_some o2, fun q_ hq => absurd hq List.not_mem_nil⟩⟩⟩
  have HC : ∀ q_ ∈ tTR_v1_C, xhold (tTR_v1_r v1_ v2 v301 v302 v903) q_ := List.forall_mem_cons.mpr ⟨xh_ltT c0_, fun q_ hq => absurd hq List.not_mem_nil⟩
  rcases yrun (yis_ok tTR_v1_k) hA Hs Ho HC with ⟨q_, hq, h', K_, G_⟩ | ⟨q_, hq, h', K_, G_⟩
  · have e_ := List.mem_singleton.mp hq
    subst e_
    exact ⟨h', yfr_sm K_.2.2.2 hs K_.1 (ywa_s tTR_v1_w List.mem_cons_self), ⟨bpat_of (K_.2.1 _ List.mem_cons_self), bpat_of (K_.2.1 _ (List.mem_cons_of_mem _ List.mem_cons_self)), fun a_ j_ n0_ n1_ => yfr_bp K_.2.2.2 (List.forall_mem_cons.mpr ⟨fun e_ => n0_ ⟨e_.1.symm, e_.2.symm⟩, List.forall_mem_cons.mpr ⟨fun e_ => n1_ ⟨e_.1.symm, e_.2.symm⟩, fun q_ hq => absurd hq List.not_mem_nil⟩⟩), G_⟩⟩
  · cases hq
def tTR_hd (a1000 : Nat) (p1_ p2_ : Int32) (lo_ : xL) : Prop := (lo_ = [(2, .int p2_), (1, .int p1_), (0, .index a1000)]) ∨ (∃ y3 : Int32, lo_ = [(2, .int p2_), (1, .int p1_), (3, .int y3), (0, .index a1000)])
theorem tTR {h_ : xH} {a1000 a1001 : Nat} {v1_ v2 v301 v302 : Int32} {lo_ : xL} (hs : sHp h_) (k1000 : bcq h_ a1000 6 2) (k1001 : bcq h_ a1001 20 12) (o0_ : bpat h_ a1000 0 = some (.index a1001)) (o1 : bpat h_ a1001 (v1_).toInt.toNat = some (.int v301)) (o2 : bpat h_ a1001 (v2).toInt.toNat = some (.int v302)) (b0 : 0 ≤ (v1_).toInt ∧ (v1_).toInt < 12) (b1 : 0 ≤ (v2).toInt ∧ (v2).toInt < 12) (x0_ : ¬ (v1_).toInt.toNat = (v2).toInt.toNat) (c0_ : v1_.toInt < v2.toInt) (H_ : tTR_hd a1000 v1_ v2 lo_) : ∃ h', ysm h_ h' ∧ (((bpat h' a1001 (v2).toInt.toNat = some (.int v301)) ∧ (bpat h' a1001 (v1_).toInt.toNat = some (.int v302)) ∧ (∀ a_ j_ : Nat, ¬ (a_ = a1001 ∧ j_ = (v2).toInt.toNat) → ¬ (a_ = a1001 ∧ j_ = (v1_).toInt.toNat) → bpat h' a_ j_ = bpat h_ a_ j_) ∧ (∃ lo', tTR_hd a1000 (v1_ + (1 : Int32)) (v2 + (Int32.ofInt (-1))) lo' ∧ bldD 60 45 9 lo_ [] h_ 9 lo' [] h'))) := by
  rcases H_ with rfl | ⟨y3, rfl⟩
  · obtain ⟨h', m_, e_⟩ := tTR_v0 hs k1000 k1001 o0_ o1 o2 b0 b1 x0_ c0_
    refine ⟨h', m_, ?_⟩
    obtain ⟨g0, g1, g2, g3_⟩ := e_
    exact ⟨g0, g1, g2, ⟨_, Or.inr (⟨_, rfl⟩), g3_⟩⟩
  · obtain ⟨h', m_, e_⟩ := tTR_v1 hs k1000 k1001 o0_ o1 o2 b0 b1 x0_ c0_
    refine ⟨h', m_, ?_⟩
    obtain ⟨g0, g1, g2, g3_⟩ := e_
    exact ⟨g0, g1, g2, ⟨_, Or.inr (⟨_, rfl⟩), g3_⟩⟩
-- xTR_v0: 4 steps, 0 ends, 1 returns
def xTR_v0_L : List (Nat × Nat × Nat) := [(1000, 6, 2)]
def xTR_v0_O : yO := []
def xTR_v0_A : yA := (yZ xTR_v0_L, [], [], [], [])
def xTR_v0_C : List xB := [(.lt, .arg 1, .arg 2, false)]
def xTR_v0_ss : List yS := []
def xTR_v0_rs : List yR := [(none, [], [(.lt, .arg 1, .arg 2, false)], [])]
theorem xTR_v0_w : ywa xTR_v0_A xTR_v0_ss xTR_v0_rs = true := by decide +kernel
theorem xTR_v0_k : yis (yev xTR_v0_A 3000 60 45 [9] (9, [(2, .arg 2), (1, .arg 1), (0, .index 1000)], [], xTR_v0_O, xTR_v0_C, [])) xTR_v0_ss xTR_v0_rs = true := by decide +kernel
def xTR_v0_r (v1_ v2 : Int32) (k_ : Nat) : Value := bif Nat.beq k_ 1 then .int v1_ else (bif Nat.beq k_ 2 then .int v2 else (.int 0))
def xTR_v0_s (a1000 : Nat) (n_ : Nat) : Nat := bif Nat.beq n_ 1000 then a1000 else (0)
theorem xTR_v0 {h_ : xH} {a1000 : Nat} {v1_ v2 : Int32} (hs : sHp h_) (k1000 : bcq h_ a1000 6 2) (c0_ : v2.toInt ≤ v1_.toInt) : ∃ h', ysm h_ h' ∧ (((∀ a_ j_ : Nat, bpat h' a_ j_ = bpat h_ a_ j_) ∧ (∀ D_, 60 ≤ D_ → xrun D_ 45 9 [(2, .int v2), (1, .int v1_), (0, .index a1000)] [] h_ (none, h', [])))) := by
  have hA : yas xTR_v0_A (xTR_v0_r v1_ v2) (yg (xTR_v0_s a1000)) := ⟨fun q_ hq => absurd hq List.not_mem_nil, fun q_ hq => absurd hq List.not_mem_nil, fun q_ hq => absurd hq List.not_mem_nil, fun n_ hn => yg_lo hn, fun q_ hq => absurd hq List.not_mem_nil⟩
  have Hs : ysh xTR_v0_A.1 (yg (xTR_v0_s a1000)) h_ := ysh_of2 hs (List.forall_mem_cons.mpr ⟨⟨by decide, k1000⟩, fun q_ hq => absurd hq List.not_mem_nil⟩)
  have Ho : ymem (xTR_v0_r v1_ v2) (yg (xTR_v0_s a1000)) xTR_v0_O h_ := fun q_ hq => absurd hq List.not_mem_nil
  have HC : ∀ q_ ∈ xTR_v0_C, xhold (xTR_v0_r v1_ v2) q_ := List.forall_mem_cons.mpr ⟨xh_ltF c0_, fun q_ hq => absurd hq List.not_mem_nil⟩
  rcases yrun (yis_ok xTR_v0_k) hA Hs Ho HC with ⟨q_, hq, h', K_, G_⟩ | ⟨q_, hq, h', K_, G_⟩
  · cases hq
  · have e_ := List.mem_singleton.mp hq
    subst e_
    exact ⟨h', yfr_sm K_.2.2.2 hs K_.1 (ywa_r xTR_v0_w List.mem_cons_self), ⟨fun a_ j_ => yfr_bp K_.2.2.2 (fun q_ hq => absurd hq List.not_mem_nil), G_⟩⟩
-- xTR_v1: 4 steps, 0 ends, 1 returns
def xTR_v1_L : List (Nat × Nat × Nat) := [(1000, 6, 2)]
def xTR_v1_O : yO := []
def xTR_v1_A : yA := (yZ xTR_v1_L, [], [], [], [])
def xTR_v1_C : List xB := [(.lt, .arg 1, .arg 2, false)]
def xTR_v1_ss : List yS := []
def xTR_v1_rs : List yR := [(none, [], [(.lt, .arg 1, .arg 2, false)], [])]
theorem xTR_v1_w : ywa xTR_v1_A xTR_v1_ss xTR_v1_rs = true := by decide +kernel
theorem xTR_v1_k : yis (yev xTR_v1_A 3000 60 45 [9] (9, [(2, .arg 2), (1, .arg 1), (3, .arg 903), (0, .index 1000)], [], xTR_v1_O, xTR_v1_C, [])) xTR_v1_ss xTR_v1_rs = true := by decide +kernel
def xTR_v1_r (v1_ v2 v903 : Int32) (k_ : Nat) : Value := bif Nat.beq k_ 1 then .int v1_ else (bif Nat.beq k_ 2 then .int v2 else (bif Nat.beq k_ 903 then .int v903 else (.int 0)))
def xTR_v1_s (a1000 : Nat) (n_ : Nat) : Nat := bif Nat.beq n_ 1000 then a1000 else (0)
theorem xTR_v1 {h_ : xH} {a1000 : Nat} {v1_ v2 v903 : Int32} (hs : sHp h_) (k1000 : bcq h_ a1000 6 2) (c0_ : v2.toInt ≤ v1_.toInt) : ∃ h', ysm h_ h' ∧ (((∀ a_ j_ : Nat, bpat h' a_ j_ = bpat h_ a_ j_) ∧ (∀ D_, 60 ≤ D_ → xrun D_ 45 9 [(2, .int v2), (1, .int v1_), (3, .int v903), (0, .index a1000)] [] h_ (none, h', [])))) := by
  have hA : yas xTR_v1_A (xTR_v1_r v1_ v2 v903) (yg (xTR_v1_s a1000)) := ⟨fun q_ hq => absurd hq List.not_mem_nil, fun q_ hq => absurd hq List.not_mem_nil, fun q_ hq => absurd hq List.not_mem_nil, fun n_ hn => yg_lo hn, fun q_ hq => absurd hq List.not_mem_nil⟩
  have Hs : ysh xTR_v1_A.1 (yg (xTR_v1_s a1000)) h_ := ysh_of2 hs (List.forall_mem_cons.mpr ⟨⟨by decide, k1000⟩, fun q_ hq => absurd hq List.not_mem_nil⟩)
  have Ho : ymem (xTR_v1_r v1_ v2 v903) (yg (xTR_v1_s a1000)) xTR_v1_O h_ := fun q_ hq => absurd hq List.not_mem_nil
  have HC : ∀ q_ ∈ xTR_v1_C, xhold (xTR_v1_r v1_ v2 v903) q_ := List.forall_mem_cons.mpr ⟨xh_ltF c0_, fun q_ hq => absurd hq List.not_mem_nil⟩
  rcases yrun (yis_ok xTR_v1_k) hA Hs Ho HC with ⟨q_, hq, h', K_, G_⟩ | ⟨q_, hq, h', K_, G_⟩
  · cases hq
  · have e_ := List.mem_singleton.mp hq
    subst e_
    exact ⟨h', yfr_sm K_.2.2.2 hs K_.1 (ywa_r xTR_v1_w List.mem_cons_self), ⟨fun a_ j_ => yfr_bp K_.2.2.2 (fun q_ hq => absurd hq List.not_mem_nil), G_⟩⟩
theorem xTR {h_ : xH} {a1000 : Nat} {v1_ v2 : Int32} {lo_ : xL} (hs : sHp h_) (k1000 : bcq h_ a1000 6 2) (c0_ : v2.toInt ≤ v1_.toInt) (H_ : tTR_hd a1000 v1_ v2 lo_) : ∃ h', ysm h_ h' ∧ (((∀ a_ j_ : Nat, bpat h' a_ j_ = bpat h_ a_ j_) ∧ (∀ D_, 60 ≤ D_ → xrun D_ 45 9 lo_ [] h_ (none, h', [])))) := by
  rcases H_ with rfl | ⟨y3, rfl⟩
  · obtain ⟨h', m_, e_⟩ := xTR_v0 hs k1000 c0_
    refine ⟨h', m_, ?_⟩
    obtain ⟨g0, g1⟩ := e_
    exact ⟨g0, g1⟩
  · obtain ⟨h', m_, e_⟩ := xTR_v1 hs k1000 c0_
    refine ⟨h', m_, ?_⟩
    obtain ⟨g0, g1⟩ := e_
    exact ⟨g0, g1⟩
-- eTR: 7 steps, 1 ends, 0 returns
def eTR_L : List (Nat × Nat × Nat) := [(1000, 6, 2)]
def eTR_O : yO := [(1000, .int 1, .arg 300)]
def eTR_A : yA := (yZ eTR_L, [], [], [], [])
def eTR_C : List xB := []
def eTR_ss : List yS := [(9, [(2, .sub (.arg 300) (.int 1)), (1, .int 0), (0, .index 1000)], [], [(1000, .int 1, .arg 300)], [], [])]
def eTR_rs : List yR := []
theorem eTR_w : ywa eTR_A eTR_ss eTR_rs = true := by decide +kernel
theorem eTR_k : yis (yev eTR_A 3000 60 45 [9] (0, [(0, .index 1000)], [], eTR_O, eTR_C, [])) eTR_ss eTR_rs = true := by decide +kernel
def eTR_r (v300 : Int32) (k_ : Nat) : Value := bif Nat.beq k_ 300 then .int v300 else (.int 0)
def eTR_s (a1000 : Nat) (n_ : Nat) : Nat := bif Nat.beq n_ 1000 then a1000 else (0)
theorem eTR {h_ : xH} {a1000 : Nat} {v300 : Int32} (hs : sHp h_) (k1000 : bcq h_ a1000 6 2) (o0_ : bpat h_ a1000 1 = some (.int v300)) : ∃ h', ysm h_ h' ∧ (((∀ a_ j_ : Nat, bpat h' a_ j_ = bpat h_ a_ j_) ∧ (bldD 60 45 0 [(0, .index a1000)] [] h_ 9 [(2, .int (v300 - (1 : Int32))), (1, .int (0 : Int32)), (0, .index a1000)] [] h'))) := by
  have hA : yas eTR_A (eTR_r v300) (yg (eTR_s a1000)) := ⟨fun q_ hq => absurd hq List.not_mem_nil, fun q_ hq => absurd hq List.not_mem_nil, fun q_ hq => absurd hq List.not_mem_nil, fun n_ hn => yg_lo hn, fun q_ hq => absurd hq List.not_mem_nil⟩
  have Hs : ysh eTR_A.1 (yg (eTR_s a1000)) h_ := ysh_of2 hs (List.forall_mem_cons.mpr ⟨⟨by decide, k1000⟩, fun q_ hq => absurd hq List.not_mem_nil⟩)
  have Ho : ymem (eTR_r v300) (yg (eTR_s a1000)) eTR_O h_ := List.forall_mem_cons.mpr ⟨bpat_some o0_, fun q_ hq => absurd hq List.not_mem_nil⟩
  have HC : ∀ q_ ∈ eTR_C, xhold (eTR_r v300) q_ := fun q_ hq => absurd hq List.not_mem_nil
  rcases yrun (yis_ok eTR_k) hA Hs Ho HC with ⟨q_, hq, h', K_, G_⟩ | ⟨q_, hq, h', K_, G_⟩
  · have e_ := List.mem_singleton.mp hq
    subst e_
    exact ⟨h', yfr_sm K_.2.2.2 hs K_.1 (ywa_s eTR_w List.mem_cons_self), ⟨fun a_ j_ => yfr_bp K_.2.2.2 (fun q_ hq => absurd hq List.not_mem_nil), G_⟩⟩
  · cases hq
-- ===== a row turned round, place by place
def swp (i_ j_ : Nat) (l : List Int32) : List Int32 := match l[i_]? with
  | none => l
  | some x_ => match l[j_]? with
    | none => l
    | some y_ => (l.set i_ y_).set j_ x_
theorem swp_len {i_ j_ : Nat} {l : List Int32} : (swp i_ j_ l).length = l.length := by
  unfold swp
  split
  · rfl
  · split
    · rfl
    · rw [List.length_set, List.length_set]
theorem swp_eq {i_ j_ : Nat} {l : List Int32} {x_ y_ : Int32} (hx : l[i_]? = some x_) (hy : l[j_]? = some y_) : swp i_ j_ l = (l.set i_ y_).set j_ x_ := by
  unfold swp
  rw [hx]
  simp only [hy]
def rvf (k_ i_ : Nat) (j_ : Int) (l : List Int32) : List Int32 := match k_ with
  | 0 => l
  | k_ + 1 => if (i_ : Int) < j_ then rvf k_ (i_ + 1) (j_ - 1) (swp i_ j_.toNat l) else l
theorem swap_loop {mi pc dp : Nat} {HD : Nat → Int → xL → Prop} {RW : xH → List Int32 → Prop} {FR : xH → xH → Prop} {E_ : xL → xH → xH → Prop} (ht : ∀ a_ b_ c_, FR a_ b_ → FR b_ c_ → FR a_ c_) (he : ∀ lo_ lo' h_ h1 h2, bldD dp mi pc lo_ [] h_ pc lo' [] h1 → E_ lo' h1 h2 → E_ lo_ h_ h2)
    (turn_ : ∀ i_ j_ l h_ lo_ x_ y_, RW h_ l → l[i_]? = some x_ → l[j_]? = some y_ → i_ < j_ → HD i_ (j_ : Int) lo_ → ∃ h1 lo', RW h1 ((l.set i_ y_).set j_ x_) ∧ FR h_ h1 ∧ HD (i_ + 1) ((j_ : Int) - 1) lo' ∧ bldD dp mi pc lo_ [] h_ pc lo' [] h1)
    (exit : ∀ (i_ : Nat) (j_ : Int) (l : List Int32) (h_ : xH) (lo_ : xL), RW h_ l → j_ ≤ (i_ : Int) → HD i_ j_ lo_ → ∃ h', RW h' l ∧ FR h_ h' ∧ E_ lo_ h_ h') :
    ∀ (k_ i_ : Nat) (j_ : Int) (l : List Int32) (h_ : xH) (lo_ : xL), j_ ≤ (i_ : Int) + k_ → j_ < l.length → RW h_ l → HD i_ j_ lo_ → ∃ h', RW h' (rvf k_ i_ j_ l) ∧ FR h_ h' ∧ E_ lo_ h_ h' := by
  intro k_
  induction k_ with
  | zero =>
    intro i_ j_ l h_ lo_ h1 h2 R_ H_
    exact exit i_ j_ l h_ lo_ R_ (by omega) H_
  | succ k_ ih_ =>
    intro i_ j_ l h_ lo_ h1 h2 R_ H_
    unfold rvf
    by_cases g_ : (i_ : Int) < j_
    · rw [if_pos g_]
      obtain ⟨n_, rfl⟩ : ∃ n_ : Nat, j_ = (n_ : Int) := ⟨j_.toNat, by omega⟩
      have hi_ : i_ < l.length := by omega
      have hn : n_ < l.length := by omega
      have ex_ := List.getElem?_eq_getElem hi_
      have ey := List.getElem?_eq_getElem hn
      obtain ⟨h3, lo', R', F', H', ld⟩ := turn_ i_ n_ l h_ lo_ _ _ R_ ex_ ey (by omega) H_
      rw [← swp_eq ex_ ey] at R'
      obtain ⟨h4, R4, F4, E4⟩ := ih_ (i_ + 1) ((n_ : Int) - 1) (swp i_ n_ l) h3 lo' (by omega) (by rw [swp_len]; omega) R' H'
      exact ⟨h4, R4, ht _ _ _ F' F4, he _ _ _ _ _ ld E4⟩
    · rw [if_neg g_]
      exact exit i_ j_ l h_ lo_ R_ (by omega) H_
theorem i32m (n_ : Nat) (h_ : n_ < 2147483648) : Int32.ofNat n_ + Int32.ofInt (-1) = Int32.ofInt ((n_ : Int) - 1) := by
  refine Int32.toInt_inj.mp ?_
  have e1_ : (Int32.ofInt (-1)).toInt = -1 := by decide
  rw [Int32.toInt_add, i32n h_, e1_, Int32.toInt_ofInt, show (n_ : Int) + -1 = (n_ : Int) - 1 by omega]
theorem i32i (n_ : Nat) : Int32.ofInt (n_ : Int) = Int32.ofNat n_ := rfl
theorem i32z {z_ : Int} (h1 : -2147483648 ≤ z_) (h2 : z_ ≤ 2147483647) : (Int32.ofInt z_).toInt = z_ := by
  rw [Int32.toInt_ofInt]
  exact xbm32 h1 h2
theorem rwx_swp {h_ h' : xH} {a_ b_ m_ i_ j_ : Nat} {l : List Int32} {x_ y_ : Int32} (R_ : rwx h_ a_ b_ m_ l) (hm_ : ysm h_ h') (hx : l[i_]? = some x_) (hy : l[j_]? = some y_) (ne_ : ¬ i_ = j_) (e1_ : bpat h' b_ i_ = some (.int y_)) (e2_ : bpat h' b_ j_ = some (.int x_)) (f_ : ∀ c_ k_, ¬ (c_ = b_ ∧ k_ = i_) → ¬ (c_ = b_ ∧ k_ = j_) → bpat h' c_ k_ = bpat h_ c_ k_) : rwx h' a_ b_ m_ ((l.set i_ y_).set j_ x_) := by
  obtain ⟨⟨R1, R2⟩, ⟨R3, R4⟩, R5, R6⟩ := R_
  have na : ¬ a_ = b_ := bcq_ne R1 R2 (by decide)
  have hi_ := (List.getElem?_eq_some_iff.mp hx).1
  have hj := (List.getElem?_eq_some_iff.mp hy).1
  refine ⟨⟨hm_.2 _ _ _ R1, hm_.2 _ _ _ R2⟩, ⟨(f_ a_ 0 (fun q_ => na q_.1) (fun q_ => na q_.1)).trans R3, ?_⟩, ?_, fun k_ z_ hz => ?_⟩
  · rw [List.length_set, List.length_set]
    exact (f_ a_ 1 (fun q_ => na q_.1) (fun q_ => na q_.1)).trans R4
  · rw [List.length_set, List.length_set]
    exact R5
  · by_cases q_ : k_ = j_
    · subst q_
      rw [List.getElem?_set_self (by rw [List.length_set]; exact hj)] at hz
      cases hz
      exact e2_
    · rw [List.getElem?_set_ne (fun u_ => q_ u_.symm)] at hz
      by_cases p_ : k_ = i_
      · subst p_
        rw [List.getElem?_set_self hi_] at hz
        cases hz
        exact e1_
      · rw [List.getElem?_set_ne (fun u_ => p_ u_.symm)] at hz
        exact (f_ b_ k_ (fun u_ => p_ u_.2) (fun u_ => q_ u_.2)).trans (R6 k_ z_ hz)
/-- BACK, the class -/
theorem turnRound {a_ b_ : Nat} {l : List Int32} {h_ : xH} (R_ : rW a_ b_ h_ l) : ∃ h', rW a_ b_ h' (rvf 12 0 ((l.length : Int) - 1) l) ∧ frb b_ h_ h' ∧ eRet 45 0 [(0, .index a_)] h_ h' := by
  obtain ⟨h0, m0_, f0_, ld0⟩ := eTR R_.1 R_.2.1.1.1 R_.2.1.2.1.2
  have R0_ : rW a_ b_ h0 l := ⟨m0_.1, rwx_keep R_.2.1 m0_ (fun c_ j_ _ => f0_ c_ j_), R_.2.2⟩
  have hl := R_.2.2
  have es : Int32.ofNat l.length - 1 = Int32.ofInt ((l.length : Int) - 1) := by
    refine Int32.toInt_inj.mp ?_
    have e1_ : (1 : Int32).toInt = 1 := rfl
    rw [Int32.toInt_sub, i32n (by omega), e1_, i32z (by omega) (by omega)]
    exact xbm32 (by omega) (by omega)
  rw [es] at ld0
  obtain ⟨h', R', F', E'_⟩ := swap_loop (mi := 45) (pc := 9) (HD := fun i_ j_ lo_ => (-1 ≤ j_ ∧ i_ ≤ 12) ∧ tTR_hd a_ (Int32.ofNat i_) (Int32.ofInt j_) lo_) (RW := rW a_ b_) (FR := frb b_) (E_ := eRet 45 9) frb_tr eRet_led (by
    intro i_ j_ l h_ lo_ x_ y_ R_ hx hy hij H_
    obtain ⟨Rs_, ⟨⟨R1, R2⟩, ⟨R3, R4⟩, R5, R6⟩, R7⟩ := R_
    have hi_ := (List.getElem?_eq_some_iff.mp hx).1
    have hj := (List.getElem?_eq_some_iff.mp hy).1
    have e6_ : bpat h_ b_ (Int32.ofNat i_).toInt.toNat = some (.int x_) := by
      rw [i32t (by omega)]
      exact R6 i_ x_ hx
    have e7_ : bpat h_ b_ (Int32.ofNat j_).toInt.toNat = some (.int y_) := by
      rw [i32t (by omega)]
      exact R6 j_ y_ hy
    obtain ⟨hb_, H_⟩ := H_
    rw [i32i] at H_
    obtain ⟨h1, m1_, e1_, e2_, f1_, lo', H', ld⟩ := tTR Rs_ R1 R2 (by assumption) (by assumption) (by assumption) ⟨by rw [i32n (by omega)]; omega, by rw [i32n (by omega)]; omega⟩ ⟨by rw [i32n (by omega)]; omega, by rw [i32n (by omega)]; omega⟩ (by rw [i32t (by omega), i32t (by omega)]; omega) (by rw [i32n (by omega), i32n (by omega)]; omega) H_
    rw [i32t (by omega)] at e1_ e2_
    rw [i32s, i32m j_ (by omega)] at H'
    have f2_ : ∀ c_ k_, ¬ (c_ = b_ ∧ k_ = i_) → ¬ (c_ = b_ ∧ k_ = j_) → bpat h1 c_ k_ = bpat h_ c_ k_ := by
      intro c_ k_ n1_ n2_
      exact f1_ c_ k_ (by rw [i32t (by omega)]; exact n2_) (by rw [i32t (by omega)]; exact n1_)
    refine ⟨h1, lo', ⟨m1_.1, rwx_swp ⟨⟨R1, R2⟩, ⟨R3, R4⟩, R5, R6⟩ m1_ hx hy (by omega) e2_ e1_ f2_, by rw [List.length_set, List.length_set]; exact R7⟩, ⟨m1_, fun c_ k_ n_ => f2_ c_ k_ (fun q_ => n_ q_.1) (fun q_ => n_ q_.1)⟩, ⟨⟨by omega, by omega⟩, H'⟩, ld⟩) (by
    intro i_ j_ l h_ lo_ R_ hl H_
    obtain ⟨Rs_, R_, R7⟩ := R_
    obtain ⟨hb_, H_⟩ := H_
    obtain ⟨h1, m1_, f1_, e1_⟩ := xTR Rs_ R_.1.1 (by rw [i32n (by omega), i32z (by omega) (by omega)]; omega) H_
    exact ⟨h1, ⟨m1_.1, rwx_keep R_ m1_ (fun c_ j_ _ => f1_ c_ j_), R7⟩, ⟨m1_, fun c_ j_ _ => f1_ c_ j_⟩, e1_⟩) 12 0 ((l.length : Int) - 1) l h0 _ (by omega) (by omega) R0_ ⟨⟨by omega, by omega⟩, Or.inl rfl⟩
  exact ⟨h', R', frb_tr _ _ _ ⟨m0_, fun c_ j_ _ => f0_ c_ j_⟩ F', fun D_ hD => ld0 D_ hD _ (E'_ D_ hD)⟩
