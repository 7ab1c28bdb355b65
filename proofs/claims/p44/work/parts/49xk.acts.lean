-- ===== sounds
/-- SOUNDS up to the first number that is none -/
def spx (n_ : Nat) (l : List Int32) : List Int32 := match n_ with
  | 0 => []
  | n_ + 1 => match l with
    | [] => []
    | y_ :: t_ => if puS_F y_ = 0 then [] else y_ :: spx n_ t_
theorem spx_s {n_ : Nat} {y_ : Int32} {t_ : List Int32} : spx (n_ + 1) (y_ :: t_) = if puS_F y_ = 0 then [] else y_ :: spx n_ t_ := rfl
theorem spx_len : ∀ {n_ : Nat} {l : List Int32}, (spx n_ l).length ≤ n_ := by
  intro n_
  induction n_ with
  | zero => intro l; exact Nat.le_refl _
  | succ n_ ih_ =>
    intro l
    cases l with
    | nil => exact Nat.zero_le _
    | cons y_ t_ =>
      rw [spx_s]
      split
      · exact Nat.zero_le _
      · have := @ih_ t_
        rw [List.length_cons]
        omega
theorem spx_snd : ∀ {n_ : Nat} {l : List Int32}, snds (spx n_ l) := by
  intro n_
  induction n_ with
  | zero => intro l y_ hy; exact absurd hy List.not_mem_nil
  | succ n_ ih_ =>
    intro l
    cases l with
    | nil => intro y_ hy; exact absurd hy List.not_mem_nil
    | cons u_ t_ =>
      rw [spx_s]
      split
      · intro y_ hy; exact absurd hy List.not_mem_nil
      · rename_i g_
        intro y_ hy
        rcases List.mem_cons.mp hy with rfl | hy
        · exact (puS_i y_).mp g_
        · exact ih_ y_ hy
/-- how many are asked -/
def spn (V : Nat → Int32) (k_ : Nat) : Nat := min (V (211 + 2 * k_)).toInt.toNat 12
def soundsF (W_ : Nat → List Int32) (V : Nat → Int32) (z_ c_ : Int32) : (Nat → List Int32) × (Nat → Int32) × Int32 := if (0 ≤ z_.toInt ∧ z_.toInt < 4) ∧ (0 ≤ c_.toInt ∧ c_.toInt < (V 0).toInt) then (if (V (210 + 2 * z_.toInt.toNat)).toInt = 0 then (W_, V, Int32.ofInt (-1000002)) else (upR W_ c_.toInt.toNat (spx (spn V z_.toInt.toNat) (W_ (40 + z_.toInt.toNat))), V, Int32.ofNat (spx (spn V z_.toInt.toNat) (W_ (40 + z_.toInt.toNat))).length)) else (W_, V, Int32.ofInt (-1000001))
-- xsdA: 101 steps, 1 ends, 4 returns
def xsdA_L : List (Nat × Nat × Nat) := []
def xsdA_O : yO := [(0, .int 13, .index 323), (323, .int 1, .arg 400), (0, .int 0, .index 1), (1, .int 9, .arg 310)]
def xsdA_A : yA := (yZ xsdA_L, [], [], [], [])
def xsdA_C : List xB := []
def xsdA_ss : List yS := [(21, [(0, .index 0), (1, .arg 1), (2, .arg 2)], [], [(0, .int 13, .index 323), (323, .int 1, .arg 400), (0, .int 0, .index 1), (1, .int 9, .arg 310)], [(.lt, .arg 2, .arg 310, true), (.lt, .arg 2, .int 0, false), (.lt, .arg 1, .int 4, true), (.lt, .arg 1, .int 0, false)], [])]
def xsdA_rs : List yR := [(some (.int (Int32.ofInt (-1000001))), [(323, .int 1, .add (.arg 400) (.int 1)), (0, .int 13, .index 323), (0, .int 0, .index 1), (1, .int 9, .arg 310)], [(.lt, .arg 1, .int 0, true)], [(323, .int 1)]),
  (some (.int (Int32.ofInt (-1000001))), [(323, .int 1, .add (.arg 400) (.int 1)), (0, .int 13, .index 323), (0, .int 0, .index 1), (1, .int 9, .arg 310)], [(.lt, .arg 1, .int 4, false), (.lt, .arg 1, .int 0, false)], [(323, .int 1)]),
  (some (.int (Int32.ofInt (-1000001))), [(323, .int 1, .add (.arg 400) (.int 1)), (0, .int 13, .index 323), (0, .int 0, .index 1), (1, .int 9, .arg 310)], [(.lt, .arg 2, .int 0, true), (.lt, .arg 1, .int 4, true), (.lt, .arg 1, .int 0, false)], [(323, .int 1)]),
  (some (.int (Int32.ofInt (-1000001))), [(323, .int 1, .add (.arg 400) (.int 1)), (0, .int 13, .index 323), (0, .int 0, .index 1), (1, .int 9, .arg 310)], [(.lt, .arg 2, .arg 310, false), (.lt, .arg 2, .int 0, false), (.lt, .arg 1, .int 4, true), (.lt, .arg 1, .int 0, false)], [(323, .int 1)])]
theorem xsdA_w : ywa xsdA_A xsdA_ss xsdA_rs = true := by decide +kernel
theorem xsdA_k : yis (yev xsdA_A 3000 60 111 [21] (0, [(0, .index 0), (1, .arg 1), (2, .arg 2)], [], xsdA_O, xsdA_C, [])) xsdA_ss xsdA_rs = true := by decide +kernel
def xsdA_r (v1_ v2 v310 v400 : Int32) (k_ : Nat) : Value := bif Nat.beq k_ 1 then .int v1_ else (bif Nat.beq k_ 2 then .int v2 else (bif Nat.beq k_ 310 then .int v310 else (bif Nat.beq k_ 400 then .int v400 else (.int 0))))
def xsdA_s (n_ : Nat) : Nat := 0
theorem xsdA {h_ : xH} {v1_ v2 v310 v400 : Int32} (hs : sHp h_) (o0_ : bpat h_ 323 1 = some (.int v400)) (o1 : bpat h_ 1 9 = some (.int v310)) : ∃ h', ysm h_ h' ∧ (((v2.toInt < v310.toInt) ∧ ((0 : Int32).toInt ≤ v2.toInt) ∧ (v1_.toInt < (4 : Int32).toInt) ∧ ((0 : Int32).toInt ≤ v1_.toInt) ∧ (∀ a_ j_ : Nat, bpat h' a_ j_ = bpat h_ a_ j_) ∧ (bldD 60 111 0 [(0, .index 0), (1, .int v1_), (2, .int v2)] [] h_ 21 [(0, .index 0), (1, .int v1_), (2, .int v2)] [] h'))
  ∨ ((v1_.toInt < (0 : Int32).toInt) ∧ (bpat h' 323 1 = some (.int (v400 + (1 : Int32)))) ∧ (∀ a_ j_ : Nat, ¬ (a_ = 323 ∧ j_ = 1) → bpat h' a_ j_ = bpat h_ a_ j_) ∧ (∀ D_, 60 ≤ D_ → xrun D_ 111 0 [(0, .index 0), (1, .int v1_), (2, .int v2)] [] h_ (some (.int (Int32.ofInt (-1000001))), h', [])))
  ∨ (((4 : Int32).toInt ≤ v1_.toInt) ∧ ((0 : Int32).toInt ≤ v1_.toInt) ∧ (bpat h' 323 1 = some (.int (v400 + (1 : Int32)))) ∧ (∀ a_ j_ : Nat, ¬ (a_ = 323 ∧ j_ = 1) → bpat h' a_ j_ = bpat h_ a_ j_) ∧ (∀ D_, 60 ≤ D_ → xrun D_ 111 0 [(0, .index 0), (1, .int v1_), (2, .int v2)] [] h_ (some (.int (Int32.ofInt (-1000001))), h', [])))
  ∨ ((v2.toInt < (0 : Int32).toInt) ∧ (v1_.toInt < (4 : Int32).toInt) ∧ ((0 : Int32).toInt ≤ v1_.toInt) ∧ (bpat h' 323 1 = some (.int (v400 + (1 : Int32)))) ∧ (∀ a_ j_ : Nat, ¬ (a_ = 323 ∧ j_ = 1) → bpat h' a_ j_ = bpat h_ a_ j_) ∧ (∀ D_, 60 ≤ D_ → xrun D_ 111 0 [(0, .index 0), (1, .int v1_), (2, .int v2)] [] h_ (some (.int (Int32.ofInt (-1000001))), h', [])))
  ∨ ((v310.toInt ≤ v2.toInt) ∧ ((0 : Int32).toInt ≤ v2.toInt) ∧ (v1_.toInt < (4 : Int32).toInt) ∧ ((0 : Int32).toInt ≤ v1_.toInt) ∧ (bpat h' 323 1 = some (.int (v400 + (1 : Int32)))) ∧ (∀ a_ j_ : Nat, ¬ (a_ = 323 ∧ j_ = 1) → bpat h' a_ j_ = bpat h_ a_ j_) ∧ (∀ D_, 60 ≤ D_ → xrun D_ 111 0 [(0, .index 0), (1, .int v1_), (2, .int v2)] [] h_ (some (.int (Int32.ofInt (-1000001))), h', [])))) := by
  have hA : yas xsdA_A (xsdA_r v1_ v2 v310 v400) (yg xsdA_s) := ⟨fun q_ hq => absurd hq List.not_mem_nil, fun q_ hq => absurd hq List.not_mem_nil, fun q_ hq => absurd hq List.not_mem_nil, fun n_ hn => yg_lo hn, fun q_ hq => absurd hq List.not_mem_nil⟩
  have Hs : ysh xsdA_A.1 (yg xsdA_s) h_ := ysh_of2 hs (fun q_ hq => absurd hq List.not_mem_nil)
  have Ho : ymem (xsdA_r v1_ v2 v310 v400) (yg xsdA_s) xsdA_O h_ := List.forall_mem_cons.mpr ⟨bpat_some (fxr_at hs.2 (show fxk fxl 0 13 = some 323 by decide +kernel)), List.forall_mem_cons.mpr ⟨bpat_some o0_, List.forall_mem_cons.mpr ⟨bpat_some (fxr_at hs.2 (show fxk fxl 0 0 = some 1 by decide +kernel)), List.forall_mem_cons.mpr ⟨bpat_some o1, fun q_ hq => absurd hq List.not_mem_nil⟩⟩⟩⟩
  have HC : ∀ q_ ∈ xsdA_C, xhold (xsdA_r v1_ v2 v310 v400) q_ := fun q_ hq => absurd hq List.not_mem_nil
  rcases yrun (yis_ok xsdA_k) hA Hs Ho HC with ⟨q_, hq, h', K_, G_⟩ | ⟨q_, hq, h', K_, G_⟩
  · have e_ := List.mem_singleton.mp hq
    subst e_
    exact ⟨h', yfr_sm K_.2.2.2 hs K_.1 (ywa_s xsdA_w List.mem_cons_self), Or.inl (⟨xq_ltT rfl rfl (K_.2.2.1 _ List.mem_cons_self), xq_ltF rfl rfl (K_.2.2.1 _ (List.mem_cons_of_mem _ List.mem_cons_self)), xq_ltT rfl rfl (K_.2.2.1 _ (List.mem_cons_of_mem _ (List.mem_cons_of_mem _ List.mem_cons_self))), xq_ltF rfl rfl (K_.2.2.1 _ (List.mem_cons_of_mem _ (List.mem_cons_of_mem _ (List.mem_cons_of_mem _ List.mem_cons_self)))), fun a_ j_ => yfr_bp K_.2.2.2 (fun q_ hq => absurd hq List.not_mem_nil), G_⟩)⟩
  · rcases List.mem_cons.mp hq with e_ | hq
    · subst e_
      exact ⟨h', yfr_sm K_.2.2.2 hs K_.1 (ywa_r xsdA_w List.mem_cons_self), Or.inr (Or.inl (⟨xq_ltT rfl rfl (K_.2.2.1 _ List.mem_cons_self), bpat_of (K_.2.1 _ List.mem_cons_self), fun a_ j_ n0_ => yfr_bp K_.2.2.2 (List.forall_mem_cons.mpr ⟨fun e_ => n0_ ⟨e_.1.symm, e_.2.symm⟩, fun q_ hq => absurd hq List.not_mem_nil⟩), G_⟩))⟩
    rcases List.mem_cons.mp hq with e_ | hq
    · subst e_
      exact ⟨h', yfr_sm K_.2.2.2 hs K_.1 (ywa_r xsdA_w (List.mem_cons_of_mem _ List.mem_cons_self)), Or.inr (Or.inr (Or.inl (⟨xq_ltF rfl rfl (K_.2.2.1 _ List.mem_cons_self), xq_ltF rfl rfl (K_.2.2.1 _ (List.mem_cons_of_mem _ List.mem_cons_self)), bpat_of (K_.2.1 _ List.mem_cons_self), fun a_ j_ n0_ => yfr_bp K_.2.2.2 (List.forall_mem_cons.mpr ⟨fun e_ => n0_ ⟨e_.1.symm, e_.2.symm⟩, fun q_ hq => absurd hq List.not_mem_nil⟩), G_⟩)))⟩
    rcases List.mem_cons.mp hq with e_ | hq
    · subst e_
      exact ⟨h', yfr_sm K_.2.2.2 hs K_.1 (ywa_r xsdA_w (List.mem_cons_of_mem _ (List.mem_cons_of_mem _ List.mem_cons_self))), Or.inr (Or.inr (Or.inr (Or.inl (⟨xq_ltT rfl rfl (K_.2.2.1 _ List.mem_cons_self), xq_ltT rfl rfl (K_.2.2.1 _ (List.mem_cons_of_mem _ List.mem_cons_self)), xq_ltF rfl rfl (K_.2.2.1 _ (List.mem_cons_of_mem _ (List.mem_cons_of_mem _ List.mem_cons_self))), bpat_of (K_.2.1 _ List.mem_cons_self), fun a_ j_ n0_ => yfr_bp K_.2.2.2 (List.forall_mem_cons.mpr ⟨fun e_ => n0_ ⟨e_.1.symm, e_.2.symm⟩, fun q_ hq => absurd hq List.not_mem_nil⟩), G_⟩))))⟩
    have e_ := List.mem_singleton.mp hq
    subst e_
    exact ⟨h', yfr_sm K_.2.2.2 hs K_.1 (ywa_r xsdA_w (List.mem_cons_of_mem _ (List.mem_cons_of_mem _ (List.mem_cons_of_mem _ List.mem_cons_self)))), Or.inr (Or.inr (Or.inr (Or.inr (⟨xq_ltF rfl rfl (K_.2.2.1 _ List.mem_cons_self), xq_ltF rfl rfl (K_.2.2.1 _ (List.mem_cons_of_mem _ List.mem_cons_self)), xq_ltT rfl rfl (K_.2.2.1 _ (List.mem_cons_of_mem _ (List.mem_cons_of_mem _ List.mem_cons_self))), xq_ltF rfl rfl (K_.2.2.1 _ (List.mem_cons_of_mem _ (List.mem_cons_of_mem _ (List.mem_cons_of_mem _ List.mem_cons_self)))), bpat_of (K_.2.1 _ List.mem_cons_self), fun a_ j_ n0_ => yfr_bp K_.2.2.2 (List.forall_mem_cons.mpr ⟨fun e_ => n0_ ⟨e_.1.symm, e_.2.symm⟩, fun q_ hq => absurd hq List.not_mem_nil⟩), G_⟩))))⟩
-- xsdB: 27 steps, 1 ends, 0 returns
def xsdB_L : List (Nat × Nat × Nat) := [(1000, 7, 3), (1002, 6, 2)]
def xsdB_O : yO := [(0, .int 7, .index 313), (313, .arg 1, .index 1000), (1000, .int 1, .arg 320), (0, .int 0, .index 1), (1, .int 0, .index 2), (2, .arg 2, .index 1002)]
def xsdB_A : yA := (yZ xsdB_L, [(.arg 1, 4), (.arg 2, 12)], [], [], [])
def xsdB_C : List xB := [(.eq, .arg 320, .int 0, false)]
def xsdB_ss : List yS := [(60, [(5, .int 0), (4, .index 1002), (3, .index 1000), (0, .index 0), (1, .arg 1), (2, .arg 2)], [], [(1002, .int 1, .int 0), (0, .int 7, .index 313), (313, .arg 1, .index 1000), (1000, .int 1, .arg 320), (0, .int 0, .index 1), (1, .int 0, .index 2), (2, .arg 2, .index 1002)], [(.eq, .arg 320, .int 0, false)], [(1002, .int 1)])]
def xsdB_rs : List yR := []
theorem xsdB_w : ywa xsdB_A xsdB_ss xsdB_rs = true := by decide +kernel
theorem xsdB_k : yis (yev xsdB_A 3000 60 111 [60] (21, [(0, .index 0), (1, .arg 1), (2, .arg 2)], [], xsdB_O, xsdB_C, [])) xsdB_ss xsdB_rs = true := by decide +kernel
def xsdB_r (v1_ v2 v320 : Int32) (k_ : Nat) : Value := bif Nat.beq k_ 1 then .int v1_ else (bif Nat.beq k_ 2 then .int v2 else (bif Nat.beq k_ 320 then .int v320 else (.int 0)))
def xsdB_s (a1000 a1002 : Nat) (n_ : Nat) : Nat := bif Nat.beq n_ 1000 then a1000 else (bif Nat.beq n_ 1002 then a1002 else (0))
theorem xsdB {h_ : xH} {a1000 a1002 : Nat} {v1_ v2 v320 : Int32} (hs : sHp h_) (k1000 : bcq h_ a1000 7 3) (k1002 : bcq h_ a1002 6 2) (o0_ : bpat h_ 313 (v1_).toInt.toNat = some (.index a1000)) (o1 : bpat h_ a1000 1 = some (.int v320)) (o2 : bpat h_ 2 (v2).toInt.toNat = some (.index a1002)) (b0 : 0 ≤ (v1_).toInt ∧ (v1_).toInt < 4) (b1 : 0 ≤ (v2).toInt ∧ (v2).toInt < 12) (c0_ : ¬ v320 = (0 : Int32)) : ∃ h', ysm h_ h' ∧ (((bpat h' a1002 1 = some (.int (0 : Int32))) ∧ (∀ a_ j_ : Nat, ¬ (a_ = a1002 ∧ j_ = 1) → bpat h' a_ j_ = bpat h_ a_ j_) ∧ (bldD 60 111 21 [(0, .index 0), (1, .int v1_), (2, .int v2)] [] h_ 60 [(5, .int (0 : Int32)), (4, .index a1002), (3, .index a1000), (0, .index 0), (1, .int v1_), (2, .int v2)] [] h'))) := by
  have hA : yas xsdB_A (xsdB_r v1_ v2 v320) (yg (xsdB_s a1000 a1002)) := ⟨List.forall_mem_cons.mpr ⟨b0, List.forall_mem_cons.mpr ⟨b1, fun q_ hq => absurd hq List.not_mem_nil⟩⟩, fun q_ hq => absurd hq List.not_mem_nil, fun q_ hq => absurd hq List.not_mem_nil, fun n_ hn => yg_lo hn, fun q_ hq => absurd hq List.not_mem_nil⟩
  have Hs : ysh xsdB_A.1 (yg (xsdB_s a1000 a1002)) h_ := ysh_of2 hs (List.forall_mem_cons.mpr ⟨⟨by decide, k1000⟩, List.forall_mem_cons.mpr ⟨⟨by decide, k1002⟩, fun q_ hq => absurd hq List.not_mem_nil⟩⟩)
  have Ho : ymem (xsdB_r v1_ v2 v320) (yg (xsdB_s a1000 a1002)) xsdB_O h_ := List.forall_mem_cons.mpr ⟨bpat_some (fxr_at hs.2 (show fxk fxl 0 7 = some 313 by decide +kernel)), List.forall_mem_cons.mpr ⟨bpat_some o0_, List.forall_mem_cons.mpr ⟨bpat_some o1, List.forall_mem_cons.mpr ⟨bpat_some (fxr_at hs.2 (show fxk fxl 0 0 = some 1 by decide +kernel)), List.forall_mem_cons.mpr ⟨bpat_some (fxr_at hs.2 (show fxk fxl 1 0 = some 2 by decide +kernel)), List.forall_mem_cons.mpr ⟨bpat_some o2, fun q_ hq => absurd hq List.not_mem_nil⟩⟩⟩⟩⟩⟩
  have HC : ∀ q_ ∈ xsdB_C, xhold (xsdB_r v1_ v2 v320) q_ := List.forall_mem_cons.mpr ⟨xh_eqF2 c0_, fun q_ hq => absurd hq List.not_mem_nil⟩
  rcases yrun (yis_ok xsdB_k) hA Hs Ho HC with ⟨q_, hq, h', K_, G_⟩ | ⟨q_, hq, h', K_, G_⟩
  · have e_ := List.mem_singleton.mp hq
    subst e_
    exact ⟨h', yfr_sm K_.2.2.2 hs K_.1 (ywa_s xsdB_w List.mem_cons_self), ⟨bpat_of (K_.2.1 _ List.mem_cons_self), fun a_ j_ n0_ => yfr_bp K_.2.2.2 (List.forall_mem_cons.mpr ⟨fun e_ => n0_ ⟨e_.1.symm, e_.2.symm⟩, fun q_ hq => absurd hq List.not_mem_nil⟩), G_⟩⟩
  · cases hq
-- xsdN: 30 steps, 0 ends, 1 returns
def xsdN_L : List (Nat × Nat × Nat) := [(1000, 7, 3)]
def xsdN_O : yO := [(0, .int 7, .index 313), (313, .arg 1, .index 1000), (1000, .int 1, .arg 320), (0, .int 13, .index 323), (323, .int 2, .arg 400)]
def xsdN_A : yA := (yZ xsdN_L, [(.arg 1, 4)], [], [], [])
def xsdN_C : List xB := [(.eq, .arg 320, .int 0, true)]
def xsdN_ss : List yS := []
def xsdN_rs : List yR := [(some (.int (Int32.ofInt (-1000002))), [(323, .int 2, .add (.arg 400) (.int 1)), (0, .int 7, .index 313), (313, .arg 1, .index 1000), (1000, .int 1, .arg 320), (0, .int 13, .index 323)], [(.eq, .arg 320, .int 0, true)], [(323, .int 2)])]
theorem xsdN_w : ywa xsdN_A xsdN_ss xsdN_rs = true := by decide +kernel
theorem xsdN_k : yis (yev xsdN_A 3000 60 111 [] (21, [(0, .index 0), (1, .arg 1), (2, .arg 2)], [], xsdN_O, xsdN_C, [])) xsdN_ss xsdN_rs = true := by decide +kernel
def xsdN_r (v1_ v2 v320 v400 : Int32) (k_ : Nat) : Value := bif Nat.beq k_ 1 then .int v1_ else (bif Nat.beq k_ 2 then .int v2 else (bif Nat.beq k_ 320 then .int v320 else (bif Nat.beq k_ 400 then .int v400 else (.int 0))))
def xsdN_s (a1000 : Nat) (n_ : Nat) : Nat := bif Nat.beq n_ 1000 then a1000 else (0)
theorem xsdN {h_ : xH} {a1000 : Nat} {v1_ v2 v320 v400 : Int32} (hs : sHp h_) (k1000 : bcq h_ a1000 7 3) (o0_ : bpat h_ 313 (v1_).toInt.toNat = some (.index a1000)) (o1 : bpat h_ a1000 1 = some (.int v320)) (o2 : bpat h_ 323 2 = some (.int v400)) (b0 : 0 ≤ (v1_).toInt ∧ (v1_).toInt < 4) (c0_ : v320 = (0 : Int32)) : ∃ h', ysm h_ h' ∧ (((bpat h' 323 2 = some (.int (v400 + (1 : Int32)))) ∧ (∀ a_ j_ : Nat, ¬ (a_ = 323 ∧ j_ = 2) → bpat h' a_ j_ = bpat h_ a_ j_) ∧ (∀ D_, 60 ≤ D_ → xrun D_ 111 21 [(0, .index 0), (1, .int v1_), (2, .int v2)] [] h_ (some (.int (Int32.ofInt (-1000002))), h', [])))) := by
  have hA : yas xsdN_A (xsdN_r v1_ v2 v320 v400) (yg (xsdN_s a1000)) := ⟨List.forall_mem_cons.mpr ⟨b0, fun q_ hq => absurd hq List.not_mem_nil⟩, fun q_ hq => absurd hq List.not_mem_nil, fun q_ hq => absurd hq List.not_mem_nil, fun n_ hn => yg_lo hn, fun q_ hq => absurd hq List.not_mem_nil⟩
  have Hs : ysh xsdN_A.1 (yg (xsdN_s a1000)) h_ := ysh_of2 hs (List.forall_mem_cons.mpr ⟨⟨by decide, k1000⟩, fun q_ hq => absurd hq List.not_mem_nil⟩)
  have Ho : ymem (xsdN_r v1_ v2 v320 v400) (yg (xsdN_s a1000)) xsdN_O h_ := List.forall_mem_cons.mpr ⟨bpat_some (fxr_at hs.2 (show fxk fxl 0 7 = some 313 by decide +kernel)), List.forall_mem_cons.mpr ⟨bpat_some o0_, List.forall_mem_cons.mpr ⟨bpat_some o1, List.forall_mem_cons.mpr ⟨bpat_some (fxr_at hs.2 (show fxk fxl 0 13 = some 323 by decide +kernel)), List.forall_mem_cons.mpr ⟨bpat_some o2, fun q_ hq => absurd hq List.not_mem_nil⟩⟩⟩⟩⟩
  have HC : ∀ q_ ∈ xsdN_C, xhold (xsdN_r v1_ v2 v320 v400) q_ := List.forall_mem_cons.mpr ⟨xh_eqT2 c0_, fun q_ hq => absurd hq List.not_mem_nil⟩
  rcases yrun (yis_ok xsdN_k) hA Hs Ho HC with ⟨q_, hq, h', K_, G_⟩ | ⟨q_, hq, h', K_, G_⟩
  · cases hq
  · have e_ := List.mem_singleton.mp hq
    subst e_
    exact ⟨h', yfr_sm K_.2.2.2 hs K_.1 (ywa_r xsdN_w List.mem_cons_self), ⟨bpat_of (K_.2.1 _ List.mem_cons_self), fun a_ j_ n0_ => yfr_bp K_.2.2.2 (List.forall_mem_cons.mpr ⟨fun e_ => n0_ ⟨e_.1.symm, e_.2.symm⟩, fun q_ hq => absurd hq List.not_mem_nil⟩), G_⟩⟩
-- xsdT: 42 steps, 1 ends, 0 returns
def xsdT_L : List (Nat × Nat × Nat) := [(1000, 7, 3), (1001, 20, 24), (1002, 6, 2), (1003, 20, 12)]
def xsdT_O : yO := [(1000, .int 2, .arg 321), (1000, .int 0, .index 1001), (1001, .arg 5, .arg 323), (1002, .int 1, .arg 322), (1002, .int 0, .index 1003)]
def xsdT_A : yA := (yZ xsdT_L, [(.arg 5, 24), (.arg 322, 12)], [], [], [(130, [.arg 323], .arg 500)])
def xsdT_C : List xB := [(.lt, .arg 322, .int 12, true), (.eq, .arg 500, .int 0, false), (.lt, .arg 5, .int 12, true), (.lt, .arg 5, .arg 321, true)]
def xsdT_ss : List yS := [(60, [(5, .add (.arg 5) (.int 1)), (4, .index 1002), (3, .index 1000), (0, .index 0), (1, .arg 1), (2, .arg 2)], [], [(1002, .int 1, .add (.arg 322) (.int 1)), (1003, .arg 322, .arg 323), (1000, .int 2, .arg 321), (1000, .int 0, .index 1001), (1002, .int 0, .index 1003)], [(.lt, .arg 322, .int 12, true), (.eq, .arg 500, .int 0, false), (.lt, .arg 5, .int 12, true), (.lt, .arg 5, .arg 321, true)], [(1002, .int 1), (1003, .arg 322)])]
def xsdT_rs : List yR := []
theorem xsdT_w : ywa xsdT_A xsdT_ss xsdT_rs = true := by decide +kernel
theorem xsdT_k : yis (yev xsdT_A 3000 60 111 [60] (60, [(5, .arg 5), (4, .index 1002), (3, .index 1000), (0, .index 0), (1, .arg 1), (2, .arg 2)], [], xsdT_O, xsdT_C, [])) xsdT_ss xsdT_rs = true := by decide +kernel
def xsdT_r (v1_ v2 v5 v321 v322 v323 v500 : Int32) (k_ : Nat) : Value := bif Nat.beq k_ 1 then .int v1_ else (bif Nat.beq k_ 2 then .int v2 else (bif Nat.beq k_ 5 then .int v5 else (bif Nat.beq k_ 321 then .int v321 else (bif Nat.beq k_ 322 then .int v322 else (bif Nat.beq k_ 323 then .int v323 else (bif Nat.beq k_ 500 then .int v500 else (.int 0)))))))
def xsdT_s (a1000 a1001 a1002 a1003 : Nat) (n_ : Nat) : Nat := bif Nat.beq n_ 1000 then a1000 else (bif Nat.beq n_ 1001 then a1001 else (bif Nat.beq n_ 1002 then a1002 else (bif Nat.beq n_ 1003 then a1003 else (0))))
theorem xsdT {h_ : xH} {a1000 a1001 a1002 a1003 : Nat} {v1_ v2 v5 v321 v322 v323 v500 : Int32} (hs : sHp h_) (k1000 : bcq h_ a1000 7 3) (k1001 : bcq h_ a1001 20 24) (k1002 : bcq h_ a1002 6 2) (k1003 : bcq h_ a1003 20 12) (o0_ : bpat h_ a1000 2 = some (.int v321)) (o1 : bpat h_ a1000 0 = some (.index a1001)) (o2 : bpat h_ a1001 (v5).toInt.toNat = some (.int v323)) (o3_ : bpat h_ a1002 1 = some (.int v322)) (o4_ : bpat h_ a1002 0 = some (.index a1003)) (b0 : 0 ≤ (v5).toInt ∧ (v5).toInt < 24) (b1 : 0 ≤ (v322).toInt ∧ (v322).toInt < 12) (p0_ : ∀ (h_ : xH) (D_ : Nat), 5 ≤ D_ → xrun D_ 130 0 [(0, .int v323)] [] h_ (some (.int v500), h_, [])) (c0_ : v322.toInt < (12 : Int32).toInt) (c1_ : ¬ v500 = (0 : Int32)) (c2_ : v5.toInt < (12 : Int32).toInt) (c3_ : v5.toInt < v321.toInt) : ∃ h', ysm h_ h' ∧ (((bpat h' a1002 1 = some (.int (v322 + (1 : Int32)))) ∧ (bpat h' a1003 (v322).toInt.toNat = some (.int v323)) ∧ (∀ a_ j_ : Nat, ¬ (a_ = a1002 ∧ j_ = 1) → ¬ (a_ = a1003 ∧ j_ = (v322).toInt.toNat) → bpat h' a_ j_ = bpat h_ a_ j_) ∧ (bldD 60 111 60 [(5, .int v5), (4, .index a1002), (3, .index a1000), (0, .index 0), (1, .int v1_), (2, .int v2)] [] h_ 60 [(5, .int (v5 + (1 : Int32))), (4, .index a1002), (3, .index a1000), (0, .index 0), (1, .int v1_), (2, .int v2)] [] h'))) := by
  have hA : yas xsdT_A (xsdT_r v1_ v2 v5 v321 v322 v323 v500) (yg (xsdT_s a1000 a1001 a1002 a1003)) := ⟨List.forall_mem_cons.mpr ⟨b0, List.forall_mem_cons.mpr ⟨b1, fun q_ hq => absurd hq List.not_mem_nil⟩⟩, fun q_ hq => absurd hq List.not_mem_nil, fun q_ hq => absurd hq List.not_mem_nil, fun n_ hn => yg_lo hn, List.forall_mem_cons.mpr ⟨p0_, fun q_ hq => absurd hq List.not_mem_nil⟩⟩
  have Hs : ysh xsdT_A.1 (yg (xsdT_s a1000 a1001 a1002 a1003)) h_ := ysh_of2 hs (List.forall_mem_cons.mpr ⟨⟨by decide, k1000⟩, List.forall_mem_cons.mpr ⟨⟨by decide, k1001⟩, List.forall_mem_cons.mpr ⟨⟨by decide, k1002⟩, List.forall_mem_cons.mpr ⟨⟨by decide, k1003⟩, fun q_ hq => absurd hq List.not_mem_nil⟩⟩⟩⟩)
  have Ho : ymem (xsdT_r v1_ v2 v5 v321 v322 v323 v500) (yg (xsdT_s a1000 a1001 a1002 a1003)) xsdT_O h_ := List.forall_mem_cons.mpr ⟨bpat_some o0_, List.forall_mem_cons.mpr ⟨bpat_some o1, List.forall_mem_cons.mpr ⟨bpat_some o2, List.forall_mem_cons.mpr ⟨bpat_some o3_, List.forall_mem_cons.mpr ⟨bpat_some o4_, fun q_ hq => absurd hq List.not_mem_nil⟩⟩⟩⟩⟩
  have HC : ∀ q_ ∈ xsdT_C, xhold (xsdT_r v1_ v2 v5 v321 v322 v323 v500) q_ := List.forall_mem_cons.mpr ⟨xh_ltT c0_, List.forall_mem_cons.mpr ⟨xh_eqF2 c1_, List.forall_mem_cons.mpr ⟨xh_ltT c2_, List.forall_mem_cons.mpr ⟨xh_ltT c3_, fun q_ hq => absurd hq List.not_mem_nil⟩⟩⟩⟩
  rcases yrun (yis_ok xsdT_k) hA Hs Ho HC with ⟨q_, hq, h', K_, G_⟩ | ⟨q_, hq, h', K_, G_⟩
  · have e_ := List.mem_singleton.mp hq
    subst e_
    exact ⟨h', yfr_sm K_.2.2.2 hs K_.1 (ywa_s xsdT_w List.mem_cons_self), ⟨bpat_of (K_.2.1 _ List.mem_cons_self), bpat_of (K_.2.1 _ (List.mem_cons_of_mem _ List.mem_cons_self)), fun a_ j_ n0_ n1_ => yfr_bp K_.2.2.2 (List.forall_mem_cons.mpr ⟨fun e_ => n0_ ⟨e_.1.symm, e_.2.symm⟩, List.forall_mem_cons.mpr ⟨fun e_ => n1_ ⟨e_.1.symm, e_.2.symm⟩, fun q_ hq => absurd hq List.not_mem_nil⟩⟩), G_⟩⟩
  · cases hq
-- xsdU: 16 steps, 0 ends, 1 returns
def xsdU_L : List (Nat × Nat × Nat) := [(1000, 7, 3), (1001, 20, 24), (1002, 6, 2), (1003, 20, 12)]
def xsdU_O : yO := [(1000, .int 2, .arg 321), (1000, .int 0, .index 1001), (1001, .arg 5, .arg 323), (1002, .int 1, .arg 322)]
def xsdU_A : yA := (yZ xsdU_L, [(.arg 5, 24)], [], [], [(130, [.arg 323], .arg 500)])
def xsdU_C : List xB := [(.eq, .arg 500, .int 0, true), (.lt, .arg 5, .int 12, true), (.lt, .arg 5, .arg 321, true)]
def xsdU_ss : List yS := []
def xsdU_rs : List yR := [(some (.arg 322), [(1000, .int 2, .arg 321), (1000, .int 0, .index 1001), (1001, .arg 5, .arg 323), (1002, .int 1, .arg 322)], [(.eq, .arg 500, .int 0, true), (.lt, .arg 5, .int 12, true), (.lt, .arg 5, .arg 321, true)], [])]
theorem xsdU_w : ywa xsdU_A xsdU_ss xsdU_rs = true := by decide +kernel
theorem xsdU_k : yis (yev xsdU_A 3000 60 111 [] (60, [(5, .arg 5), (4, .index 1002), (3, .index 1000), (0, .index 0), (1, .arg 1), (2, .arg 2)], [], xsdU_O, xsdU_C, [])) xsdU_ss xsdU_rs = true := by decide +kernel
def xsdU_r (v1_ v2 v5 v321 v322 v323 v500 : Int32) (k_ : Nat) : Value := bif Nat.beq k_ 1 then .int v1_ else (bif Nat.beq k_ 2 then .int v2 else (bif Nat.beq k_ 5 then .int v5 else (bif Nat.beq k_ 321 then .int v321 else (bif Nat.beq k_ 322 then .int v322 else (bif Nat.beq k_ 323 then .int v323 else (bif Nat.beq k_ 500 then .int v500 else (.int 0)))))))
def xsdU_s (a1000 a1001 a1002 a1003 : Nat) (n_ : Nat) : Nat := bif Nat.beq n_ 1000 then a1000 else (bif Nat.beq n_ 1001 then a1001 else (bif Nat.beq n_ 1002 then a1002 else (bif Nat.beq n_ 1003 then a1003 else (0))))
theorem xsdU {h_ : xH} {a1000 a1001 a1002 a1003 : Nat} {v1_ v2 v5 v321 v322 v323 v500 : Int32} (hs : sHp h_) (k1000 : bcq h_ a1000 7 3) (k1001 : bcq h_ a1001 20 24) (k1002 : bcq h_ a1002 6 2) (k1003 : bcq h_ a1003 20 12) (o0_ : bpat h_ a1000 2 = some (.int v321)) (o1 : bpat h_ a1000 0 = some (.index a1001)) (o2 : bpat h_ a1001 (v5).toInt.toNat = some (.int v323)) (o3_ : bpat h_ a1002 1 = some (.int v322)) (b0 : 0 ≤ (v5).toInt ∧ (v5).toInt < 24) (p0_ : ∀ (h_ : xH) (D_ : Nat), 5 ≤ D_ → xrun D_ 130 0 [(0, .int v323)] [] h_ (some (.int v500), h_, [])) (c0_ : v500 = (0 : Int32)) (c1_ : v5.toInt < (12 : Int32).toInt) (c2_ : v5.toInt < v321.toInt) : ∃ h', ysm h_ h' ∧ (((∀ a_ j_ : Nat, bpat h' a_ j_ = bpat h_ a_ j_) ∧ (∀ D_, 60 ≤ D_ → xrun D_ 111 60 [(5, .int v5), (4, .index a1002), (3, .index a1000), (0, .index 0), (1, .int v1_), (2, .int v2)] [] h_ (some (.int v322), h', [])))) := by
  have hA : yas xsdU_A (xsdU_r v1_ v2 v5 v321 v322 v323 v500) (yg (xsdU_s a1000 a1001 a1002 a1003)) := ⟨List.forall_mem_cons.mpr ⟨b0, fun q_ hq => absurd hq List.not_mem_nil⟩, fun q_ hq => absurd hq List.not_mem_nil, fun q_ hq => absurd hq List.not_mem_nil, fun n_ hn => yg_lo hn, List.forall_mem_cons.mpr ⟨p0_, fun q_ hq => absurd hq List.not_mem_nil⟩⟩
  have Hs : ysh xsdU_A.1 (yg (xsdU_s a1000 a1001 a1002 a1003)) h_ := ysh_of2 hs (List.forall_mem_cons.mpr ⟨⟨by decide, k1000⟩, List.forall_mem_cons.mpr ⟨⟨by decide, k1001⟩, List.forall_mem_cons.mpr ⟨⟨by decide, k1002⟩, List.forall_mem_cons.mpr ⟨⟨by decide, k1003⟩, fun q_ hq => absurd hq List.not_mem_nil⟩⟩⟩⟩)
  have Ho : ymem (xsdU_r v1_ v2 v5 v321 v322 v323 v500) (yg (xsdU_s a1000 a1001 a1002 a1003)) xsdU_O h_ := List.forall_mem_cons.mpr ⟨bpat_some o0_, List.forall_mem_cons.mpr ⟨bpat_some o1, List.forall_mem_cons.mpr ⟨bpat_some o2, List.forall_mem_cons.mpr ⟨bpat_some o3_, fun q_ hq => absurd hq List.not_mem_nil⟩⟩⟩⟩
  have HC : ∀ q_ ∈ xsdU_C, xhold (xsdU_r v1_ v2 v5 v321 v322 v323 v500) q_ := List.forall_mem_cons.mpr ⟨xh_eqT2 c0_, List.forall_mem_cons.mpr ⟨xh_ltT c1_, List.forall_mem_cons.mpr ⟨xh_ltT c2_, fun q_ hq => absurd hq List.not_mem_nil⟩⟩⟩
  rcases yrun (yis_ok xsdU_k) hA Hs Ho HC with ⟨q_, hq, h', K_, G_⟩ | ⟨q_, hq, h', K_, G_⟩
  · cases hq
  · have e_ := List.mem_singleton.mp hq
    subst e_
    exact ⟨h', yfr_sm K_.2.2.2 hs K_.1 (ywa_r xsdU_w List.mem_cons_self), ⟨fun a_ j_ => yfr_bp K_.2.2.2 (fun q_ hq => absurd hq List.not_mem_nil), G_⟩⟩
-- xsdV: 7 steps, 0 ends, 1 returns
def xsdV_L : List (Nat × Nat × Nat) := [(1000, 7, 3), (1002, 6, 2)]
def xsdV_O : yO := [(1000, .int 2, .arg 321), (1002, .int 1, .arg 322)]
def xsdV_A : yA := (yZ xsdV_L, [], [], [], [])
def xsdV_C : List xB := [(.lt, .arg 5, .arg 321, false)]
def xsdV_ss : List yS := []
def xsdV_rs : List yR := [(some (.arg 322), [(1000, .int 2, .arg 321), (1002, .int 1, .arg 322)], [(.lt, .arg 5, .arg 321, false)], [])]
theorem xsdV_w : ywa xsdV_A xsdV_ss xsdV_rs = true := by decide +kernel
theorem xsdV_k : yis (yev xsdV_A 3000 60 111 [] (60, [(5, .arg 5), (4, .index 1002), (3, .index 1000), (0, .index 0), (1, .arg 1), (2, .arg 2)], [], xsdV_O, xsdV_C, [])) xsdV_ss xsdV_rs = true := by decide +kernel
def xsdV_r (v1_ v2 v5 v321 v322 : Int32) (k_ : Nat) : Value := bif Nat.beq k_ 1 then .int v1_ else (bif Nat.beq k_ 2 then .int v2 else (bif Nat.beq k_ 5 then .int v5 else (bif Nat.beq k_ 321 then .int v321 else (bif Nat.beq k_ 322 then .int v322 else (.int 0)))))
def xsdV_s (a1000 a1002 : Nat) (n_ : Nat) : Nat := bif Nat.beq n_ 1000 then a1000 else (bif Nat.beq n_ 1002 then a1002 else (0))
theorem xsdV {h_ : xH} {a1000 a1002 : Nat} {v1_ v2 v5 v321 v322 : Int32} (hs : sHp h_) (k1000 : bcq h_ a1000 7 3) (k1002 : bcq h_ a1002 6 2) (o0_ : bpat h_ a1000 2 = some (.int v321)) (o1 : bpat h_ a1002 1 = some (.int v322)) (c0_ : v321.toInt ≤ v5.toInt) : ∃ h', ysm h_ h' ∧ (((∀ a_ j_ : Nat, bpat h' a_ j_ = bpat h_ a_ j_) ∧ (∀ D_, 60 ≤ D_ → xrun D_ 111 60 [(5, .int v5), (4, .index a1002), (3, .index a1000), (0, .index 0), (1, .int v1_), (2, .int v2)] [] h_ (some (.int v322), h', [])))) := by
  have hA : yas xsdV_A (xsdV_r v1_ v2 v5 v321 v322) (yg (xsdV_s a1000 a1002)) := ⟨fun q_ hq => absurd hq List.not_mem_nil, fun q_ hq => absurd hq List.not_mem_nil, fun q_ hq => absurd hq List.not_mem_nil, fun n_ hn => yg_lo hn, fun q_ hq => absurd hq List.not_mem_nil⟩
  have Hs : ysh xsdV_A.1 (yg (xsdV_s a1000 a1002)) h_ := ysh_of2 hs (List.forall_mem_cons.mpr ⟨⟨by decide, k1000⟩, List.forall_mem_cons.mpr ⟨⟨by decide, k1002⟩, fun q_ hq => absurd hq List.not_mem_nil⟩⟩)
  have Ho : ymem (xsdV_r v1_ v2 v5 v321 v322) (yg (xsdV_s a1000 a1002)) xsdV_O h_ := List.forall_mem_cons.mpr ⟨bpat_some o0_, List.forall_mem_cons.mpr ⟨bpat_some o1, fun q_ hq => absurd hq List.not_mem_nil⟩⟩
  have HC : ∀ q_ ∈ xsdV_C, xhold (xsdV_r v1_ v2 v5 v321 v322) q_ := List.forall_mem_cons.mpr ⟨xh_ltF c0_, fun q_ hq => absurd hq List.not_mem_nil⟩
  rcases yrun (yis_ok xsdV_k) hA Hs Ho HC with ⟨q_, hq, h', K_, G_⟩ | ⟨q_, hq, h', K_, G_⟩
  · cases hq
  · have e_ := List.mem_singleton.mp hq
    subst e_
    exact ⟨h', yfr_sm K_.2.2.2 hs K_.1 (ywa_r xsdV_w List.mem_cons_self), ⟨fun a_ j_ => yfr_bp K_.2.2.2 (fun q_ hq => absurd hq List.not_mem_nil), G_⟩⟩
-- xsdW: 10 steps, 0 ends, 1 returns
def xsdW_L : List (Nat × Nat × Nat) := [(1000, 7, 3), (1002, 6, 2)]
def xsdW_O : yO := [(1000, .int 2, .arg 321), (1002, .int 1, .arg 322)]
def xsdW_A : yA := (yZ xsdW_L, [], [], [], [])
def xsdW_C : List xB := [(.lt, .arg 5, .int 12, false), (.lt, .arg 5, .arg 321, true)]
def xsdW_ss : List yS := []
def xsdW_rs : List yR := [(some (.arg 322), [(1000, .int 2, .arg 321), (1002, .int 1, .arg 322)], [(.lt, .arg 5, .int 12, false), (.lt, .arg 5, .arg 321, true)], [])]
theorem xsdW_w : ywa xsdW_A xsdW_ss xsdW_rs = true := by decide +kernel
theorem xsdW_k : yis (yev xsdW_A 3000 60 111 [] (60, [(5, .arg 5), (4, .index 1002), (3, .index 1000), (0, .index 0), (1, .arg 1), (2, .arg 2)], [], xsdW_O, xsdW_C, [])) xsdW_ss xsdW_rs = true := by decide +kernel
def xsdW_r (v1_ v2 v5 v321 v322 : Int32) (k_ : Nat) : Value := bif Nat.beq k_ 1 then .int v1_ else (bif Nat.beq k_ 2 then .int v2 else (bif Nat.beq k_ 5 then .int v5 else (bif Nat.beq k_ 321 then .int v321 else (bif Nat.beq k_ 322 then .int v322 else (.int 0)))))
def xsdW_s (a1000 a1002 : Nat) (n_ : Nat) : Nat := bif Nat.beq n_ 1000 then a1000 else (bif Nat.beq n_ 1002 then a1002 else (0))
theorem xsdW {h_ : xH} {a1000 a1002 : Nat} {v1_ v2 v5 v321 v322 : Int32} (hs : sHp h_) (k1000 : bcq h_ a1000 7 3) (k1002 : bcq h_ a1002 6 2) (o0_ : bpat h_ a1000 2 = some (.int v321)) (o1 : bpat h_ a1002 1 = some (.int v322)) (c0_ : (12 : Int32).toInt ≤ v5.toInt) (c1_ : v5.toInt < v321.toInt) : ∃ h', ysm h_ h' ∧ (((∀ a_ j_ : Nat, bpat h' a_ j_ = bpat h_ a_ j_) ∧ (∀ D_, 60 ≤ D_ → xrun D_ 111 60 [(5, .int v5), (4, .index a1002), (3, .index a1000), (0, .index 0), (1, .int v1_), (2, .int v2)] [] h_ (some (.int v322), h', [])))) := by
  have hA : yas xsdW_A (xsdW_r v1_ v2 v5 v321 v322) (yg (xsdW_s a1000 a1002)) := ⟨fun q_ hq => absurd hq List.not_mem_nil, fun q_ hq => absurd hq List.not_mem_nil, fun q_ hq => absurd hq List.not_mem_nil, fun n_ hn => yg_lo hn, fun q_ hq => absurd hq List.not_mem_nil⟩
  have Hs : ysh xsdW_A.1 (yg (xsdW_s a1000 a1002)) h_ := ysh_of2 hs (List.forall_mem_cons.mpr ⟨⟨by decide, k1000⟩, List.forall_mem_cons.mpr ⟨⟨by decide, k1002⟩, fun q_ hq => absurd hq List.not_mem_nil⟩⟩)
  have Ho : ymem (xsdW_r v1_ v2 v5 v321 v322) (yg (xsdW_s a1000 a1002)) xsdW_O h_ := List.forall_mem_cons.mpr ⟨bpat_some o0_, List.forall_mem_cons.mpr ⟨bpat_some o1, fun q_ hq => absurd hq List.not_mem_nil⟩⟩
  have HC : ∀ q_ ∈ xsdW_C, xhold (xsdW_r v1_ v2 v5 v321 v322) q_ := List.forall_mem_cons.mpr ⟨xh_ltF c0_, List.forall_mem_cons.mpr ⟨xh_ltT c1_, fun q_ hq => absurd hq List.not_mem_nil⟩⟩
  rcases yrun (yis_ok xsdW_k) hA Hs Ho HC with ⟨q_, hq, h', K_, G_⟩ | ⟨q_, hq, h', K_, G_⟩
  · cases hq
  · have e_ := List.mem_singleton.mp hq
    subst e_
    exact ⟨h', yfr_sm K_.2.2.2 hs K_.1 (ywa_r xsdW_w List.mem_cons_self), ⟨fun a_ j_ => yfr_bp K_.2.2.2 (fun q_ hq => absurd hq List.not_mem_nil), G_⟩⟩
-- msdA: 120 steps, 1 ends, 4 returns
def msdA_L : List (Nat × Nat × Nat) := []
def msdA_O : yO := [(338, .int 3, .index 341), (341, .int 1, .arg 400), (338, .int 0, .index 339), (339, .int 0, .arg 310)]
def msdA_A : yA := (yZ msdA_L, [], [], [], [])
def msdA_C : List xB := []
def msdA_ss : List yS := [(21, [(0, .index 338), (1, .arg 1), (2, .arg 2)], [], [(338, .int 3, .index 341), (341, .int 1, .arg 400), (338, .int 0, .index 339), (339, .int 0, .arg 310)], [(.le, .arg 2, .sub (.arg 310) (.int 1), true), (.lt, .arg 2, .int 0, false), (.le, .arg 1, .int 3, true), (.lt, .arg 1, .int 0, false)], [])]
def msdA_rs : List yR := [(some (.int (Int32.ofInt (-1000001))), [(341, .int 1, .add (.arg 400) (.int 1)), (338, .int 3, .index 341), (338, .int 0, .index 339), (339, .int 0, .arg 310)], [(.lt, .arg 1, .int 0, true)], [(341, .int 1)]),
  (some (.int (Int32.ofInt (-1000001))), [(341, .int 1, .add (.arg 400) (.int 1)), (338, .int 3, .index 341), (338, .int 0, .index 339), (339, .int 0, .arg 310)], [(.le, .arg 1, .int 3, false), (.lt, .arg 1, .int 0, false)], [(341, .int 1)]),
  (some (.int (Int32.ofInt (-1000001))), [(341, .int 1, .add (.arg 400) (.int 1)), (338, .int 3, .index 341), (338, .int 0, .index 339), (339, .int 0, .arg 310)], [(.lt, .arg 2, .int 0, true), (.le, .arg 1, .int 3, true), (.lt, .arg 1, .int 0, false)], [(341, .int 1)]),
  (some (.int (Int32.ofInt (-1000001))), [(341, .int 1, .add (.arg 400) (.int 1)), (338, .int 3, .index 341), (338, .int 0, .index 339), (339, .int 0, .arg 310)], [(.le, .arg 2, .sub (.arg 310) (.int 1), false), (.lt, .arg 2, .int 0, false), (.le, .arg 1, .int 3, true), (.lt, .arg 1, .int 0, false)], [(341, .int 1)])]
theorem msdA_w : ywa msdA_A msdA_ss msdA_rs = true := by decide +kernel
theorem msdA_k : yis (yev msdA_A 3000 60 231 [21] (0, [(0, .index 338), (1, .arg 1), (2, .arg 2)], [], msdA_O, msdA_C, [])) msdA_ss msdA_rs = true := by decide +kernel
def msdA_r (v1_ v2 v310 v400 : Int32) (k_ : Nat) : Value := bif Nat.beq k_ 1 then .int v1_ else (bif Nat.beq k_ 2 then .int v2 else (bif Nat.beq k_ 310 then .int v310 else (bif Nat.beq k_ 400 then .int v400 else (.int 0))))
def msdA_s (n_ : Nat) : Nat := 0
theorem msdA {h_ : xH} {v1_ v2 v310 v400 : Int32} (hs : sHp h_) (o0_ : bpat h_ 341 1 = some (.int v400)) (o1 : bpat h_ 339 0 = some (.int v310)) : ∃ h', ysm h_ h' ∧ (((v2.toInt ≤ (v310 - (1 : Int32)).toInt) ∧ ((0 : Int32).toInt ≤ v2.toInt) ∧ (v1_.toInt ≤ (3 : Int32).toInt) ∧ ((0 : Int32).toInt ≤ v1_.toInt) ∧ (∀ a_ j_ : Nat, bpat h' a_ j_ = bpat h_ a_ j_) ∧ (bldD 60 231 0 [(0, .index 338), (1, .int v1_), (2, .int v2)] [] h_ 21 [(0, .index 338), (1, .int v1_), (2, .int v2)] [] h'))
  ∨ ((v1_.toInt < (0 : Int32).toInt) ∧ (bpat h' 341 1 = some (.int (v400 + (1 : Int32)))) ∧ (∀ a_ j_ : Nat, ¬ (a_ = 341 ∧ j_ = 1) → bpat h' a_ j_ = bpat h_ a_ j_) ∧ (∀ D_, 60 ≤ D_ → xrun D_ 231 0 [(0, .index 338), (1, .int v1_), (2, .int v2)] [] h_ (some (.int (Int32.ofInt (-1000001))), h', [])))
  ∨ (((3 : Int32).toInt < v1_.toInt) ∧ ((0 : Int32).toInt ≤ v1_.toInt) ∧ (bpat h' 341 1 = some (.int (v400 + (1 : Int32)))) ∧ (∀ a_ j_ : Nat, ¬ (a_ = 341 ∧ j_ = 1) → bpat h' a_ j_ = bpat h_ a_ j_) ∧ (∀ D_, 60 ≤ D_ → xrun D_ 231 0 [(0, .index 338), (1, .int v1_), (2, .int v2)] [] h_ (some (.int (Int32.ofInt (-1000001))), h', [])))
  ∨ ((v2.toInt < (0 : Int32).toInt) ∧ (v1_.toInt ≤ (3 : Int32).toInt) ∧ ((0 : Int32).toInt ≤ v1_.toInt) ∧ (bpat h' 341 1 = some (.int (v400 + (1 : Int32)))) ∧ (∀ a_ j_ : Nat, ¬ (a_ = 341 ∧ j_ = 1) → bpat h' a_ j_ = bpat h_ a_ j_) ∧ (∀ D_, 60 ≤ D_ → xrun D_ 231 0 [(0, .index 338), (1, .int v1_), (2, .int v2)] [] h_ (some (.int (Int32.ofInt (-1000001))), h', [])))
  ∨ (((v310 - (1 : Int32)).toInt < v2.toInt) ∧ ((0 : Int32).toInt ≤ v2.toInt) ∧ (v1_.toInt ≤ (3 : Int32).toInt) ∧ ((0 : Int32).toInt ≤ v1_.toInt) ∧ (bpat h' 341 1 = some (.int (v400 + (1 : Int32)))) ∧ (∀ a_ j_ : Nat, ¬ (a_ = 341 ∧ j_ = 1) → bpat h' a_ j_ = bpat h_ a_ j_) ∧ (∀ D_, 60 ≤ D_ → xrun D_ 231 0 [(0, .index 338), (1, .int v1_), (2, .int v2)] [] h_ (some (.int (Int32.ofInt (-1000001))), h', [])))) := by
  have hA : yas msdA_A (msdA_r v1_ v2 v310 v400) (yg msdA_s) := ⟨fun q_ hq => absurd hq List.not_mem_nil, fun q_ hq => absurd hq List.not_mem_nil, fun q_ hq => absurd hq List.not_mem_nil, fun n_ hn => yg_lo hn, fun q_ hq => absurd hq List.not_mem_nil⟩
  have Hs : ysh msdA_A.1 (yg msdA_s) h_ := ysh_of2 hs (fun q_ hq => absurd hq List.not_mem_nil)
  have Ho : ymem (msdA_r v1_ v2 v310 v400) (yg msdA_s) msdA_O h_ := List.forall_mem_cons.mpr ⟨bpat_some (fxr_at hs.2 (show fxk fxl 338 3 = some 341 by decide +kernel)), List.forall_mem_cons.mpr ⟨bpat_some o0_, List.forall_mem_cons.mpr ⟨bpat_some (fxr_at hs.2 (show fxk fxl 338 0 = some 339 by decide +kernel)), List.forall_mem_cons.mpr ⟨bpat_some o1, fun q_ hq => absurd hq List.not_mem_nil⟩⟩⟩⟩
  have HC : ∀ q_ ∈ msdA_C, xhold (msdA_r v1_ v2 v310 v400) q_ := fun q_ hq => absurd hq List.not_mem_nil
  rcases yrun (yis_ok msdA_k) hA Hs Ho HC with ⟨q_, hq, h', K_, G_⟩ | ⟨q_, hq, h', K_, G_⟩
  · have e_ := List.mem_singleton.mp hq
    subst e_
    exact ⟨h', yfr_sm K_.2.2.2 hs K_.1 (ywa_s msdA_w List.mem_cons_self), Or.inl (⟨xq_leT rfl (yv_sub2 rfl rfl) (K_.2.2.1 _ List.mem_cons_self), xq_ltF rfl rfl (K_.2.2.1 _ (List.mem_cons_of_mem _ List.mem_cons_self)), xq_leT rfl rfl (K_.2.2.1 _ (List.mem_cons_of_mem _ (List.mem_cons_of_mem _ List.mem_cons_self))), xq_ltF rfl rfl (K_.2.2.1 _ (List.mem_cons_of_mem _ (List.mem_cons_of_mem _ (List.mem_cons_of_mem _ List.mem_cons_self)))), fun a_ j_ => yfr_bp K_.2.2.2 (fun q_ hq => absurd hq List.not_mem_nil), G_⟩)⟩
  · rcases List.mem_cons.mp hq with e_ | hq
    · subst e_
      exact ⟨h', yfr_sm K_.2.2.2 hs K_.1 (ywa_r msdA_w List.mem_cons_self), Or.inr (Or.inl (⟨xq_ltT rfl rfl (K_.2.2.1 _ List.mem_cons_self), bpat_of (K_.2.1 _ List.mem_cons_self), fun a_ j_ n0_ => yfr_bp K_.2.2.2 (List.forall_mem_cons.mpr ⟨fun e_ => n0_ ⟨e_.1.symm, e_.2.symm⟩, fun q_ hq => absurd hq List.not_mem_nil⟩), G_⟩))⟩
    rcases List.mem_cons.mp hq with e_ | hq
    · subst e_
      exact ⟨h', yfr_sm K_.2.2.2 hs K_.1 (ywa_r msdA_w (List.mem_cons_of_mem _ List.mem_cons_self)), Or.inr (Or.inr (Or.inl (⟨xq_leF rfl rfl (K_.2.2.1 _ List.mem_cons_self), xq_ltF rfl rfl (K_.2.2.1 _ (List.mem_cons_of_mem _ List.mem_cons_self)), bpat_of (K_.2.1 _ List.mem_cons_self), fun a_ j_ n0_ => yfr_bp K_.2.2.2 (List.forall_mem_cons.mpr ⟨fun e_ => n0_ ⟨e_.1.symm, e_.2.symm⟩, fun q_ hq => absurd hq List.not_mem_nil⟩), G_⟩)))⟩
    rcases List.mem_cons.mp hq with e_ | hq
    · subst e_
      exact ⟨h', yfr_sm K_.2.2.2 hs K_.1 (ywa_r msdA_w (List.mem_cons_of_mem _ (List.mem_cons_of_mem _ List.mem_cons_self))), Or.inr (Or.inr (Or.inr (Or.inl (⟨xq_ltT rfl rfl (K_.2.2.1 _ List.mem_cons_self), xq_leT rfl rfl (K_.2.2.1 _ (List.mem_cons_of_mem _ List.mem_cons_self)), xq_ltF rfl rfl (K_.2.2.1 _ (List.mem_cons_of_mem _ (List.mem_cons_of_mem _ List.mem_cons_self))), bpat_of (K_.2.1 _ List.mem_cons_self), fun a_ j_ n0_ => yfr_bp K_.2.2.2 (List.forall_mem_cons.mpr ⟨fun e_ => n0_ ⟨e_.1.symm, e_.2.symm⟩, fun q_ hq => absurd hq List.not_mem_nil⟩), G_⟩))))⟩
    have e_ := List.mem_singleton.mp hq
    subst e_
    exact ⟨h', yfr_sm K_.2.2.2 hs K_.1 (ywa_r msdA_w (List.mem_cons_of_mem _ (List.mem_cons_of_mem _ (List.mem_cons_of_mem _ List.mem_cons_self)))), Or.inr (Or.inr (Or.inr (Or.inr (⟨xq_leF rfl (yv_sub2 rfl rfl) (K_.2.2.1 _ List.mem_cons_self), xq_ltF rfl rfl (K_.2.2.1 _ (List.mem_cons_of_mem _ List.mem_cons_self)), xq_leT rfl rfl (K_.2.2.1 _ (List.mem_cons_of_mem _ (List.mem_cons_of_mem _ List.mem_cons_self))), xq_ltF rfl rfl (K_.2.2.1 _ (List.mem_cons_of_mem _ (List.mem_cons_of_mem _ (List.mem_cons_of_mem _ List.mem_cons_self)))), bpat_of (K_.2.1 _ List.mem_cons_self), fun a_ j_ n0_ => yfr_bp K_.2.2.2 (List.forall_mem_cons.mpr ⟨fun e_ => n0_ ⟨e_.1.symm, e_.2.symm⟩, fun q_ hq => absurd hq List.not_mem_nil⟩), G_⟩))))⟩
-- msdB: 7 steps, 1 ends, 0 returns
def msdB_L : List (Nat × Nat × Nat) := []
def msdB_O : yO := [(338, .int 22, .index 350), (350, .arg 1, .arg 320)]
def msdB_A : yA := (yZ msdB_L, [(.arg 1, 4)], [], [], [])
def msdB_C : List xB := [(.eq, .arg 320, .int 0, false)]
def msdB_ss : List yS := [(38, [(3, .int 0), (0, .index 338), (1, .arg 1), (2, .arg 2)], [], [(338, .int 22, .index 350), (350, .arg 1, .arg 320)], [(.eq, .arg 320, .int 0, false)], [])]
def msdB_rs : List yR := []
theorem msdB_w : ywa msdB_A msdB_ss msdB_rs = true := by decide +kernel
theorem msdB_k : yis (yev msdB_A 3000 60 231 [38] (21, [(0, .index 338), (1, .arg 1), (2, .arg 2)], [], msdB_O, msdB_C, [])) msdB_ss msdB_rs = true := by decide +kernel
def msdB_r (v1_ v2 v320 : Int32) (k_ : Nat) : Value := bif Nat.beq k_ 1 then .int v1_ else (bif Nat.beq k_ 2 then .int v2 else (bif Nat.beq k_ 320 then .int v320 else (.int 0)))
def msdB_s (n_ : Nat) : Nat := 0
theorem msdB {h_ : xH} {v1_ v2 v320 : Int32} (hs : sHp h_) (o0_ : bpat h_ 350 (v1_).toInt.toNat = some (.int v320)) (b0 : 0 ≤ (v1_).toInt ∧ (v1_).toInt < 4) (c0_ : ¬ v320 = (0 : Int32)) : ∃ h', ysm h_ h' ∧ (((∀ a_ j_ : Nat, bpat h' a_ j_ = bpat h_ a_ j_) ∧ (bldD 60 231 21 [(0, .index 338), (1, .int v1_), (2, .int v2)] [] h_ 38 [(3, .int (0 : Int32)), (0, .index 338), (1, .int v1_), (2, .int v2)] [] h'))) := by
  have hA : yas msdB_A (msdB_r v1_ v2 v320) (yg msdB_s) := ⟨List.forall_mem_cons.mpr ⟨b0, fun q_ hq => absurd hq List.not_mem_nil⟩, fun q_ hq => absurd hq List.not_mem_nil, fun q_ hq => absurd hq List.not_mem_nil, fun n_ hn => yg_lo hn, fun q_ hq => absurd hq List.not_mem_nil⟩
  have Hs : ysh msdB_A.1 (yg msdB_s) h_ := ysh_of2 hs (fun q_ hq => absurd hq List.not_mem_nil)
  have Ho : ymem (msdB_r v1_ v2 v320) (yg msdB_s) msdB_O h_ := List.forall_mem_cons.mpr ⟨bpat_some (fxr_at hs.2 (show fxk fxl 338 22 = some 350 by decide +kernel)), List.forall_mem_cons.mpr ⟨bpat_some o0_, fun q_ hq => absurd hq List.not_mem_nil⟩⟩
  have HC : ∀ q_ ∈ msdB_C, xhold (msdB_r v1_ v2 v320) q_ := List.forall_mem_cons.mpr ⟨xh_eqF2 c0_, fun q_ hq => absurd hq List.not_mem_nil⟩
  rcases yrun (yis_ok msdB_k) hA Hs Ho HC with ⟨q_, hq, h', K_, G_⟩ | ⟨q_, hq, h', K_, G_⟩
  · have e_ := List.mem_singleton.mp hq
    subst e_
    exact ⟨h', yfr_sm K_.2.2.2 hs K_.1 (ywa_s msdB_w List.mem_cons_self), ⟨fun a_ j_ => yfr_bp K_.2.2.2 (fun q_ hq => absurd hq List.not_mem_nil), G_⟩⟩
  · cases hq
-- msdN: 21 steps, 0 ends, 1 returns
def msdN_L : List (Nat × Nat × Nat) := []
def msdN_O : yO := [(338, .int 22, .index 350), (350, .arg 1, .arg 320), (338, .int 3, .index 341), (341, .int 2, .arg 400)]
def msdN_A : yA := (yZ msdN_L, [(.arg 1, 4)], [], [], [])
def msdN_C : List xB := [(.eq, .arg 320, .int 0, true)]
def msdN_ss : List yS := []
def msdN_rs : List yR := [(some (.int (Int32.ofInt (-1000002))), [(341, .int 2, .add (.arg 400) (.int 1)), (338, .int 22, .index 350), (350, .arg 1, .arg 320), (338, .int 3, .index 341)], [(.eq, .arg 320, .int 0, true)], [(341, .int 2)])]
theorem msdN_w : ywa msdN_A msdN_ss msdN_rs = true := by decide +kernel
theorem msdN_k : yis (yev msdN_A 3000 60 231 [] (21, [(0, .index 338), (1, .arg 1), (2, .arg 2)], [], msdN_O, msdN_C, [])) msdN_ss msdN_rs = true := by decide +kernel
def msdN_r (v1_ v2 v320 v400 : Int32) (k_ : Nat) : Value := bif Nat.beq k_ 1 then .int v1_ else (bif Nat.beq k_ 2 then .int v2 else (bif Nat.beq k_ 320 then .int v320 else (bif Nat.beq k_ 400 then .int v400 else (.int 0))))
def msdN_s (n_ : Nat) : Nat := 0
theorem msdN {h_ : xH} {v1_ v2 v320 v400 : Int32} (hs : sHp h_) (o0_ : bpat h_ 350 (v1_).toInt.toNat = some (.int v320)) (o1 : bpat h_ 341 2 = some (.int v400)) (b0 : 0 ≤ (v1_).toInt ∧ (v1_).toInt < 4) (c0_ : v320 = (0 : Int32)) : ∃ h', ysm h_ h' ∧ (((bpat h' 341 2 = some (.int (v400 + (1 : Int32)))) ∧ (∀ a_ j_ : Nat, ¬ (a_ = 341 ∧ j_ = 2) → bpat h' a_ j_ = bpat h_ a_ j_) ∧ (∀ D_, 60 ≤ D_ → xrun D_ 231 21 [(0, .index 338), (1, .int v1_), (2, .int v2)] [] h_ (some (.int (Int32.ofInt (-1000002))), h', [])))) := by
  have hA : yas msdN_A (msdN_r v1_ v2 v320 v400) (yg msdN_s) := ⟨List.forall_mem_cons.mpr ⟨b0, fun q_ hq => absurd hq List.not_mem_nil⟩, fun q_ hq => absurd hq List.not_mem_nil, fun q_ hq => absurd hq List.not_mem_nil, fun n_ hn => yg_lo hn, fun q_ hq => absurd hq List.not_mem_nil⟩
  have Hs : ysh msdN_A.1 (yg msdN_s) h_ := ysh_of2 hs (fun q_ hq => absurd hq List.not_mem_nil)
  have Ho : ymem (msdN_r v1_ v2 v320 v400) (yg msdN_s) msdN_O h_ := List.forall_mem_cons.mpr ⟨bpat_some (fxr_at hs.2 (show fxk fxl 338 22 = some 350 by decide +kernel)), List.forall_mem_cons.mpr ⟨bpat_some o0_, List.forall_mem_cons.mpr ⟨bpat_some (fxr_at hs.2 (show fxk fxl 338 3 = some 341 by decide +kernel)), List.forall_mem_cons.mpr ⟨bpat_some o1, fun q_ hq => absurd hq List.not_mem_nil⟩⟩⟩⟩
  have HC : ∀ q_ ∈ msdN_C, xhold (msdN_r v1_ v2 v320 v400) q_ := List.forall_mem_cons.mpr ⟨xh_eqT2 c0_, fun q_ hq => absurd hq List.not_mem_nil⟩
  rcases yrun (yis_ok msdN_k) hA Hs Ho HC with ⟨q_, hq, h', K_, G_⟩ | ⟨q_, hq, h', K_, G_⟩
  · cases hq
  · have e_ := List.mem_singleton.mp hq
    subst e_
    exact ⟨h', yfr_sm K_.2.2.2 hs K_.1 (ywa_r msdN_w List.mem_cons_self), ⟨bpat_of (K_.2.1 _ List.mem_cons_self), fun a_ j_ n0_ => yfr_bp K_.2.2.2 (List.forall_mem_cons.mpr ⟨fun e_ => n0_ ⟨e_.1.symm, e_.2.symm⟩, fun q_ hq => absurd hq List.not_mem_nil⟩), G_⟩⟩
-- msdT: 41 steps, 1 ends, 0 returns
def msdT_L : List (Nat × Nat × Nat) := []
def msdT_O : yO := [(338, .int 23, .index 351), (351, .arg 1, .arg 321), (338, .int 24, .index 352), (352, .add (.mul (.int 24) (.arg 1)) (.arg 3), .arg 323), (338, .int 0, .index 339)]
def msdT_A : yA := (yZ msdT_L, [(.arg 1, 4), (.add (.mul (.int 24) (.arg 1)) (.arg 3), 96), (.add (.add (.add (.int 34) (.mul (.int 13) (.arg 2))) (.int 1)) (.arg 3), 768)], [], [], [(142, [.arg 323], .arg 500)])
def msdT_C : List xB := [(.eq, .arg 500, .int 0, false), (.lt, .arg 3, .int 12, true), (.lt, .arg 3, .arg 321, true)]
def msdT_ss : List yS := [(38, [(3, .add (.arg 3) (.int 1)), (0, .index 338), (1, .arg 1), (2, .arg 2)], [], [(339, .add (.add (.add (.int 34) (.mul (.int 13) (.arg 2))) (.int 1)) (.arg 3), .arg 323), (338, .int 23, .index 351), (351, .arg 1, .arg 321), (338, .int 24, .index 352), (352, .add (.mul (.int 24) (.arg 1)) (.arg 3), .arg 323), (338, .int 0, .index 339)], [(.eq, .arg 500, .int 0, false), (.lt, .arg 3, .int 12, true), (.lt, .arg 3, .arg 321, true)], [(339, .add (.add (.add (.int 34) (.mul (.int 13) (.arg 2))) (.int 1)) (.arg 3))])]
def msdT_rs : List yR := []
theorem msdT_w : ywa msdT_A msdT_ss msdT_rs = true := by decide +kernel
theorem msdT_k : yis (yev msdT_A 3000 60 231 [38] (38, [(3, .arg 3), (0, .index 338), (1, .arg 1), (2, .arg 2)], [], msdT_O, msdT_C, [])) msdT_ss msdT_rs = true := by decide +kernel
def msdT_r (v1_ v2 v3 v321 v323 v500 : Int32) (k_ : Nat) : Value := bif Nat.beq k_ 1 then .int v1_ else (bif Nat.beq k_ 2 then .int v2 else (bif Nat.beq k_ 3 then .int v3 else (bif Nat.beq k_ 321 then .int v321 else (bif Nat.beq k_ 323 then .int v323 else (bif Nat.beq k_ 500 then .int v500 else (.int 0))))))
def msdT_s (n_ : Nat) : Nat := 0
theorem msdT {h_ : xH} {v1_ v2 v3 v321 v323 v500 : Int32} (hs : sHp h_) (o0_ : bpat h_ 351 (v1_).toInt.toNat = some (.int v321)) (o1 : bpat h_ 352 ((((24 : Int32) * v1_) + v3)).toInt.toNat = some (.int v323)) (b0 : 0 ≤ (v1_).toInt ∧ (v1_).toInt < 4) (b1 : 0 ≤ ((((24 : Int32) * v1_) + v3)).toInt ∧ ((((24 : Int32) * v1_) + v3)).toInt < 96) (b2 : 0 ≤ (((((34 : Int32) + ((13 : Int32) * v2)) + (1 : Int32)) + v3)).toInt ∧ (((((34 : Int32) + ((13 : Int32) * v2)) + (1 : Int32)) + v3)).toInt < 768) (p0_ : ∀ (h_ : xH) (D_ : Nat), 5 ≤ D_ → xrun D_ 142 0 [(0, .int v323)] [] h_ (some (.int v500), h_, [])) (c0_ : ¬ v500 = (0 : Int32)) (c1_ : v3.toInt < (12 : Int32).toInt) (c2_ : v3.toInt < v321.toInt) : ∃ h', ysm h_ h' ∧ (((bpat h' 339 (((((34 : Int32) + ((13 : Int32) * v2)) + (1 : Int32)) + v3)).toInt.toNat = some (.int v323)) ∧ (∀ a_ j_ : Nat, ¬ (a_ = 339 ∧ j_ = (((((34 : Int32) + ((13 : Int32) * v2)) + (1 : Int32)) + v3)).toInt.toNat) → bpat h' a_ j_ = bpat h_ a_ j_) ∧ (bldD 60 231 38 [(3, .int v3), (0, .index 338), (1, .int v1_), (2, .int v2)] [] h_ 38 [(3, .int (v3 + (1 : Int32))), (0, .index 338), (1, .int v1_), (2, .int v2)] [] h'))) := by
  have hA : yas msdT_A (msdT_r v1_ v2 v3 v321 v323 v500) (yg msdT_s) := ⟨List.forall_mem_cons.mpr ⟨b0, List.forall_mem_cons.mpr ⟨b1, List.forall_mem_cons.mpr ⟨b2, fun q_ hq => absurd hq List.not_mem_nil⟩⟩⟩, fun q_ hq => absurd hq List.not_mem_nil, fun q_ hq => absurd hq List.not_mem_nil, fun n_ hn => yg_lo hn, List.forall_mem_cons.mpr ⟨p0_, fun q_ hq => absurd hq List.not_mem_nil⟩⟩
  have Hs : ysh msdT_A.1 (yg msdT_s) h_ := ysh_of2 hs (fun q_ hq => absurd hq List.not_mem_nil)
  have Ho : ymem (msdT_r v1_ v2 v3 v321 v323 v500) (yg msdT_s) msdT_O h_ := List.forall_mem_cons.mpr ⟨bpat_some (fxr_at hs.2 (show fxk fxl 338 23 = some 351 by decide +kernel)), List.forall_mem_cons.mpr ⟨bpat_some o0_, List.forall_mem_cons.mpr ⟨bpat_some (fxr_at hs.2 (show fxk fxl 338 24 = some 352 by decide +kernel)), List.forall_mem_cons.mpr ⟨bpat_some o1, List.forall_mem_cons.mpr ⟨bpat_some (fxr_at hs.2 (show fxk fxl 338 0 = some 339 by decide +kernel)), fun q_ hq => absurd hq List.not_mem_nil⟩⟩⟩⟩⟩
  have HC : ∀ q_ ∈ msdT_C, xhold (msdT_r v1_ v2 v3 v321 v323 v500) q_ := List.forall_mem_cons.mpr ⟨xh_eqF2 c0_, List.forall_mem_cons.mpr ⟨xh_ltT c1_, List.forall_mem_cons.mpr ⟨xh_ltT c2_, fun q_ hq => absurd hq List.not_mem_nil⟩⟩⟩
  rcases yrun (yis_ok msdT_k) hA Hs Ho HC with ⟨q_, hq, h', K_, G_⟩ | ⟨q_, hq, h', K_, G_⟩
  · have e_ := List.mem_singleton.mp hq
    subst e_
    exact ⟨h', yfr_sm K_.2.2.2 hs K_.1 (ywa_s msdT_w List.mem_cons_self), ⟨bpat_of (K_.2.1 _ List.mem_cons_self), fun a_ j_ n0_ => yfr_bp K_.2.2.2 (List.forall_mem_cons.mpr ⟨fun e_ => n0_ ⟨e_.1.symm, e_.2.symm⟩, fun q_ hq => absurd hq List.not_mem_nil⟩), G_⟩⟩
  · cases hq
-- msdU: 30 steps, 0 ends, 1 returns
def msdU_L : List (Nat × Nat × Nat) := []
def msdU_O : yO := [(338, .int 23, .index 351), (351, .arg 1, .arg 321), (338, .int 24, .index 352), (352, .add (.mul (.int 24) (.arg 1)) (.arg 3), .arg 323), (338, .int 0, .index 339)]
def msdU_A : yA := (yZ msdU_L, [(.arg 1, 4), (.add (.mul (.int 24) (.arg 1)) (.arg 3), 96), (.add (.int 34) (.mul (.int 13) (.arg 2)), 768)], [], [], [(142, [.arg 323], .arg 500)])
def msdU_C : List xB := [(.eq, .arg 500, .int 0, true), (.lt, .arg 3, .int 12, true), (.lt, .arg 3, .arg 321, true)]
def msdU_ss : List yS := []
def msdU_rs : List yR := [(some (.arg 3), [(339, .add (.int 34) (.mul (.int 13) (.arg 2)), .arg 3), (338, .int 23, .index 351), (351, .arg 1, .arg 321), (338, .int 24, .index 352), (352, .add (.mul (.int 24) (.arg 1)) (.arg 3), .arg 323), (338, .int 0, .index 339)], [(.eq, .arg 500, .int 0, true), (.lt, .arg 3, .int 12, true), (.lt, .arg 3, .arg 321, true)], [(339, .add (.int 34) (.mul (.int 13) (.arg 2)))])]
theorem msdU_w : ywa msdU_A msdU_ss msdU_rs = true := by decide +kernel
theorem msdU_k : yis (yev msdU_A 3000 60 231 [] (38, [(3, .arg 3), (0, .index 338), (1, .arg 1), (2, .arg 2)], [], msdU_O, msdU_C, [])) msdU_ss msdU_rs = true := by decide +kernel
def msdU_r (v1_ v2 v3 v321 v323 v500 : Int32) (k_ : Nat) : Value := bif Nat.beq k_ 1 then .int v1_ else (bif Nat.beq k_ 2 then .int v2 else (bif Nat.beq k_ 3 then .int v3 else (bif Nat.beq k_ 321 then .int v321 else (bif Nat.beq k_ 323 then .int v323 else (bif Nat.beq k_ 500 then .int v500 else (.int 0))))))
def msdU_s (n_ : Nat) : Nat := 0
theorem msdU {h_ : xH} {v1_ v2 v3 v321 v323 v500 : Int32} (hs : sHp h_) (o0_ : bpat h_ 351 (v1_).toInt.toNat = some (.int v321)) (o1 : bpat h_ 352 ((((24 : Int32) * v1_) + v3)).toInt.toNat = some (.int v323)) (b0 : 0 ≤ (v1_).toInt ∧ (v1_).toInt < 4) (b1 : 0 ≤ ((((24 : Int32) * v1_) + v3)).toInt ∧ ((((24 : Int32) * v1_) + v3)).toInt < 96) (b2 : 0 ≤ (((34 : Int32) + ((13 : Int32) * v2))).toInt ∧ (((34 : Int32) + ((13 : Int32) * v2))).toInt < 768) (p0_ : ∀ (h_ : xH) (D_ : Nat), 5 ≤ D_ → xrun D_ 142 0 [(0, .int v323)] [] h_ (some (.int v500), h_, [])) (c0_ : v500 = (0 : Int32)) (c1_ : v3.toInt < (12 : Int32).toInt) (c2_ : v3.toInt < v321.toInt) : ∃ h', ysm h_ h' ∧ (((bpat h' 339 (((34 : Int32) + ((13 : Int32) * v2))).toInt.toNat = some (.int v3)) ∧ (∀ a_ j_ : Nat, ¬ (a_ = 339 ∧ j_ = (((34 : Int32) + ((13 : Int32) * v2))).toInt.toNat) → bpat h' a_ j_ = bpat h_ a_ j_) ∧ (∀ D_, 60 ≤ D_ → xrun D_ 231 38 [(3, .int v3), (0, .index 338), (1, .int v1_), (2, .int v2)] [] h_ (some (.int v3), h', [])))) := by
  have hA : yas msdU_A (msdU_r v1_ v2 v3 v321 v323 v500) (yg msdU_s) := ⟨List.forall_mem_cons.mpr ⟨b0, List.forall_mem_cons.mpr ⟨b1, List.forall_mem_cons.mpr ⟨b2, fun q_ hq => absurd hq List.not_mem_nil⟩⟩⟩, fun q_ hq => absurd hq List.not_mem_nil, fun q_ hq => absurd hq List.not_mem_nil, fun n_ hn => yg_lo hn, List.forall_mem_cons.mpr ⟨p0_, fun q_ hq => absurd hq List.not_mem_nil⟩⟩
  have Hs : ysh msdU_A.1 (yg msdU_s) h_ := ysh_of2 hs (fun q_ hq => absurd hq List.not_mem_nil)
  have Ho : ymem (msdU_r v1_ v2 v3 v321 v323 v500) (yg msdU_s) msdU_O h_ := List.forall_mem_cons.mpr ⟨bpat_some (fxr_at hs.2 (show fxk fxl 338 23 = some 351 by decide +kernel)), List.forall_mem_cons.mpr ⟨bpat_some o0_, List.forall_mem_cons.mpr ⟨bpat_some (fxr_at hs.2 (show fxk fxl 338 24 = some 352 by decide +kernel)), List.forall_mem_cons.mpr ⟨bpat_some o1, List.forall_mem_cons.mpr ⟨bpat_some (fxr_at hs.2 (show fxk fxl 338 0 = some 339 by decide +kernel)), fun q_ hq => absurd hq List.not_mem_nil⟩⟩⟩⟩⟩
  have HC : ∀ q_ ∈ msdU_C, xhold (msdU_r v1_ v2 v3 v321 v323 v500) q_ := List.forall_mem_cons.mpr ⟨xh_eqT2 c0_, List.forall_mem_cons.mpr ⟨xh_ltT c1_, List.forall_mem_cons.mpr ⟨xh_ltT c2_, fun q_ hq => absurd hq List.not_mem_nil⟩⟩⟩
  rcases yrun (yis_ok msdU_k) hA Hs Ho HC with ⟨q_, hq, h', K_, G_⟩ | ⟨q_, hq, h', K_, G_⟩
  · cases hq
  · have e_ := List.mem_singleton.mp hq
    subst e_
    exact ⟨h', yfr_sm K_.2.2.2 hs K_.1 (ywa_r msdU_w List.mem_cons_self), ⟨bpat_of (K_.2.1 _ List.mem_cons_self), fun a_ j_ n0_ => yfr_bp K_.2.2.2 (List.forall_mem_cons.mpr ⟨fun e_ => n0_ ⟨e_.1.symm, e_.2.symm⟩, fun q_ hq => absurd hq List.not_mem_nil⟩), G_⟩⟩
-- msdV: 17 steps, 0 ends, 1 returns
def msdV_L : List (Nat × Nat × Nat) := []
def msdV_O : yO := [(338, .int 23, .index 351), (351, .arg 1, .arg 321), (338, .int 0, .index 339)]
def msdV_A : yA := (yZ msdV_L, [(.arg 1, 4), (.add (.int 34) (.mul (.int 13) (.arg 2)), 768)], [], [], [])
def msdV_C : List xB := [(.lt, .arg 3, .arg 321, false)]
def msdV_ss : List yS := []
def msdV_rs : List yR := [(some (.arg 3), [(339, .add (.int 34) (.mul (.int 13) (.arg 2)), .arg 3), (338, .int 23, .index 351), (351, .arg 1, .arg 321), (338, .int 0, .index 339)], [(.lt, .arg 3, .arg 321, false)], [(339, .add (.int 34) (.mul (.int 13) (.arg 2)))])]
theorem msdV_w : ywa msdV_A msdV_ss msdV_rs = true := by decide +kernel
theorem msdV_k : yis (yev msdV_A 3000 60 231 [] (38, [(3, .arg 3), (0, .index 338), (1, .arg 1), (2, .arg 2)], [], msdV_O, msdV_C, [])) msdV_ss msdV_rs = true := by decide +kernel
def msdV_r (v1_ v2 v3 v321 : Int32) (k_ : Nat) : Value := bif Nat.beq k_ 1 then .int v1_ else (bif Nat.beq k_ 2 then .int v2 else (bif Nat.beq k_ 3 then .int v3 else (bif Nat.beq k_ 321 then .int v321 else (.int 0))))
def msdV_s (n_ : Nat) : Nat := 0
theorem msdV {h_ : xH} {v1_ v2 v3 v321 : Int32} (hs : sHp h_) (o0_ : bpat h_ 351 (v1_).toInt.toNat = some (.int v321)) (b0 : 0 ≤ (v1_).toInt ∧ (v1_).toInt < 4) (b1 : 0 ≤ (((34 : Int32) + ((13 : Int32) * v2))).toInt ∧ (((34 : Int32) + ((13 : Int32) * v2))).toInt < 768) (c0_ : v321.toInt ≤ v3.toInt) : ∃ h', ysm h_ h' ∧ (((bpat h' 339 (((34 : Int32) + ((13 : Int32) * v2))).toInt.toNat = some (.int v3)) ∧ (∀ a_ j_ : Nat, ¬ (a_ = 339 ∧ j_ = (((34 : Int32) + ((13 : Int32) * v2))).toInt.toNat) → bpat h' a_ j_ = bpat h_ a_ j_) ∧ (∀ D_, 60 ≤ D_ → xrun D_ 231 38 [(3, .int v3), (0, .index 338), (1, .int v1_), (2, .int v2)] [] h_ (some (.int v3), h', [])))) := by
  have hA : yas msdV_A (msdV_r v1_ v2 v3 v321) (yg msdV_s) := ⟨List.forall_mem_cons.mpr ⟨b0, List.forall_mem_cons.mpr ⟨b1, fun q_ hq => absurd hq List.not_mem_nil⟩⟩, fun q_ hq => absurd hq List.not_mem_nil, fun q_ hq => absurd hq List.not_mem_nil, fun n_ hn => yg_lo hn, fun q_ hq => absurd hq List.not_mem_nil⟩
  have Hs : ysh msdV_A.1 (yg msdV_s) h_ := ysh_of2 hs (fun q_ hq => absurd hq List.not_mem_nil)
  have Ho : ymem (msdV_r v1_ v2 v3 v321) (yg msdV_s) msdV_O h_ := List.forall_mem_cons.mpr ⟨bpat_some (fxr_at hs.2 (show fxk fxl 338 23 = some 351 by decide +kernel)), List.forall_mem_cons.mpr ⟨bpat_some o0_, List.forall_mem_cons.mpr ⟨bpat_some (fxr_at hs.2 (show fxk fxl 338 0 = some 339 by decide +kernel)), fun q_ hq => absurd hq List.not_mem_nil⟩⟩⟩
  have HC : ∀ q_ ∈ msdV_C, xhold (msdV_r v1_ v2 v3 v321) q_ := List.forall_mem_cons.mpr ⟨xh_ltF c0_, fun q_ hq => absurd hq List.not_mem_nil⟩
  rcases yrun (yis_ok msdV_k) hA Hs Ho HC with ⟨q_, hq, h', K_, G_⟩ | ⟨q_, hq, h', K_, G_⟩
  · cases hq
  · have e_ := List.mem_singleton.mp hq
    subst e_
    exact ⟨h', yfr_sm K_.2.2.2 hs K_.1 (ywa_r msdV_w List.mem_cons_self), ⟨bpat_of (K_.2.1 _ List.mem_cons_self), fun a_ j_ n0_ => yfr_bp K_.2.2.2 (List.forall_mem_cons.mpr ⟨fun e_ => n0_ ⟨e_.1.symm, e_.2.symm⟩, fun q_ hq => absurd hq List.not_mem_nil⟩), G_⟩⟩
-- msdW: 20 steps, 0 ends, 1 returns
def msdW_L : List (Nat × Nat × Nat) := []
def msdW_O : yO := [(338, .int 23, .index 351), (351, .arg 1, .arg 321), (338, .int 0, .index 339)]
def msdW_A : yA := (yZ msdW_L, [(.arg 1, 4), (.add (.int 34) (.mul (.int 13) (.arg 2)), 768)], [], [], [])
def msdW_C : List xB := [(.lt, .arg 3, .int 12, false), (.lt, .arg 3, .arg 321, true)]
def msdW_ss : List yS := []
def msdW_rs : List yR := [(some (.arg 3), [(339, .add (.int 34) (.mul (.int 13) (.arg 2)), .arg 3), (338, .int 23, .index 351), (351, .arg 1, .arg 321), (338, .int 0, .index 339)], [(.lt, .arg 3, .int 12, false), (.lt, .arg 3, .arg 321, true)], [(339, .add (.int 34) (.mul (.int 13) (.arg 2)))])]
theorem msdW_w : ywa msdW_A msdW_ss msdW_rs = true := by decide +kernel
theorem msdW_k : yis (yev msdW_A 3000 60 231 [] (38, [(3, .arg 3), (0, .index 338), (1, .arg 1), (2, .arg 2)], [], msdW_O, msdW_C, [])) msdW_ss msdW_rs = true := by decide +kernel
def msdW_r (v1_ v2 v3 v321 : Int32) (k_ : Nat) : Value := bif Nat.beq k_ 1 then .int v1_ else (bif Nat.beq k_ 2 then .int v2 else (bif Nat.beq k_ 3 then .int v3 else (bif Nat.beq k_ 321 then .int v321 else (.int 0))))
def msdW_s (n_ : Nat) : Nat := 0
theorem msdW {h_ : xH} {v1_ v2 v3 v321 : Int32} (hs : sHp h_) (o0_ : bpat h_ 351 (v1_).toInt.toNat = some (.int v321)) (b0 : 0 ≤ (v1_).toInt ∧ (v1_).toInt < 4) (b1 : 0 ≤ (((34 : Int32) + ((13 : Int32) * v2))).toInt ∧ (((34 : Int32) + ((13 : Int32) * v2))).toInt < 768) (c0_ : (12 : Int32).toInt ≤ v3.toInt) (c1_ : v3.toInt < v321.toInt) : ∃ h', ysm h_ h' ∧ (((bpat h' 339 (((34 : Int32) + ((13 : Int32) * v2))).toInt.toNat = some (.int v3)) ∧ (∀ a_ j_ : Nat, ¬ (a_ = 339 ∧ j_ = (((34 : Int32) + ((13 : Int32) * v2))).toInt.toNat) → bpat h' a_ j_ = bpat h_ a_ j_) ∧ (∀ D_, 60 ≤ D_ → xrun D_ 231 38 [(3, .int v3), (0, .index 338), (1, .int v1_), (2, .int v2)] [] h_ (some (.int v3), h', [])))) := by
  have hA : yas msdW_A (msdW_r v1_ v2 v3 v321) (yg msdW_s) := ⟨List.forall_mem_cons.mpr ⟨b0, List.forall_mem_cons.mpr ⟨b1, fun q_ hq => absurd hq List.not_mem_nil⟩⟩, fun q_ hq => absurd hq List.not_mem_nil, fun q_ hq => absurd hq List.not_mem_nil, fun n_ hn => yg_lo hn, fun q_ hq => absurd hq List.not_mem_nil⟩
  have Hs : ysh msdW_A.1 (yg msdW_s) h_ := ysh_of2 hs (fun q_ hq => absurd hq List.not_mem_nil)
  have Ho : ymem (msdW_r v1_ v2 v3 v321) (yg msdW_s) msdW_O h_ := List.forall_mem_cons.mpr ⟨bpat_some (fxr_at hs.2 (show fxk fxl 338 23 = some 351 by decide +kernel)), List.forall_mem_cons.mpr ⟨bpat_some o0_, List.forall_mem_cons.mpr ⟨bpat_some (fxr_at hs.2 (show fxk fxl 338 0 = some 339 by decide +kernel)), fun q_ hq => absurd hq List.not_mem_nil⟩⟩⟩
  have HC : ∀ q_ ∈ msdW_C, xhold (msdW_r v1_ v2 v3 v321) q_ := List.forall_mem_cons.mpr ⟨xh_ltF c0_, List.forall_mem_cons.mpr ⟨xh_ltT c1_, fun q_ hq => absurd hq List.not_mem_nil⟩⟩
  rcases yrun (yis_ok msdW_k) hA Hs Ho HC with ⟨q_, hq, h', K_, G_⟩ | ⟨q_, hq, h', K_, G_⟩
  · cases hq
  · have e_ := List.mem_singleton.mp hq
    subst e_
    exact ⟨h', yfr_sm K_.2.2.2 hs K_.1 (ywa_r msdW_w List.mem_cons_self), ⟨bpat_of (K_.2.1 _ List.mem_cons_self), fun a_ j_ n0_ => yfr_bp K_.2.2.2 (List.forall_mem_cons.mpr ⟨fun e_ => n0_ ⟨e_.1.symm, e_.2.symm⟩, fun q_ hq => absurd hq List.not_mem_nil⟩), G_⟩⟩
/-- the class's turns: as many as are SOUNDS -/
theorem sd_lp {s_ : Nat} {cr : Nat} {lo0 : Int32} {c0_ : Int32} {L_ : List Int32} {n_ : Int32} {aS bS aR bR : Nat} (hn : 0 ≤ n_.toInt ∧ n_.toInt ≤ 24) (hL : L_.length = 24) : ∀ (k_ i_ : Nat) (h_ : xH), i_ + k_ = 12 → sHp h_ → bcq h_ aS 7 3 → bcq h_ bS 20 24 → bpat h_ aS 0 = some (.index bS) → bpat h_ aS 2 = some (.int n_) → (∀ j_ y_, L_[j_]? = some y_ → bpat h_ bS j_ = some (.int y_)) → rwx h_ aR bR 12 (L_.take i_) → i_ ≤ n_.toInt.toNat → ∃ h', rwx h' aR bR 12 (L_.take i_ ++ spx (min n_.toInt.toNat 12 - i_) (L_.drop i_)) ∧ ysm h_ h' ∧ (∀ c_ j_, ¬ c_ = aR → ¬ c_ = bR → bpat h' c_ j_ = bpat h_ c_ j_) ∧ ∀ D_, 60 ≤ D_ → xrun D_ 111 60 [(5, .int (Int32.ofNat i_)), (4, .index aR), (3, .index aS), (0, .index 0), (1, .int lo0), (2, .int c0_)] [] h_ (some (.int (Int32.ofNat (L_.take i_ ++ spx (min n_.toInt.toNat 12 - i_) (L_.drop i_)).length)), h', []) := by
  have z12 := i12_
  intro k_
  induction k_ with
  | zero =>
    intro i_ h_ hi_ hs k1_ k2_ o0_ o2 P_ R_ hin
    have hl : (L_.take i_).length = 12 := by rw [List.length_take]; omega
    have e0_ : min n_.toInt.toNat 12 - i_ = 0 := by omega
    rw [e0_, show L_.take i_ ++ spx 0 (L_.drop i_) = L_.take i_ from List.append_nil _]
    by_cases g_ : i_ < n_.toInt.toNat
    · obtain ⟨h1, m1_, f1_, r1_⟩ := xsdW (v1_ := lo0) (v2 := c0_) (v5 := Int32.ofNat i_) hs k1_ R_.1.1 o2 R_.2.1.2 (by rw [i32n (by omega)]; omega) (by rw [i32n (by omega)]; omega)
      exact ⟨h1, rwx_keep R_ m1_ (fun c_ j_ _ => f1_ c_ j_), m1_, fun c_ j_ _ _ => f1_ c_ j_, r1_⟩
    · obtain ⟨h1, m1_, f1_, r1_⟩ := xsdV (v1_ := lo0) (v2 := c0_) (v5 := Int32.ofNat i_) hs k1_ R_.1.1 o2 R_.2.1.2 (by rw [i32n (by omega)]; omega)
      exact ⟨h1, rwx_keep R_ m1_ (fun c_ j_ _ => f1_ c_ j_), m1_, fun c_ j_ _ _ => f1_ c_ j_, r1_⟩
  | succ k_ ih_ =>
    intro i_ h_ hi_ hs k1_ k2_ o0_ o2 P_ R_ hin
    have hl : (L_.take i_).length = i_ := by rw [List.length_take]; omega
    by_cases g_ : i_ < n_.toInt.toNat
    · have gi : L_[i_]? = some L_[i_] := List.getElem?_eq_getElem (by omega)
      have oy : bpat h_ bS (Int32.ofNat i_).toInt.toNat = some (.int L_[i_]) := by
        rw [i32t (by omega)]
        exact P_ i_ _ gi
      have es : spx (min n_.toInt.toNat 12 - i_) (L_.drop i_) = if puS_F L_[i_] = 0 then [] else L_[i_] :: spx (min n_.toInt.toNat 12 - (i_ + 1)) (L_.drop (i_ + 1)) := by
        rw [show min n_.toInt.toNat 12 - i_ = min n_.toInt.toNat 12 - (i_ + 1) + 1 by omega, List.drop_eq_getElem_cons (by omega), spx_s]
      by_cases g2 : puS_F L_[i_] = 0
      · obtain ⟨h1, m1_, f1_, r1_⟩ := xsdU (v1_ := lo0) (v2 := c0_) (v5 := Int32.ofNat i_) hs k1_ k2_ R_.1.1 R_.1.2 o2 o0_ oy R_.2.1.2 ⟨by rw [i32n (by omega)]; omega, by rw [i32n (by omega)]; omega⟩ (fun h_ D_ hD => puS _ h_ D_ hD) g2 (by rw [i32n (by omega)]; omega) (by rw [i32n (by omega)]; omega)
        rw [es, if_pos g2, List.append_nil]
        exact ⟨h1, rwx_keep R_ m1_ (fun c_ j_ _ => f1_ c_ j_), m1_, fun c_ j_ _ _ => f1_ c_ j_, r1_⟩
      · have R4 := R_.2.1.2
        rw [hl] at R4
        obtain ⟨h1, m1_, e1_, e2_, f1_, ld⟩ := xsdT (v1_ := lo0) (v2 := c0_) (v5 := Int32.ofNat i_) hs k1_ k2_ R_.1.1 R_.1.2 o2 o0_ oy R4 R_.2.1.1 ⟨by rw [i32n (by omega)]; omega, by rw [i32n (by omega)]; omega⟩ ⟨by rw [i32n (by omega)]; omega, by rw [i32n (by omega)]; omega⟩ (fun h_ D_ hD => puS _ h_ D_ hD) (by rw [i32n (by omega)]; omega) g2 (by rw [i32n (by omega)]; omega) (by rw [i32n (by omega)]; omega)
        rw [i32s] at e1_ ld
        rw [i32t (by omega)] at e2_ f1_
        have nS1 : ¬ aS = aR := bcq_ne k1_ R_.1.1 (by decide)
        have nS2 : ¬ aS = bR := bcq_ne k1_ R_.1.2 (by decide)
        have nS3 : ¬ bS = aR := fun q_ => bcq_ne R_.1.1 k2_ (by decide) q_.symm
        have nS4 : ¬ bS = bR := bcq_nl k2_ R_.1.2 (by decide)
        have R1 : rwx h1 aR bR 12 (L_.take (i_ + 1)) := by
          rw [List.take_succ_eq_append_getElem (by omega)]
          exact rwx_add R_ (by omega) m1_ (by rw [hl]; exact e1_) (by rw [hl]; exact e2_) (by rw [hl]; exact f1_)
        obtain ⟨h2, R2, m2_, f2_, r2⟩ := ih_ (i_ + 1) h1 (by omega) m1_.1 (m1_.2 _ _ _ k1_) (m1_.2 _ _ _ k2_) ((f1_ _ _ (fun q_ => nS1 q_.1) (fun q_ => nS2 q_.1)).trans o0_) ((f1_ _ _ (fun q_ => nS1 q_.1) (fun q_ => nS2 q_.1)).trans o2) (fun j_ y_ hy => (f1_ _ _ (fun q_ => nS3 q_.1) (fun q_ => nS4 q_.1)).trans (P_ j_ y_ hy)) R1 (by omega)
        rw [es, if_neg g2]
        have ea : L_.take (i_ + 1) ++ spx (min n_.toInt.toNat 12 - (i_ + 1)) (L_.drop (i_ + 1)) = L_.take i_ ++ L_[i_] :: spx (min n_.toInt.toNat 12 - (i_ + 1)) (L_.drop (i_ + 1)) := by
          rw [List.take_succ_eq_append_getElem (by omega), List.append_assoc]
          rfl
        rw [ea] at R2 r2
        exact ⟨h2, R2, ysm_tr m1_ m2_, fun c_ j_ n1_ n2_ => (f2_ c_ j_ n1_ n2_).trans (f1_ c_ j_ (fun q_ => n1_ q_.1) (fun q_ => n2_ q_.1)), fun D_ hD => ld D_ hD _ (r2 D_ hD)⟩
    · have e0_ : min n_.toInt.toNat 12 - i_ = 0 := by omega
      rw [e0_, show L_.take i_ ++ spx 0 (L_.drop i_) = L_.take i_ from List.append_nil _, hl]
      have R4 := R_.2.1.2
      rw [hl] at R4
      obtain ⟨h1, m1_, f1_, r1_⟩ := xsdV (v1_ := lo0) (v2 := c0_) (v5 := Int32.ofNat i_) hs k1_ R_.1.1 o2 R4 (by rw [i32n (by omega)]; omega)
      exact ⟨h1, rwx_keep R_ m1_ (fun c_ j_ _ => f1_ c_ j_), m1_, fun c_ j_ _ _ => f1_ c_ j_, r1_⟩
theorem x_sounds {W_ : Nat → List Int32} {V : Nat → Int32} {h_ : xH} {z_ c_ : Int32} (B_ : bInv bZ bIj h_) (K_ : okS W_ V) (H_ : SX W_ V h_) : ∃ h', ysm h_ h' ∧ (SX (soundsF W_ V z_ c_).1 (soundsF W_ V z_ c_).2.1 h' ∧ ∀ D_, 60 ≤ D_ → xrun D_ 111 0 [(0, .index 0), (1, .int z_), (2, .int c_)] [] h_ (some (.int (soundsF W_ V z_ c_).2.2), h', [])) := by
  obtain ⟨y_, oy⟩ := xerr (k_ := 1) B_ (by omega)
  obtain ⟨y2, oy2⟩ := xerr (k_ := 2) B_ (by omega)
  have zz := z0_
  have z4 := i4_
  unfold soundsF
  obtain ⟨h0, m0_, e_⟩ := xsdA (v1_ := z_) (v2 := c_) H_.1 oy (xNc H_)
  rcases e_ with ⟨g1, g2, g3_, g4, f_, r_⟩ | ⟨g1, w0_, f_, r_⟩ | ⟨g1, g2, w0_, f_, r_⟩ | ⟨g1, g2, g3_, w0_, f_, r_⟩ | ⟨g1, g2, g3_, g4, w0_, f_, r_⟩
  rotate_left
  · rw [if_neg (by omega)]; exact ⟨h0, m0_, SX_e H_ m0_ f_, r_⟩
  · rw [if_neg (by omega)]; exact ⟨h0, m0_, SX_e H_ m0_ f_, r_⟩
  · rw [if_neg (by omega)]; exact ⟨h0, m0_, SX_e H_ m0_ f_, r_⟩
  · rw [if_neg (by omega)]; exact ⟨h0, m0_, SX_e H_ m0_ f_, r_⟩
  have H0 := SX_fr H_ m0_ (fun c_ j_ _ => f_ c_ j_)
  rw [if_pos ⟨⟨by omega, by omega⟩, by omega, by omega⟩]
  obtain ⟨k_, hk, rfl, ek⟩ := isS_n (z_ := z_) ⟨by omega, by omega⟩
  obtain ⟨cc, hc_, hN_, rfl, ec⟩ := isC_n (z_ := c_) K_ ⟨by omega, by omega⟩
  obtain ⟨⟨s1_, s2_⟩, s3_, s4_⟩ := sh_s H0.1 hk
  obtain ⟨t1_, t2_, t3_⟩ := cl_s H0.1 hc_
  obtain ⟨ks1, ks2⟩ := K_.2.2 k_ hk
  rw [ek, ec]
  by_cases g_ : (V (210 + 2 * k_)).toInt = 0
  · rw [if_pos g_]
    obtain ⟨h1, m1_, w1_, f1_, r1_⟩ := xsdN (v1_ := Int32.ofNat k_) (v2 := Int32.ofNat cc) H0.1 s3_ (by rw [ek]; exact s1_) (H0.2.2.2.2 k_ hk).1 (by rw [f_]; exact oy2) ⟨by omega, by omega⟩ (Int32.toInt_inj.mp (by omega))
    exact ⟨h1, ysm_tr m0_ m1_, SX_e H0 m1_ f1_, fun D_ hD => r_ D_ hD _ (r1_ D_ hD)⟩
  · rw [if_neg g_]
    obtain ⟨h1, m1_, e1_, f1_, ld1⟩ := xsdB (v1_ := Int32.ofNat k_) (v2 := Int32.ofNat cc) H0.1 s3_ t2_ (by rw [ek]; exact s1_) (H0.2.2.2.2 k_ hk).1 (by rw [ec]; exact t1_) ⟨by omega, by omega⟩ ⟨by omega, by omega⟩ (fun q_ => by have q2_ := congrArg Int32.toInt q_; omega)
    have R0_ := SX_w H0 (cl_x hc_)
    have R1 : rwx h1 (34 + 2 * cc) (35 + 2 * cc) 12 [] := rwx_nil R0_ m1_ e1_ (fun j_ n_ => f1_ _ j_ (fun q_ => n_ q_.2))
    have S0_ := H0.2.2.2.2 k_ hk
    obtain ⟨h2, R2, m2_, f2_, r2⟩ := sd_lp (lo0 := Int32.ofNat k_) (c0_ := Int32.ofNat cc) (s_ := k_) (cr := cc) ks2 ks1.1 12 0 h1 (by omega) m1_.1 (m1_.2 _ _ _ s3_) (m1_.2 _ _ _ s4_) ((f1_ _ _ (fun q_ => by have q_ := q_.2; omega)).trans s2_) ((f1_ _ _ (fun q_ => by have q_ := q_.2; omega)).trans S0_.2.1) (fun j_ y3 hy => (f1_ _ _ (fun q_ => by have q_ := q_.1; omega)).trans (S0_.2.2 j_ y3 hy)) R1 (by omega)
    rw [List.take_zero, List.nil_append, Nat.sub_zero, List.drop_zero] at R2 r2
    exact ⟨h2, ysm_tr m0_ (ysm_tr m1_ m2_), SX_r H0 (ysm_tr m1_ m2_) (cl_x hc_) R2 (fun c2_ j_ _ n1_ n2_ => (f2_ c2_ j_ n1_ n2_).trans (f1_ c2_ j_ (fun q_ => n1_ q_.1))), fun D_ hD => r_ D_ hD _ (ld1 D_ hD _ (r2 D_ hD))⟩
theorem i351 {c_ i_ : Nat} (hc_ : c_ < 12) (hi_ : i_ ≤ 12) : ((34 : Int32) + 13 * Int32.ofNat c_ + 1 + Int32.ofNat i_).toInt.toNat = 35 + 13 * c_ + i_ ∧ (0 ≤ ((34 : Int32) + 13 * Int32.ofNat c_ + 1 + Int32.ofNat i_).toInt ∧ ((34 : Int32) + 13 * Int32.ofNat c_ + 1 + Int32.ofNat i_).toInt < 768) := by
  have k_ : (List.range 12).all (fun c_ => decide ((34 : Int32) + 13 * Int32.ofNat c_ + 1 = Int32.ofNat (35 + 13 * c_))) = true := by decide +kernel
  have e_ := of_decide_eq_true (List.all_eq_true.mp k_ c_ (List.mem_range.mpr hc_))
  rw [e_, i32p, i32n (by omega)]
  omega
theorem smd_lp {s_ c_ : Nat} {L_ : List Int32} {n_ : Int32} (hs4 : s_ < 4) (hc_ : c_ < 12) (hn : 0 ≤ n_.toInt ∧ n_.toInt ≤ 24) (hL : L_.length = 24) : ∀ (k_ i_ : Nat) (h_ : xH), i_ + k_ = 12 → sHp h_ → bpat h_ 351 s_ = some (.int n_) → (∀ j_ y_, L_[j_]? = some y_ → bpat h_ 352 (24 * s_ + j_) = some (.int y_)) → (∀ j_ y_, (L_.take i_)[j_]? = some y_ → bpat h_ 339 (35 + 13 * c_ + j_) = some (.int y_)) → i_ ≤ n_.toInt.toNat → ∃ h', rwq h' 339 (34 + 13 * c_) (35 + 13 * c_) 1 (L_.take i_ ++ spx (min n_.toInt.toNat 12 - i_) (L_.drop i_)) ∧ ysm h_ h' ∧ (∀ c2_ j_, ¬ (c2_ = 339 ∧ (34 + 13 * c_ ≤ j_ ∧ j_ < 47 + 13 * c_)) → bpat h' c2_ j_ = bpat h_ c2_ j_) ∧ ∀ D_, 60 ≤ D_ → xrun D_ 231 38 [(3, .int (Int32.ofNat i_)), (0, .index 338), (1, .int (Int32.ofNat s_)), (2, .int (Int32.ofNat c_))] [] h_ (some (.int (Int32.ofNat (L_.take i_ ++ spx (min n_.toInt.toNat 12 - i_) (L_.drop i_)).length)), h', []) := by
  have z12 := i12_
  have es : (Int32.ofNat s_).toInt.toNat = s_ := i32t (by omega)
  have bs : 0 ≤ (Int32.ofNat s_).toInt ∧ (Int32.ofNat s_).toInt < 4 := by rw [i32n (by omega)]; omega
  obtain ⟨ix, bx⟩ := i34 hc_
  have stop_ : ∀ (i_ : Nat) (h_ h1 : xH), i_ ≤ 12 → ysm h_ h1 → bpat h1 339 (34 + 13 * c_) = some (.int (Int32.ofNat i_)) → (∀ c2_ j_, ¬ (c2_ = 339 ∧ j_ = 34 + 13 * c_) → bpat h1 c2_ j_ = bpat h_ c2_ j_) → (∀ j_ y_, (L_.take i_)[j_]? = some y_ → bpat h_ 339 (35 + 13 * c_ + j_) = some (.int y_)) → rwq h1 339 (34 + 13 * c_) (35 + 13 * c_) 1 (L_.take i_) := by
    intro i_ h_ h1 hi_ m_ e_ f_ Q_
    have hl : (L_.take i_).length = i_ := by rw [List.length_take]; omega
    refine ⟨by rw [hl]; exact e_, fun j_ y_ hy => ?_⟩
    rw [Nat.one_mul]
    exact (f_ _ _ (fun q_ => by have q_ := q_.2; omega)).trans (Q_ j_ y_ hy)
  intro k_
  induction k_ with
  | zero =>
    intro i_ h_ hi_ hs o2 P_ Q_ hin
    have hl : (L_.take i_).length = i_ := by rw [List.length_take]; omega
    have e0_ : min n_.toInt.toNat 12 - i_ = 0 := by omega
    rw [e0_, show L_.take i_ ++ spx 0 (L_.drop i_) = L_.take i_ from List.append_nil _, hl]
    by_cases g_ : i_ < n_.toInt.toNat
    · obtain ⟨h1, m1_, e1_, f1_, r1_⟩ := msdW (v1_ := Int32.ofNat s_) (v2 := Int32.ofNat c_) (v3 := Int32.ofNat i_) hs (by rw [es]; exact o2) bs bx (by rw [i32n (by omega)]; omega) (by rw [i32n (by omega)]; omega)
      rw [ix] at e1_ f1_
      exact ⟨h1, stop_ i_ h_ h1 (by omega) m1_ e1_ f1_ Q_, m1_, fun c2_ j_ n1_ => f1_ c2_ j_ (fun q_ => n1_ ⟨q_.1, by have q_ := q_.2; omega⟩), r1_⟩
    · obtain ⟨h1, m1_, e1_, f1_, r1_⟩ := msdV (v1_ := Int32.ofNat s_) (v2 := Int32.ofNat c_) (v3 := Int32.ofNat i_) hs (by rw [es]; exact o2) bs bx (by rw [i32n (by omega)]; omega)
      rw [ix] at e1_ f1_
      exact ⟨h1, stop_ i_ h_ h1 (by omega) m1_ e1_ f1_ Q_, m1_, fun c2_ j_ n1_ => f1_ c2_ j_ (fun q_ => n1_ ⟨q_.1, by have q_ := q_.2; omega⟩), r1_⟩
  | succ k_ ih_ =>
    intro i_ h_ hi_ hs o2 P_ Q_ hin
    have hl : (L_.take i_).length = i_ := by rw [List.length_take]; omega
    by_cases g_ : i_ < n_.toInt.toNat
    · have gi : L_[i_]? = some L_[i_] := List.getElem?_eq_getElem (by omega)
      obtain ⟨iy, by_⟩ := i24j (k_ := s_) (i_ := i_) hs4 (by omega)
      have oy := P_ i_ _ gi
      have es2 : spx (min n_.toInt.toNat 12 - i_) (L_.drop i_) = if puS_F L_[i_] = 0 then [] else L_[i_] :: spx (min n_.toInt.toNat 12 - (i_ + 1)) (L_.drop (i_ + 1)) := by
        rw [show min n_.toInt.toNat 12 - i_ = min n_.toInt.toNat 12 - (i_ + 1) + 1 by omega, List.drop_eq_getElem_cons (by omega), spx_s]
      by_cases g2 : puS_F L_[i_] = 0
      · obtain ⟨h1, m1_, e1_, f1_, r1_⟩ := msdU (v1_ := Int32.ofNat s_) (v2 := Int32.ofNat c_) (v3 := Int32.ofNat i_) hs (by rw [es]; exact o2) (by rw [iy]; exact oy) bs by_ bx (fun h_ D_ hD => pmS _ h_ D_ hD) g2 (by rw [i32n (by omega)]; omega) (by rw [i32n (by omega)]; omega)
        rw [ix] at e1_ f1_
        rw [es2, if_pos g2, List.append_nil, hl]
        exact ⟨h1, stop_ i_ h_ h1 (by omega) m1_ e1_ f1_ Q_, m1_, fun c2_ j_ n1_ => f1_ c2_ j_ (fun q_ => n1_ ⟨q_.1, by have q_ := q_.2; omega⟩), r1_⟩
      · obtain ⟨iz, bz⟩ := i351 (c_ := c_) (i_ := i_) hc_ (by omega)
        obtain ⟨h1, m1_, e1_, f1_, ld⟩ := msdT (v1_ := Int32.ofNat s_) (v2 := Int32.ofNat c_) (v3 := Int32.ofNat i_) hs (by rw [es]; exact o2) (by rw [iy]; exact oy) bs by_ bz (fun h_ D_ hD => pmS _ h_ D_ hD) g2 (by rw [i32n (by omega)]; omega) (by rw [i32n (by omega)]; omega)
        rw [iz] at e1_ f1_
        rw [i32s] at ld
        obtain ⟨h2, R2, m2_, f2_, r2⟩ := ih_ (i_ + 1) h1 (by omega) m1_.1 ((f1_ _ _ (fun q_ => by have q_ := q_.1; omega)).trans o2) (fun j_ y_ hy => (f1_ _ _ (fun q_ => by have q_ := q_.1; omega)).trans (P_ j_ y_ hy)) (fun j_ y_ hy => by
          rw [List.take_succ_eq_append_getElem (by omega)] at hy
          rcases Nat.lt_or_ge j_ i_ with g3_ | g3_
          · rw [List.getElem?_append_left (by omega)] at hy
            exact (f1_ _ _ (fun q_ => by have q_ := q_.2; omega)).trans (Q_ j_ y_ hy)
          · rw [List.getElem?_append_right (by omega)] at hy
            have lj := (List.getElem?_eq_some_iff.mp hy).1
            rw [List.length_singleton] at lj
            have ej : j_ = i_ := by omega
            subst ej
            rw [hl, Nat.sub_self] at hy
            cases hy
            exact e1_) (by omega)
        rw [es2, if_neg g2]
        have ea : L_.take (i_ + 1) ++ spx (min n_.toInt.toNat 12 - (i_ + 1)) (L_.drop (i_ + 1)) = L_.take i_ ++ L_[i_] :: spx (min n_.toInt.toNat 12 - (i_ + 1)) (L_.drop (i_ + 1)) := by
          rw [List.take_succ_eq_append_getElem (by omega), List.append_assoc]
          rfl
        rw [ea] at R2 r2
        exact ⟨h2, R2, ysm_tr m1_ m2_, fun c2_ j_ n1_ => (f2_ c2_ j_ n1_).trans (f1_ c2_ j_ (fun q_ => n1_ ⟨q_.1, by have q_ := q_.2; omega⟩)), fun D_ hD => ld D_ hD _ (r2 D_ hD)⟩
    · have e0_ : min n_.toInt.toNat 12 - i_ = 0 := by omega
      rw [e0_, show L_.take i_ ++ spx 0 (L_.drop i_) = L_.take i_ from List.append_nil _, hl]
      obtain ⟨h1, m1_, e1_, f1_, r1_⟩ := msdV (v1_ := Int32.ofNat s_) (v2 := Int32.ofNat c_) (v3 := Int32.ofNat i_) hs (by rw [es]; exact o2) bs bx (by rw [i32n (by omega)]; omega)
      rw [ix] at e1_ f1_
      exact ⟨h1, stop_ i_ h_ h1 (by omega) m1_ e1_ f1_ Q_, m1_, fun c2_ j_ n1_ => f1_ c2_ j_ (fun q_ => n1_ ⟨q_.1, by have q_ := q_.2; omega⟩), r1_⟩
theorem m_sounds {W_ : Nat → List Int32} {V : Nat → Int32} {h_ : xH} {z_ c_ : Int32} (B_ : bInv bZ bIj h_) (K_ : okS W_ V) (H_ : SM W_ V h_) : ∃ h', ysm h_ h' ∧ (SM (soundsF W_ V z_ c_).1 (soundsF W_ V z_ c_).2.1 h' ∧ ∀ D_, 60 ≤ D_ → xrun D_ 231 0 [(0, .index 338), (1, .int z_), (2, .int c_)] [] h_ (some (.int (soundsF W_ V z_ c_).2.2), h', [])) := by
  obtain ⟨y_, oy⟩ := merr (k_ := 1) B_ (by omega)
  obtain ⟨y2, oy2⟩ := merr (k_ := 2) B_ (by omega)
  have zz := z0_
  have z3 := i3_
  have kN_ := okN K_
  have n1_ := i32j (V 0) kN_.1 (by omega)
  unfold soundsF
  obtain ⟨h0, m0_, e_⟩ := msdA (v1_ := z_) (v2 := c_) H_.1 oy (mNc H_)
  rcases e_ with ⟨g1, g2, g3_, g4, f_, r_⟩ | ⟨g1, w0_, f_, r_⟩ | ⟨g1, g2, w0_, f_, r_⟩ | ⟨g1, g2, g3_, w0_, f_, r_⟩ | ⟨g1, g2, g3_, g4, w0_, f_, r_⟩
  rotate_left
  · rw [if_neg (by omega)]; exact ⟨h0, m0_, SM_e H_ m0_ f_, r_⟩
  · rw [if_neg (by omega)]; exact ⟨h0, m0_, SM_e H_ m0_ f_, r_⟩
  · rw [if_neg (by omega)]; exact ⟨h0, m0_, SM_e H_ m0_ f_, r_⟩
  · rw [if_neg (by omega)]; exact ⟨h0, m0_, SM_e H_ m0_ f_, r_⟩
  have H0 := SM_fr H_ m0_ (fun c_ j_ _ => f_ c_ j_)
  rw [if_pos ⟨⟨by omega, by omega⟩, by omega, by omega⟩]
  obtain ⟨k_, hk, rfl, ek⟩ := isS_n (z_ := z_) ⟨by omega, by omega⟩
  obtain ⟨cc, hc_, hN_, rfl, ec⟩ := isC_n (z_ := c_) K_ ⟨by omega, by omega⟩
  obtain ⟨ks1, ks2⟩ := K_.2.2 k_ hk
  obtain ⟨u1_, u2_, u3⟩ := H0.2.2.2.2 k_ hk
  rw [ek, ec]
  by_cases g_ : (V (210 + 2 * k_)).toInt = 0
  · rw [if_pos g_]
    obtain ⟨h1, m1_, w1_, f1_, r1_⟩ := msdN (v1_ := Int32.ofNat k_) (v2 := Int32.ofNat cc) H0.1 (by rw [ek]; exact u1_) (by rw [f_]; exact oy2) ⟨by omega, by omega⟩ (Int32.toInt_inj.mp (by omega))
    exact ⟨h1, ysm_tr m0_ m1_, SM_e H0 m1_ f1_, fun D_ hD => r_ D_ hD _ (r1_ D_ hD)⟩
  · rw [if_neg g_]
    obtain ⟨h1, m1_, f1_, ld1⟩ := msdB (v1_ := Int32.ofNat k_) (v2 := Int32.ofNat cc) H0.1 (by rw [ek]; exact u1_) ⟨by omega, by omega⟩ (fun q_ => by have q2_ := congrArg Int32.toInt q_; omega)
    obtain ⟨h2, R2, m2_, f2_, r2⟩ := smd_lp (s_ := k_) (c_ := cc) hk hc_ ks2 ks1.1 12 0 h1 (by omega) m1_.1 ((f1_ _ _).trans u2_) (fun j_ y3 hy => (f1_ _ _).trans (u3 j_ y3 hy)) (fun j_ y3 hy => absurd hy (by simp)) (by omega)
    rw [List.take_zero, List.nil_append, Nat.sub_zero, List.drop_zero] at R2 r2
    refine ⟨h2, ysm_tr m0_ (ysm_tr m1_ m2_), SM_r H0 (lenS_ok K_) (ysm_tr m1_ m2_) (cl_m hc_) R2 (fun c2_ j_ _ n1_ => (f2_ c2_ j_ (fun q_ => n1_ ⟨q_.1, ?_⟩)).trans (f1_ c2_ j_)), fun D_ hD => r_ D_ hD _ (ld1 D_ hD _ (r2 D_ hD))⟩
    obtain ⟨-, q2_, q3_⟩ := q_
    have e_ := smo_c (c_ := cc) (j_ := j_ - (34 + 13 * cc)) hc_ (by omega)
    rw [show 34 + 13 * cc + (j_ - (34 + 13 * cc)) = j_ by omega] at e_
    exact e_
