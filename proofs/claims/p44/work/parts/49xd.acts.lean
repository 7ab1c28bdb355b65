-- ===== untell
-- xutE: 49 steps, 1 ends, 2 returns
def xutE_L : List (Nat × Nat × Nat) := []
def xutE_O : yO := [(0, .int 13, .index 323), (323, .int 1, .arg 400)]
def xutE_A : yA := (yZ xutE_L, [], [], [], [])
def xutE_C : List xB := []
def xutE_ss : List yS := [(13, [(0, .index 0), (1, .arg 1)], [], [(0, .int 13, .index 323), (323, .int 1, .arg 400)], [(.lt, .arg 1, .int 2, true), (.lt, .arg 1, .int 0, false)], [])]
def xutE_rs : List yR := [(some (.int (Int32.ofInt (-1000001))), [(323, .int 1, .add (.arg 400) (.int 1)), (0, .int 13, .index 323)], [(.lt, .arg 1, .int 0, true)], [(323, .int 1)]),
  (some (.int (Int32.ofInt (-1000001))), [(323, .int 1, .add (.arg 400) (.int 1)), (0, .int 13, .index 323)], [(.lt, .arg 1, .int 2, false), (.lt, .arg 1, .int 0, false)], [(323, .int 1)])]
theorem xutE_w : ywa xutE_A xutE_ss xutE_rs = true := by decide +kernel
theorem xutE_k : yis (yev xutE_A 3000 60 86 [13] (0, [(0, .index 0), (1, .arg 1)], [], xutE_O, xutE_C, [])) xutE_ss xutE_rs = true := by decide +kernel
def xutE_r (v1_ v400 : Int32) (k_ : Nat) : Value := bif Nat.beq k_ 1 then .int v1_ else (bif Nat.beq k_ 400 then .int v400 else (.int 0))
def xutE_s (n_ : Nat) : Nat := 0
theorem xutE {h_ : xH} {v1_ v400 : Int32} (hs : sHp h_) (o0_ : bpat h_ 323 1 = some (.int v400)) : ∃ h', ysm h_ h' ∧ (((v1_.toInt < (2 : Int32).toInt) ∧ ((0 : Int32).toInt ≤ v1_.toInt) ∧ (∀ a_ j_ : Nat, bpat h' a_ j_ = bpat h_ a_ j_) ∧ (bldD 60 86 0 [(0, .index 0), (1, .int v1_)] [] h_ 13 [(0, .index 0), (1, .int v1_)] [] h'))
  ∨ ((v1_.toInt < (0 : Int32).toInt) ∧ (bpat h' 323 1 = some (.int (v400 + (1 : Int32)))) ∧ (∀ a_ j_ : Nat, ¬ (a_ = 323 ∧ j_ = 1) → bpat h' a_ j_ = bpat h_ a_ j_) ∧ (∀ D_, 60 ≤ D_ → xrun D_ 86 0 [(0, .index 0), (1, .int v1_)] [] h_ (some (.int (Int32.ofInt (-1000001))), h', [])))
  ∨ (((2 : Int32).toInt ≤ v1_.toInt) ∧ ((0 : Int32).toInt ≤ v1_.toInt) ∧ (bpat h' 323 1 = some (.int (v400 + (1 : Int32)))) ∧ (∀ a_ j_ : Nat, ¬ (a_ = 323 ∧ j_ = 1) → bpat h' a_ j_ = bpat h_ a_ j_) ∧ (∀ D_, 60 ≤ D_ → xrun D_ 86 0 [(0, .index 0), (1, .int v1_)] [] h_ (some (.int (Int32.ofInt (-1000001))), h', [])))) := by
  have hA : yas xutE_A (xutE_r v1_ v400) (yg xutE_s) := ⟨fun q_ hq => absurd hq List.not_mem_nil, fun q_ hq => absurd hq List.not_mem_nil, fun q_ hq => absurd hq List.not_mem_nil, fun n_ hn => yg_lo hn, fun q_ hq => absurd hq List.not_mem_nil⟩
  have Hs : ysh xutE_A.1 (yg xutE_s) h_ := ysh_of2 hs (fun q_ hq => absurd hq List.not_mem_nil)
  have Ho : ymem (xutE_r v1_ v400) (yg xutE_s) xutE_O h_ := List.forall_mem_cons.mpr ⟨bpat_some (fxr_at hs.2 (show fxk fxl 0 13 = some 323 by decide +kernel)), List.forall_mem_cons.mpr ⟨bpat_some o0_, fun q_ hq => absurd hq List.not_mem_nil⟩⟩
  have HC : ∀ q_ ∈ xutE_C, xhold (xutE_r v1_ v400) q_ := fun q_ hq => absurd hq List.not_mem_nil
  rcases yrun (yis_ok xutE_k) hA Hs Ho HC with ⟨q_, hq, h', K_, G_⟩ | ⟨q_, hq, h', K_, G_⟩
  · have e_ := List.mem_singleton.mp hq
    subst e_
    exact ⟨h', yfr_sm K_.2.2.2 hs K_.1 (ywa_s xutE_w List.mem_cons_self), Or.inl (⟨xq_ltT rfl rfl (K_.2.2.1 _ List.mem_cons_self), xq_ltF rfl rfl (K_.2.2.1 _ (List.mem_cons_of_mem _ List.mem_cons_self)), fun a_ j_ => yfr_bp K_.2.2.2 (fun q_ hq => absurd hq List.not_mem_nil), G_⟩)⟩
  · rcases List.mem_cons.mp hq with e_ | hq
    · subst e_
      exact ⟨h', yfr_sm K_.2.2.2 hs K_.1 (ywa_r xutE_w List.mem_cons_self), Or.inr (Or.inl (⟨xq_ltT rfl rfl (K_.2.2.1 _ List.mem_cons_self), bpat_of (K_.2.1 _ List.mem_cons_self), fun a_ j_ n0_ => yfr_bp K_.2.2.2 (List.forall_mem_cons.mpr ⟨fun e_ => n0_ ⟨e_.1.symm, e_.2.symm⟩, fun q_ hq => absurd hq List.not_mem_nil⟩), G_⟩))⟩
    have e_ := List.mem_singleton.mp hq
    subst e_
    exact ⟨h', yfr_sm K_.2.2.2 hs K_.1 (ywa_r xutE_w (List.mem_cons_of_mem _ List.mem_cons_self)), Or.inr (Or.inr (⟨xq_ltF rfl rfl (K_.2.2.1 _ List.mem_cons_self), xq_ltF rfl rfl (K_.2.2.1 _ (List.mem_cons_of_mem _ List.mem_cons_self)), bpat_of (K_.2.1 _ List.mem_cons_self), fun a_ j_ n0_ => yfr_bp K_.2.2.2 (List.forall_mem_cons.mpr ⟨fun e_ => n0_ ⟨e_.1.symm, e_.2.symm⟩, fun q_ hq => absurd hq List.not_mem_nil⟩), G_⟩))⟩
-- xut0: 39 steps, 0 ends, 1 returns
def xut0_L : List (Nat × Nat × Nat) := [(1000, 9, 2), (1001, 6, 2)]
def xut0_O : yO := [(0, .int 0, .index 1), (1, .int 2, .index 4), (4, .arg 1, .index 1000), (1000, .int 0, .index 1001), (1001, .int 1, .arg 311)]
def xut0_A : yA := (yZ xut0_L, [(.arg 1, 2)], [], [], [])
def xut0_C : List xB := [(.le, .arg 311, .int 0, true), (.lt, .arg 1, .int 2, true), (.lt, .arg 1, .int 0, false)]
def xut0_ss : List yS := []
def xut0_rs : List yR := [(some (.int 0), [(1001, .int 1, .int 0), (0, .int 0, .index 1), (1, .int 2, .index 4), (4, .arg 1, .index 1000), (1000, .int 0, .index 1001)], [(.le, .arg 311, .int 0, true), (.lt, .arg 1, .int 2, true), (.lt, .arg 1, .int 0, false)], [(1001, .int 1)])]
theorem xut0_w : ywa xut0_A xut0_ss xut0_rs = true := by decide +kernel
theorem xut0_k : yis (yev xut0_A 3000 60 86 [] (0, [(0, .index 0), (1, .arg 1)], [], xut0_O, xut0_C, [])) xut0_ss xut0_rs = true := by decide +kernel
def xut0_r (v1_ v311 : Int32) (k_ : Nat) : Value := bif Nat.beq k_ 1 then .int v1_ else (bif Nat.beq k_ 311 then .int v311 else (.int 0))
def xut0_s (a1000 a1001 : Nat) (n_ : Nat) : Nat := bif Nat.beq n_ 1000 then a1000 else (bif Nat.beq n_ 1001 then a1001 else (0))
theorem xut0 {h_ : xH} {a1000 a1001 : Nat} {v1_ v311 : Int32} (hs : sHp h_) (k1000 : bcq h_ a1000 9 2) (k1001 : bcq h_ a1001 6 2) (o0_ : bpat h_ 4 (v1_).toInt.toNat = some (.index a1000)) (o1 : bpat h_ a1000 0 = some (.index a1001)) (o2 : bpat h_ a1001 1 = some (.int v311)) (b0 : 0 ≤ (v1_).toInt ∧ (v1_).toInt < 2) (c0_ : v311.toInt ≤ (0 : Int32).toInt) (c1_ : v1_.toInt < (2 : Int32).toInt) (c2_ : (0 : Int32).toInt ≤ v1_.toInt) : ∃ h', ysm h_ h' ∧ (((bpat h' a1001 1 = some (.int (0 : Int32))) ∧ (∀ a_ j_ : Nat, ¬ (a_ = a1001 ∧ j_ = 1) → bpat h' a_ j_ = bpat h_ a_ j_) ∧ (∀ D_, 60 ≤ D_ → xrun D_ 86 0 [(0, .index 0), (1, .int v1_)] [] h_ (some (.int (0 : Int32)), h', [])))) := by
  have hA : yas xut0_A (xut0_r v1_ v311) (yg (xut0_s a1000 a1001)) := ⟨List.forall_mem_cons.mpr ⟨b0, fun q_ hq => absurd hq List.not_mem_nil⟩, fun q_ hq => absurd hq List.not_mem_nil, fun q_ hq => absurd hq List.not_mem_nil, fun n_ hn => yg_lo hn, fun q_ hq => absurd hq List.not_mem_nil⟩
  have Hs : ysh xut0_A.1 (yg (xut0_s a1000 a1001)) h_ := ysh_of2 hs (List.forall_mem_cons.mpr ⟨⟨by decide, k1000⟩, List.forall_mem_cons.mpr ⟨⟨by decide, k1001⟩, fun q_ hq => absurd hq List.not_mem_nil⟩⟩)
  have Ho : ymem (xut0_r v1_ v311) (yg (xut0_s a1000 a1001)) xut0_O h_ := List.forall_mem_cons.mpr ⟨bpat_some (fxr_at hs.2 (show fxk fxl 0 0 = some 1 by decide +kernel)), List.forall_mem_cons.mpr ⟨bpat_some (fxr_at hs.2 (show fxk fxl 1 2 = some 4 by decide +kernel)), List.forall_mem_cons.mpr ⟨bpat_some o0_, List.forall_mem_cons.mpr ⟨bpat_some o1, List.forall_mem_cons.mpr ⟨bpat_some o2, fun q_ hq => absurd hq List.not_mem_nil⟩⟩⟩⟩⟩
  have HC : ∀ q_ ∈ xut0_C, xhold (xut0_r v1_ v311) q_ := List.forall_mem_cons.mpr ⟨xh_leT c0_, List.forall_mem_cons.mpr ⟨xh_ltT c1_, List.forall_mem_cons.mpr ⟨xh_ltF c2_, fun q_ hq => absurd hq List.not_mem_nil⟩⟩⟩
  rcases yrun (yis_ok xut0_k) hA Hs Ho HC with ⟨q_, hq, h', K_, G_⟩ | ⟨q_, hq, h', K_, G_⟩
  · cases hq
  · have e_ := List.mem_singleton.mp hq
    subst e_
    exact ⟨h', yfr_sm K_.2.2.2 hs K_.1 (ywa_r xut0_w List.mem_cons_self), ⟨bpat_of (K_.2.1 _ List.mem_cons_self), fun a_ j_ n0_ => yfr_bp K_.2.2.2 (List.forall_mem_cons.mpr ⟨fun e_ => n0_ ⟨e_.1.symm, e_.2.symm⟩, fun q_ hq => absurd hq List.not_mem_nil⟩), G_⟩⟩
-- xut1: 41 steps, 0 ends, 1 returns
def xut1_L : List (Nat × Nat × Nat) := [(1000, 9, 2), (1001, 6, 2)]
def xut1_O : yO := [(0, .int 0, .index 1), (1, .int 2, .index 4), (4, .arg 1, .index 1000), (1000, .int 0, .index 1001), (1001, .int 1, .arg 311)]
def xut1_A : yA := (yZ xut1_L, [(.arg 1, 2)], [], [], [])
def xut1_C : List xB := [(.le, .arg 311, .int 0, false), (.lt, .arg 1, .int 2, true), (.lt, .arg 1, .int 0, false)]
def xut1_ss : List yS := []
def xut1_rs : List yR := [(some (.int 1), [(1001, .int 1, .int 0), (0, .int 0, .index 1), (1, .int 2, .index 4), (4, .arg 1, .index 1000), (1000, .int 0, .index 1001)], [(.le, .arg 311, .int 0, false), (.lt, .arg 1, .int 2, true), (.lt, .arg 1, .int 0, false)], [(1001, .int 1)])]
theorem xut1_w : ywa xut1_A xut1_ss xut1_rs = true := by decide +kernel
theorem xut1_k : yis (yev xut1_A 3000 60 86 [] (0, [(0, .index 0), (1, .arg 1)], [], xut1_O, xut1_C, [])) xut1_ss xut1_rs = true := by decide +kernel
def xut1_r (v1_ v311 : Int32) (k_ : Nat) : Value := bif Nat.beq k_ 1 then .int v1_ else (bif Nat.beq k_ 311 then .int v311 else (.int 0))
def xut1_s (a1000 a1001 : Nat) (n_ : Nat) : Nat := bif Nat.beq n_ 1000 then a1000 else (bif Nat.beq n_ 1001 then a1001 else (0))
theorem xut1 {h_ : xH} {a1000 a1001 : Nat} {v1_ v311 : Int32} (hs : sHp h_) (k1000 : bcq h_ a1000 9 2) (k1001 : bcq h_ a1001 6 2) (o0_ : bpat h_ 4 (v1_).toInt.toNat = some (.index a1000)) (o1 : bpat h_ a1000 0 = some (.index a1001)) (o2 : bpat h_ a1001 1 = some (.int v311)) (b0 : 0 ≤ (v1_).toInt ∧ (v1_).toInt < 2) (c0_ : (0 : Int32).toInt < v311.toInt) (c1_ : v1_.toInt < (2 : Int32).toInt) (c2_ : (0 : Int32).toInt ≤ v1_.toInt) : ∃ h', ysm h_ h' ∧ (((bpat h' a1001 1 = some (.int (0 : Int32))) ∧ (∀ a_ j_ : Nat, ¬ (a_ = a1001 ∧ j_ = 1) → bpat h' a_ j_ = bpat h_ a_ j_) ∧ (∀ D_, 60 ≤ D_ → xrun D_ 86 0 [(0, .index 0), (1, .int v1_)] [] h_ (some (.int (1 : Int32)), h', [])))) := by
  have hA : yas xut1_A (xut1_r v1_ v311) (yg (xut1_s a1000 a1001)) := ⟨List.forall_mem_cons.mpr ⟨b0, fun q_ hq => absurd hq List.not_mem_nil⟩, fun q_ hq => absurd hq List.not_mem_nil, fun q_ hq => absurd hq List.not_mem_nil, fun n_ hn => yg_lo hn, fun q_ hq => absurd hq List.not_mem_nil⟩
  have Hs : ysh xut1_A.1 (yg (xut1_s a1000 a1001)) h_ := ysh_of2 hs (List.forall_mem_cons.mpr ⟨⟨by decide, k1000⟩, List.forall_mem_cons.mpr ⟨⟨by decide, k1001⟩, fun q_ hq => absurd hq List.not_mem_nil⟩⟩)
  have Ho : ymem (xut1_r v1_ v311) (yg (xut1_s a1000 a1001)) xut1_O h_ := List.forall_mem_cons.mpr ⟨bpat_some (fxr_at hs.2 (show fxk fxl 0 0 = some 1 by decide +kernel)), List.forall_mem_cons.mpr ⟨bpat_some (fxr_at hs.2 (show fxk fxl 1 2 = some 4 by decide +kernel)), List.forall_mem_cons.mpr ⟨bpat_some o0_, List.forall_mem_cons.mpr ⟨bpat_some o1, List.forall_mem_cons.mpr ⟨bpat_some o2, fun q_ hq => absurd hq List.not_mem_nil⟩⟩⟩⟩⟩
  have HC : ∀ q_ ∈ xut1_C, xhold (xut1_r v1_ v311) q_ := List.forall_mem_cons.mpr ⟨xh_leF c0_, List.forall_mem_cons.mpr ⟨xh_ltT c1_, List.forall_mem_cons.mpr ⟨xh_ltF c2_, fun q_ hq => absurd hq List.not_mem_nil⟩⟩⟩
  rcases yrun (yis_ok xut1_k) hA Hs Ho HC with ⟨q_, hq, h', K_, G_⟩ | ⟨q_, hq, h', K_, G_⟩
  · cases hq
  · have e_ := List.mem_singleton.mp hq
    subst e_
    exact ⟨h', yfr_sm K_.2.2.2 hs K_.1 (ywa_r xut1_w List.mem_cons_self), ⟨bpat_of (K_.2.1 _ List.mem_cons_self), fun a_ j_ n0_ => yfr_bp K_.2.2.2 (List.forall_mem_cons.mpr ⟨fun e_ => n0_ ⟨e_.1.symm, e_.2.symm⟩, fun q_ hq => absurd hq List.not_mem_nil⟩), G_⟩⟩
-- mutE: 52 steps, 1 ends, 2 returns
def mutE_L : List (Nat × Nat × Nat) := []
def mutE_O : yO := [(338, .int 3, .index 341), (341, .int 1, .arg 400)]
def mutE_A : yA := (yZ mutE_L, [], [], [], [])
def mutE_C : List xB := []
def mutE_ss : List yS := [(15, [(0, .index 338), (1, .arg 1)], [], [(338, .int 3, .index 341), (341, .int 1, .arg 400)], [(.le, .arg 1, .int 1, true), (.lt, .arg 1, .int 0, false)], [])]
def mutE_rs : List yR := [(some (.int (Int32.ofInt (-1000001))), [(341, .int 1, .add (.arg 400) (.int 1)), (338, .int 3, .index 341)], [(.lt, .arg 1, .int 0, true)], [(341, .int 1)]),
  (some (.int (Int32.ofInt (-1000001))), [(341, .int 1, .add (.arg 400) (.int 1)), (338, .int 3, .index 341)], [(.le, .arg 1, .int 1, false), (.lt, .arg 1, .int 0, false)], [(341, .int 1)])]
theorem mutE_w : ywa mutE_A mutE_ss mutE_rs = true := by decide +kernel
theorem mutE_k : yis (yev mutE_A 3000 60 185 [15] (0, [(0, .index 338), (1, .arg 1)], [], mutE_O, mutE_C, [])) mutE_ss mutE_rs = true := by decide +kernel
def mutE_r (v1_ v400 : Int32) (k_ : Nat) : Value := bif Nat.beq k_ 1 then .int v1_ else (bif Nat.beq k_ 400 then .int v400 else (.int 0))
def mutE_s (n_ : Nat) : Nat := 0
theorem mutE {h_ : xH} {v1_ v400 : Int32} (hs : sHp h_) (o0_ : bpat h_ 341 1 = some (.int v400)) : ∃ h', ysm h_ h' ∧ (((v1_.toInt ≤ (1 : Int32).toInt) ∧ ((0 : Int32).toInt ≤ v1_.toInt) ∧ (∀ a_ j_ : Nat, bpat h' a_ j_ = bpat h_ a_ j_) ∧ (bldD 60 185 0 [(0, .index 338), (1, .int v1_)] [] h_ 15 [(0, .index 338), (1, .int v1_)] [] h'))
  ∨ ((v1_.toInt < (0 : Int32).toInt) ∧ (bpat h' 341 1 = some (.int (v400 + (1 : Int32)))) ∧ (∀ a_ j_ : Nat, ¬ (a_ = 341 ∧ j_ = 1) → bpat h' a_ j_ = bpat h_ a_ j_) ∧ (∀ D_, 60 ≤ D_ → xrun D_ 185 0 [(0, .index 338), (1, .int v1_)] [] h_ (some (.int (Int32.ofInt (-1000001))), h', [])))
  ∨ (((1 : Int32).toInt < v1_.toInt) ∧ ((0 : Int32).toInt ≤ v1_.toInt) ∧ (bpat h' 341 1 = some (.int (v400 + (1 : Int32)))) ∧ (∀ a_ j_ : Nat, ¬ (a_ = 341 ∧ j_ = 1) → bpat h' a_ j_ = bpat h_ a_ j_) ∧ (∀ D_, 60 ≤ D_ → xrun D_ 185 0 [(0, .index 338), (1, .int v1_)] [] h_ (some (.int (Int32.ofInt (-1000001))), h', [])))) := by
  have hA : yas mutE_A (mutE_r v1_ v400) (yg mutE_s) := ⟨fun q_ hq => absurd hq List.not_mem_nil, fun q_ hq => absurd hq List.not_mem_nil, fun q_ hq => absurd hq List.not_mem_nil, fun n_ hn => yg_lo hn, fun q_ hq => absurd hq List.not_mem_nil⟩
  have Hs : ysh mutE_A.1 (yg mutE_s) h_ := ysh_of2 hs (fun q_ hq => absurd hq List.not_mem_nil)
  have Ho : ymem (mutE_r v1_ v400) (yg mutE_s) mutE_O h_ := List.forall_mem_cons.mpr ⟨bpat_some (fxr_at hs.2 (show fxk fxl 338 3 = some 341 by decide +kernel)), List.forall_mem_cons.mpr ⟨bpat_some o0_, fun q_ hq => absurd hq List.not_mem_nil⟩⟩
  have HC : ∀ q_ ∈ mutE_C, xhold (mutE_r v1_ v400) q_ := fun q_ hq => absurd hq List.not_mem_nil
  rcases yrun (yis_ok mutE_k) hA Hs Ho HC with ⟨q_, hq, h', K_, G_⟩ | ⟨q_, hq, h', K_, G_⟩
  · have e_ := List.mem_singleton.mp hq
    subst e_
    exact ⟨h', yfr_sm K_.2.2.2 hs K_.1 (ywa_s mutE_w List.mem_cons_self), Or.inl (⟨xq_leT rfl rfl (K_.2.2.1 _ List.mem_cons_self), xq_ltF rfl rfl (K_.2.2.1 _ (List.mem_cons_of_mem _ List.mem_cons_self)), fun a_ j_ => yfr_bp K_.2.2.2 (fun q_ hq => absurd hq List.not_mem_nil), G_⟩)⟩
  · rcases List.mem_cons.mp hq with e_ | hq
    · subst e_
      exact ⟨h', yfr_sm K_.2.2.2 hs K_.1 (ywa_r mutE_w List.mem_cons_self), Or.inr (Or.inl (⟨xq_ltT rfl rfl (K_.2.2.1 _ List.mem_cons_self), bpat_of (K_.2.1 _ List.mem_cons_self), fun a_ j_ n0_ => yfr_bp K_.2.2.2 (List.forall_mem_cons.mpr ⟨fun e_ => n0_ ⟨e_.1.symm, e_.2.symm⟩, fun q_ hq => absurd hq List.not_mem_nil⟩), G_⟩))⟩
    have e_ := List.mem_singleton.mp hq
    subst e_
    exact ⟨h', yfr_sm K_.2.2.2 hs K_.1 (ywa_r mutE_w (List.mem_cons_of_mem _ List.mem_cons_self)), Or.inr (Or.inr (⟨xq_leF rfl rfl (K_.2.2.1 _ List.mem_cons_self), xq_ltF rfl rfl (K_.2.2.1 _ (List.mem_cons_of_mem _ List.mem_cons_self)), bpat_of (K_.2.1 _ List.mem_cons_self), fun a_ j_ n0_ => yfr_bp K_.2.2.2 (List.forall_mem_cons.mpr ⟨fun e_ => n0_ ⟨e_.1.symm, e_.2.symm⟩, fun q_ hq => absurd hq List.not_mem_nil⟩), G_⟩))⟩
-- mut0: 42 steps, 0 ends, 1 returns
def mut0_L : List (Nat × Nat × Nat) := []
def mut0_O : yO := [(338, .int 0, .index 339), (339, .add (.int 434) (.mul (.int 125) (.arg 1)), .arg 311)]
def mut0_A : yA := (yZ mut0_L, [(.add (.int 434) (.mul (.int 125) (.arg 1)), 768)], [], [], [])
def mut0_C : List xB := [(.le, .arg 311, .int 0, true), (.le, .arg 1, .int 1, true), (.lt, .arg 1, .int 0, false)]
def mut0_ss : List yS := []
def mut0_rs : List yR := [(some (.int 0), [(339, .add (.int 434) (.mul (.int 125) (.arg 1)), .int 0), (338, .int 0, .index 339)], [(.le, .arg 311, .int 0, true), (.le, .arg 1, .int 1, true), (.lt, .arg 1, .int 0, false)], [(339, .add (.int 434) (.mul (.int 125) (.arg 1)))])]
theorem mut0_w : ywa mut0_A mut0_ss mut0_rs = true := by decide +kernel
theorem mut0_k : yis (yev mut0_A 3000 60 185 [] (0, [(0, .index 338), (1, .arg 1)], [], mut0_O, mut0_C, [])) mut0_ss mut0_rs = true := by decide +kernel
def mut0_r (v1_ v311 : Int32) (k_ : Nat) : Value := bif Nat.beq k_ 1 then .int v1_ else (bif Nat.beq k_ 311 then .int v311 else (.int 0))
def mut0_s (n_ : Nat) : Nat := 0
theorem mut0 {h_ : xH} {v1_ v311 : Int32} (hs : sHp h_) (o0_ : bpat h_ 339 (((434 : Int32) + ((125 : Int32) * v1_))).toInt.toNat = some (.int v311)) (b0 : 0 ≤ (((434 : Int32) + ((125 : Int32) * v1_))).toInt ∧ (((434 : Int32) + ((125 : Int32) * v1_))).toInt < 768) (c0_ : v311.toInt ≤ (0 : Int32).toInt) (c1_ : v1_.toInt ≤ (1 : Int32).toInt) (c2_ : (0 : Int32).toInt ≤ v1_.toInt) : ∃ h', ysm h_ h' ∧ (((bpat h' 339 (((434 : Int32) + ((125 : Int32) * v1_))).toInt.toNat = some (.int (0 : Int32))) ∧ (∀ a_ j_ : Nat, ¬ (a_ = 339 ∧ j_ = (((434 : Int32) + ((125 : Int32) * v1_))).toInt.toNat) → bpat h' a_ j_ = bpat h_ a_ j_) ∧ (∀ D_, 60 ≤ D_ → xrun D_ 185 0 [(0, .index 338), (1, .int v1_)] [] h_ (some (.int (0 : Int32)), h', [])))) := by
  have hA : yas mut0_A (mut0_r v1_ v311) (yg mut0_s) := ⟨List.forall_mem_cons.mpr ⟨b0, fun q_ hq => absurd hq List.not_mem_nil⟩, fun q_ hq => absurd hq List.not_mem_nil, fun q_ hq => absurd hq List.not_mem_nil, fun n_ hn => yg_lo hn, fun q_ hq => absurd hq List.not_mem_nil⟩
  have Hs : ysh mut0_A.1 (yg mut0_s) h_ := ysh_of2 hs (fun q_ hq => absurd hq List.not_mem_nil)
  have Ho : ymem (mut0_r v1_ v311) (yg mut0_s) mut0_O h_ := List.forall_mem_cons.mpr ⟨bpat_some (fxr_at hs.2 (show fxk fxl 338 0 = some 339 by decide +kernel)), List.forall_mem_cons.mpr ⟨bpat_some o0_, fun q_ hq => absurd hq List.not_mem_nil⟩⟩
  have HC : ∀ q_ ∈ mut0_C, xhold (mut0_r v1_ v311) q_ := List.forall_mem_cons.mpr ⟨xh_leT c0_, List.forall_mem_cons.mpr ⟨xh_leT c1_, List.forall_mem_cons.mpr ⟨xh_ltF c2_, fun q_ hq => absurd hq List.not_mem_nil⟩⟩⟩
  rcases yrun (yis_ok mut0_k) hA Hs Ho HC with ⟨q_, hq, h', K_, G_⟩ | ⟨q_, hq, h', K_, G_⟩
  · cases hq
  · have e_ := List.mem_singleton.mp hq
    subst e_
    exact ⟨h', yfr_sm K_.2.2.2 hs K_.1 (ywa_r mut0_w List.mem_cons_self), ⟨bpat_of (K_.2.1 _ List.mem_cons_self), fun a_ j_ n0_ => yfr_bp K_.2.2.2 (List.forall_mem_cons.mpr ⟨fun e_ => n0_ ⟨e_.1.symm, e_.2.symm⟩, fun q_ hq => absurd hq List.not_mem_nil⟩), G_⟩⟩
-- mut1: 44 steps, 0 ends, 1 returns
def mut1_L : List (Nat × Nat × Nat) := []
def mut1_O : yO := [(338, .int 0, .index 339), (339, .add (.int 434) (.mul (.int 125) (.arg 1)), .arg 311)]
def mut1_A : yA := (yZ mut1_L, [(.add (.int 434) (.mul (.int 125) (.arg 1)), 768)], [], [], [])
def mut1_C : List xB := [(.le, .arg 311, .int 0, false), (.le, .arg 1, .int 1, true), (.lt, .arg 1, .int 0, false)]
def mut1_ss : List yS := []
def mut1_rs : List yR := [(some (.int 1), [(339, .add (.int 434) (.mul (.int 125) (.arg 1)), .int 0), (338, .int 0, .index 339)], [(.le, .arg 311, .int 0, false), (.le, .arg 1, .int 1, true), (.lt, .arg 1, .int 0, false)], [(339, .add (.int 434) (.mul (.int 125) (.arg 1)))])]
theorem mut1_w : ywa mut1_A mut1_ss mut1_rs = true := by decide +kernel
theorem mut1_k : yis (yev mut1_A 3000 60 185 [] (0, [(0, .index 338), (1, .arg 1)], [], mut1_O, mut1_C, [])) mut1_ss mut1_rs = true := by decide +kernel
def mut1_r (v1_ v311 : Int32) (k_ : Nat) : Value := bif Nat.beq k_ 1 then .int v1_ else (bif Nat.beq k_ 311 then .int v311 else (.int 0))
def mut1_s (n_ : Nat) : Nat := 0
theorem mut1 {h_ : xH} {v1_ v311 : Int32} (hs : sHp h_) (o0_ : bpat h_ 339 (((434 : Int32) + ((125 : Int32) * v1_))).toInt.toNat = some (.int v311)) (b0 : 0 ≤ (((434 : Int32) + ((125 : Int32) * v1_))).toInt ∧ (((434 : Int32) + ((125 : Int32) * v1_))).toInt < 768) (c0_ : (0 : Int32).toInt < v311.toInt) (c1_ : v1_.toInt ≤ (1 : Int32).toInt) (c2_ : (0 : Int32).toInt ≤ v1_.toInt) : ∃ h', ysm h_ h' ∧ (((bpat h' 339 (((434 : Int32) + ((125 : Int32) * v1_))).toInt.toNat = some (.int (0 : Int32))) ∧ (∀ a_ j_ : Nat, ¬ (a_ = 339 ∧ j_ = (((434 : Int32) + ((125 : Int32) * v1_))).toInt.toNat) → bpat h' a_ j_ = bpat h_ a_ j_) ∧ (∀ D_, 60 ≤ D_ → xrun D_ 185 0 [(0, .index 338), (1, .int v1_)] [] h_ (some (.int (1 : Int32)), h', [])))) := by
  have hA : yas mut1_A (mut1_r v1_ v311) (yg mut1_s) := ⟨List.forall_mem_cons.mpr ⟨b0, fun q_ hq => absurd hq List.not_mem_nil⟩, fun q_ hq => absurd hq List.not_mem_nil, fun q_ hq => absurd hq List.not_mem_nil, fun n_ hn => yg_lo hn, fun q_ hq => absurd hq List.not_mem_nil⟩
  have Hs : ysh mut1_A.1 (yg mut1_s) h_ := ysh_of2 hs (fun q_ hq => absurd hq List.not_mem_nil)
  have Ho : ymem (mut1_r v1_ v311) (yg mut1_s) mut1_O h_ := List.forall_mem_cons.mpr ⟨bpat_some (fxr_at hs.2 (show fxk fxl 338 0 = some 339 by decide +kernel)), List.forall_mem_cons.mpr ⟨bpat_some o0_, fun q_ hq => absurd hq List.not_mem_nil⟩⟩
  have HC : ∀ q_ ∈ mut1_C, xhold (mut1_r v1_ v311) q_ := List.forall_mem_cons.mpr ⟨xh_leF c0_, List.forall_mem_cons.mpr ⟨xh_leT c1_, List.forall_mem_cons.mpr ⟨xh_ltF c2_, fun q_ hq => absurd hq List.not_mem_nil⟩⟩⟩
  rcases yrun (yis_ok mut1_k) hA Hs Ho HC with ⟨q_, hq, h', K_, G_⟩ | ⟨q_, hq, h', K_, G_⟩
  · cases hq
  · have e_ := List.mem_singleton.mp hq
    subst e_
    exact ⟨h', yfr_sm K_.2.2.2 hs K_.1 (ywa_r mut1_w List.mem_cons_self), ⟨bpat_of (K_.2.1 _ List.mem_cons_self), fun a_ j_ n0_ => yfr_bp K_.2.2.2 (List.forall_mem_cons.mpr ⟨fun e_ => n0_ ⟨e_.1.symm, e_.2.symm⟩, fun q_ hq => absurd hq List.not_mem_nil⟩), G_⟩⟩
def untellF (W_ : Nat → List Int32) (V : Nat → Int32) (z_ : Int32) : (Nat → List Int32) × (Nat → Int32) × Int32 := if 0 ≤ z_.toInt ∧ z_.toInt < 2 then (upR W_ (23 + z_.toInt.toNat) [], V, if (W_ (23 + z_.toInt.toNat)).length = 0 then 0 else 1) else (W_, V, Int32.ofInt (-1000001))
theorem i2_ : (2 : Int32).toInt = 2 := rfl
theorem i1_ : (1 : Int32).toInt = 1 := rfl
theorem isU_n {z_ : Int32} (g_ : 0 ≤ z_.toInt ∧ z_.toInt < 2) : ∃ u_ : Nat, u_ < 2 ∧ (z_ = Int32.ofNat u_ ∧ (Int32.ofNat u_).toInt.toNat = u_) := by
  refine ⟨z_.toInt.toNat, by omega, ?_, i32t (by omega)⟩
  refine Int32.toInt_inj.mp ?_
  rw [i32n (by omega)]
  omega
theorem tx_k : (List.range 2).all (fun u_ => ((decide (fxk fxl 4 u_ = some (66 + 4 * u_)) && decide (fxk fxl (66 + 4 * u_) 0 = some (67 + 4 * u_))) && wrX.any (fun p_ => decide (p_ = (67 + 4 * u_, 68 + 4 * u_, 60, 23 + u_)))) && (match bzf (66 + 4 * u_) with
  | some z_ => Nat.beq z_.1 9 && Nat.beq z_.2 2
  | none => false)) = true := by decide +kernel
theorem tx_s {h_ : xH} {u_ : Nat} (hs : sHp h_) (hu : u_ < 2) : (bpat h_ 4 u_ = some (.index (66 + 4 * u_)) ∧ bpat h_ (66 + 4 * u_) 0 = some (.index (67 + 4 * u_))) ∧ ((67 + 4 * u_, 68 + 4 * u_, 60, 23 + u_) ∈ wrX ∧ bcq h_ (66 + 4 * u_) 9 2) := by
  have k_ := List.all_eq_true.mp tx_k u_ (List.mem_range.mpr hu)
  simp only [Bool.and_eq_true] at k_
  obtain ⟨⟨⟨k1_, k2_⟩, k3_⟩, k4_⟩ := k_
  obtain ⟨p_, hp, e_⟩ := List.any_eq_true.mp k3_
  refine ⟨⟨fxr_at hs.2 (of_decide_eq_true k1_), fxr_at hs.2 (of_decide_eq_true k2_)⟩, ?_, ?_⟩
  · rw [← of_decide_eq_true e_]
    exact hp
  · cases hz : bzf (66 + 4 * u_) with
    | none => rw [hz] at k4_; exact absurd k4_ Bool.false_ne_true
    | some z_ =>
      rw [hz] at k4_
      have q_ : (Nat.beq z_.1 9 && Nat.beq z_.2 2) = true := k4_
      rw [Bool.and_eq_true] at q_
      have e_ := hs.1 _ _ hz
      rw [Nat.eq_of_beq_eq_true q_.1, Nat.eq_of_beq_eq_true q_.2] at e_
      exact e_
theorem i434b {u_ : Nat} (hu : u_ < 2) : ((434 : Int32) + 125 * Int32.ofNat u_).toInt.toNat = 434 + 125 * u_ ∧ (0 ≤ ((434 : Int32) + 125 * Int32.ofNat u_).toInt ∧ ((434 : Int32) + 125 * Int32.ofNat u_).toInt < 768) := by
  rw [i434 hu, i32n (by omega)]
  omega
theorem SM_x {W_ : Nat → List Int32} {V : Nat → Int32} {h_ : xH} (H_ : SM W_ V h_) {u_ : Nat} (hu : u_ < 2) : txq h_ 339 (434 + 125 * u_) u_ (W_ (23 + u_)) := by
  have u2_ : u_ = 0 ∨ u_ = 1 := by omega
  rcases u2_ with rfl | rfl
  · exact H_.2.1.1.2.2.1
  · exact H_.2.1.1.2.2.2
theorem x_untell {W_ : Nat → List Int32} {V : Nat → Int32} {h_ : xH} {z_ : Int32} (B_ : bInv bZ bIj h_) (K_ : okS W_ V) (H_ : SX W_ V h_) : ∃ h', ysm h_ h' ∧ (SX (untellF W_ V z_).1 (untellF W_ V z_).2.1 h' ∧ ∀ D_, 60 ≤ D_ → xrun D_ 86 0 [(0, .index 0), (1, .int z_)] [] h_ (some (.int (untellF W_ V z_).2.2), h', [])) := by
  obtain ⟨y_, oy⟩ := xerr (k_ := 1) B_ (by omega)
  have zz := z0_
  have z2 := i2_
  unfold untellF
  by_cases g_ : 0 ≤ z_.toInt ∧ z_.toInt < 2
  · rw [if_pos g_]
    obtain ⟨u_, hu, rfl, eu⟩ := isU_n g_
    obtain ⟨⟨s1_, s2_⟩, s3_, s4_⟩ := tx_s H_.1 hu
    have R_ := SX_w H_ s3_
    have hl : (W_ (23 + u_)).length ≤ 60 := R_.2.2.1
    have il := i32n (i_ := (W_ (23 + u_)).length) (by omega)
    rw [eu]
    by_cases g2 : (W_ (23 + u_)).length = 0
    · rw [if_pos g2]
      obtain ⟨h1, m_, e1_, f_, r_⟩ := xut0 (v1_ := Int32.ofNat u_) H_.1 s4_ R_.1.1 (by rw [eu]; exact s1_) s2_ R_.2.1.2 ⟨by omega, by omega⟩ (by omega) (by omega) (by omega)
      exact ⟨h1, m_, SX_r H_ m_ s3_ (rwx_nil R_ m_ e1_ (fun j_ n_ => f_ _ j_ (fun q_ => n_ q_.2))) (fun c2_ j_ _ n1_ _ => f_ c2_ j_ (fun q_ => n1_ q_.1)), r_⟩
    · rw [if_neg g2]
      obtain ⟨h1, m_, e1_, f_, r_⟩ := xut1 (v1_ := Int32.ofNat u_) H_.1 s4_ R_.1.1 (by rw [eu]; exact s1_) s2_ R_.2.1.2 ⟨by omega, by omega⟩ (by omega) (by omega) (by omega)
      exact ⟨h1, m_, SX_r H_ m_ s3_ (rwx_nil R_ m_ e1_ (fun j_ n_ => f_ _ j_ (fun q_ => n_ q_.2))) (fun c2_ j_ _ n1_ _ => f_ c2_ j_ (fun q_ => n1_ q_.1)), r_⟩
  · rw [if_neg g_]
    obtain ⟨h1, m_, e_⟩ := xutE (v1_ := z_) H_.1 oy
    rcases e_ with ⟨g1, g2, f_, r_⟩ | ⟨g1, w0_, f_, r_⟩ | ⟨g1, g2, w0_, f_, r_⟩
    · exact absurd (by omega) g_
    · exact ⟨h1, m_, SX_e H_ m_ f_, r_⟩
    · exact ⟨h1, m_, SX_e H_ m_ f_, r_⟩
theorem m_untell {W_ : Nat → List Int32} {V : Nat → Int32} {h_ : xH} {z_ : Int32} (B_ : bInv bZ bIj h_) (K_ : okS W_ V) (H_ : SM W_ V h_) : ∃ h', ysm h_ h' ∧ (SM (untellF W_ V z_).1 (untellF W_ V z_).2.1 h' ∧ ∀ D_, 60 ≤ D_ → xrun D_ 185 0 [(0, .index 338), (1, .int z_)] [] h_ (some (.int (untellF W_ V z_).2.2), h', [])) := by
  obtain ⟨y_, oy⟩ := merr (k_ := 1) B_ (by omega)
  have zz := z0_
  have z1 := i1_
  unfold untellF
  by_cases g_ : 0 ≤ z_.toInt ∧ z_.toInt < 2
  · rw [if_pos g_]
    obtain ⟨u_, hu, rfl, eu⟩ := isU_n g_
    obtain ⟨ix, b1⟩ := i434b hu
    have R_ := SM_x H_ hu
    have hl : (W_ (23 + u_)).length ≤ 60 := (lenS_ok K_).2 u_ hu
    have il := i32n (i_ := (W_ (23 + u_)).length) (by omega)
    have so : smo (434 + 125 * u_) = 1023 + u_ := by
      have u2_ : u_ = 0 ∨ u_ = 1 := by omega
      rcases u2_ with rfl | rfl
      · rfl
      · rfl
    rw [eu]
    by_cases g2 : (W_ (23 + u_)).length = 0
    · rw [if_pos g2]
      obtain ⟨h1, m_, e1_, f_, r_⟩ := mut0 (v1_ := Int32.ofNat u_) H_.1 (by rw [ix]; exact R_.1) b1 (by omega) (by omega) (by omega)
      rw [ix] at e1_ f_
      exact ⟨h1, m_, SM_t H_ (lenS_ok K_) m_ hu ⟨e1_, fun j_ y2 hy => absurd hy (by simp)⟩ (fun c2_ j_ _ n2_ => f_ c2_ j_ (fun q_ => n2_ ⟨q_.1, by rw [q_.2]; exact so⟩)), r_⟩
    · rw [if_neg g2]
      obtain ⟨h1, m_, e1_, f_, r_⟩ := mut1 (v1_ := Int32.ofNat u_) H_.1 (by rw [ix]; exact R_.1) b1 (by omega) (by omega) (by omega)
      rw [ix] at e1_ f_
      exact ⟨h1, m_, SM_t H_ (lenS_ok K_) m_ hu ⟨e1_, fun j_ y2 hy => absurd hy (by simp)⟩ (fun c2_ j_ _ n2_ => f_ c2_ j_ (fun q_ => n2_ ⟨q_.1, by rw [q_.2]; exact so⟩)), r_⟩
  · rw [if_neg g_]
    obtain ⟨h1, m_, e_⟩ := mutE (v1_ := z_) H_.1 oy
    rcases e_ with ⟨g1, g2, f_, r_⟩ | ⟨g1, w0_, f_, r_⟩ | ⟨g1, g2, w0_, f_, r_⟩
    · exact absurd (by omega) g_
    · exact ⟨h1, m_, SM_e H_ m_ f_, r_⟩
    · exact ⟨h1, m_, SM_e H_ m_ f_, r_⟩
-- ===== rock
-- xrkE: 86 steps, 1 ends, 4 returns
def xrkE_L : List (Nat × Nat × Nat) := []
def xrkE_O : yO := [(0, .int 13, .index 323), (323, .int 1, .arg 400)]
def xrkE_A : yA := (yZ xrkE_L, [], [], [], [])
def xrkE_C : List xB := []
def xrkE_ss : List yS := [(23, [(0, .index 0), (1, .arg 1), (2, .arg 2)], [], [(0, .int 13, .index 323), (323, .int 1, .arg 400)], [(.le, .arg 2, .int 20, true), (.lt, .arg 2, .int 0, false), (.lt, .arg 1, .int 70, true), (.lt, .arg 1, .int 0, false)], [])]
def xrkE_rs : List yR := [(some (.int (Int32.ofInt (-1000001))), [(323, .int 1, .add (.arg 400) (.int 1)), (0, .int 13, .index 323)], [(.lt, .arg 1, .int 0, true)], [(323, .int 1)]),
  (some (.int (Int32.ofInt (-1000001))), [(323, .int 1, .add (.arg 400) (.int 1)), (0, .int 13, .index 323)], [(.lt, .arg 1, .int 70, false), (.lt, .arg 1, .int 0, false)], [(323, .int 1)]),
  (some (.int (Int32.ofInt (-1000001))), [(323, .int 1, .add (.arg 400) (.int 1)), (0, .int 13, .index 323)], [(.lt, .arg 2, .int 0, true), (.lt, .arg 1, .int 70, true), (.lt, .arg 1, .int 0, false)], [(323, .int 1)]),
  (some (.int (Int32.ofInt (-1000001))), [(323, .int 1, .add (.arg 400) (.int 1)), (0, .int 13, .index 323)], [(.le, .arg 2, .int 20, false), (.lt, .arg 2, .int 0, false), (.lt, .arg 1, .int 70, true), (.lt, .arg 1, .int 0, false)], [(323, .int 1)])]
theorem xrkE_w : ywa xrkE_A xrkE_ss xrkE_rs = true := by decide +kernel
theorem xrkE_k : yis (yev xrkE_A 3000 60 80 [23] (0, [(0, .index 0), (1, .arg 1), (2, .arg 2)], [], xrkE_O, xrkE_C, [])) xrkE_ss xrkE_rs = true := by decide +kernel
def xrkE_r (v1_ v2 v400 : Int32) (k_ : Nat) : Value := bif Nat.beq k_ 1 then .int v1_ else (bif Nat.beq k_ 2 then .int v2 else (bif Nat.beq k_ 400 then .int v400 else (.int 0)))
def xrkE_s (n_ : Nat) : Nat := 0
theorem xrkE {h_ : xH} {v1_ v2 v400 : Int32} (hs : sHp h_) (o0_ : bpat h_ 323 1 = some (.int v400)) : ∃ h', ysm h_ h' ∧ (((v2.toInt ≤ (20 : Int32).toInt) ∧ ((0 : Int32).toInt ≤ v2.toInt) ∧ (v1_.toInt < (70 : Int32).toInt) ∧ ((0 : Int32).toInt ≤ v1_.toInt) ∧ (∀ a_ j_ : Nat, bpat h' a_ j_ = bpat h_ a_ j_) ∧ (bldD 60 80 0 [(0, .index 0), (1, .int v1_), (2, .int v2)] [] h_ 23 [(0, .index 0), (1, .int v1_), (2, .int v2)] [] h'))
  ∨ ((v1_.toInt < (0 : Int32).toInt) ∧ (bpat h' 323 1 = some (.int (v400 + (1 : Int32)))) ∧ (∀ a_ j_ : Nat, ¬ (a_ = 323 ∧ j_ = 1) → bpat h' a_ j_ = bpat h_ a_ j_) ∧ (∀ D_, 60 ≤ D_ → xrun D_ 80 0 [(0, .index 0), (1, .int v1_), (2, .int v2)] [] h_ (some (.int (Int32.ofInt (-1000001))), h', [])))
  ∨ (((70 : Int32).toInt ≤ v1_.toInt) ∧ ((0 : Int32).toInt ≤ v1_.toInt) ∧ (bpat h' 323 1 = some (.int (v400 + (1 : Int32)))) ∧ (∀ a_ j_ : Nat, ¬ (a_ = 323 ∧ j_ = 1) → bpat h' a_ j_ = bpat h_ a_ j_) ∧ (∀ D_, 60 ≤ D_ → xrun D_ 80 0 [(0, .index 0), (1, .int v1_), (2, .int v2)] [] h_ (some (.int (Int32.ofInt (-1000001))), h', [])))
  ∨ ((v2.toInt < (0 : Int32).toInt) ∧ (v1_.toInt < (70 : Int32).toInt) ∧ ((0 : Int32).toInt ≤ v1_.toInt) ∧ (bpat h' 323 1 = some (.int (v400 + (1 : Int32)))) ∧ (∀ a_ j_ : Nat, ¬ (a_ = 323 ∧ j_ = 1) → bpat h' a_ j_ = bpat h_ a_ j_) ∧ (∀ D_, 60 ≤ D_ → xrun D_ 80 0 [(0, .index 0), (1, .int v1_), (2, .int v2)] [] h_ (some (.int (Int32.ofInt (-1000001))), h', [])))
  ∨ (((20 : Int32).toInt < v2.toInt) ∧ ((0 : Int32).toInt ≤ v2.toInt) ∧ (v1_.toInt < (70 : Int32).toInt) ∧ ((0 : Int32).toInt ≤ v1_.toInt) ∧ (bpat h' 323 1 = some (.int (v400 + (1 : Int32)))) ∧ (∀ a_ j_ : Nat, ¬ (a_ = 323 ∧ j_ = 1) → bpat h' a_ j_ = bpat h_ a_ j_) ∧ (∀ D_, 60 ≤ D_ → xrun D_ 80 0 [(0, .index 0), (1, .int v1_), (2, .int v2)] [] h_ (some (.int (Int32.ofInt (-1000001))), h', [])))) := by
  have hA : yas xrkE_A (xrkE_r v1_ v2 v400) (yg xrkE_s) := ⟨fun q_ hq => absurd hq List.not_mem_nil, fun q_ hq => absurd hq List.not_mem_nil, fun q_ hq => absurd hq List.not_mem_nil, fun n_ hn => yg_lo hn, fun q_ hq => absurd hq List.not_mem_nil⟩
  have Hs : ysh xrkE_A.1 (yg xrkE_s) h_ := ysh_of2 hs (fun q_ hq => absurd hq List.not_mem_nil)
  have Ho : ymem (xrkE_r v1_ v2 v400) (yg xrkE_s) xrkE_O h_ := List.forall_mem_cons.mpr ⟨bpat_some (fxr_at hs.2 (show fxk fxl 0 13 = some 323 by decide +kernel)), List.forall_mem_cons.mpr ⟨bpat_some o0_, fun q_ hq => absurd hq List.not_mem_nil⟩⟩
  have HC : ∀ q_ ∈ xrkE_C, xhold (xrkE_r v1_ v2 v400) q_ := fun q_ hq => absurd hq List.not_mem_nil
  rcases yrun (yis_ok xrkE_k) hA Hs Ho HC with ⟨q_, hq, h', K_, G_⟩ | ⟨q_, hq, h', K_, G_⟩
  · have e_ := List.mem_singleton.mp hq
    subst e_
    exact ⟨h', yfr_sm K_.2.2.2 hs K_.1 (ywa_s xrkE_w List.mem_cons_self), Or.inl (⟨xq_leT rfl rfl (K_.2.2.1 _ List.mem_cons_self), xq_ltF rfl rfl (K_.2.2.1 _ (List.mem_cons_of_mem _ List.mem_cons_self)), xq_ltT rfl rfl (K_.2.2.1 _ (List.mem_cons_of_mem _ (List.mem_cons_of_mem _ List.mem_cons_self))), xq_ltF rfl rfl (K_.2.2.1 _ (List.mem_cons_of_mem _ (List.mem_cons_of_mem _ (List.mem_cons_of_mem _ List.mem_cons_self)))), fun a_ j_ => yfr_bp K_.2.2.2 (fun q_ hq => absurd hq List.not_mem_nil), G_⟩)⟩
  · rcases List.mem_cons.mp hq with e_ | hq
    · subst e_
      exact ⟨h', yfr_sm K_.2.2.2 hs K_.1 (ywa_r xrkE_w List.mem_cons_self), Or.inr (Or.inl (⟨xq_ltT rfl rfl (K_.2.2.1 _ List.mem_cons_self), bpat_of (K_.2.1 _ List.mem_cons_self), fun a_ j_ n0_ => yfr_bp K_.2.2.2 (List.forall_mem_cons.mpr ⟨fun e_ => n0_ ⟨e_.1.symm, e_.2.symm⟩, fun q_ hq => absurd hq List.not_mem_nil⟩), G_⟩))⟩
    rcases List.mem_cons.mp hq with e_ | hq
    · subst e_
      exact ⟨h', yfr_sm K_.2.2.2 hs K_.1 (ywa_r xrkE_w (List.mem_cons_of_mem _ List.mem_cons_self)), Or.inr (Or.inr (Or.inl (⟨xq_ltF rfl rfl (K_.2.2.1 _ List.mem_cons_self), xq_ltF rfl rfl (K_.2.2.1 _ (List.mem_cons_of_mem _ List.mem_cons_self)), bpat_of (K_.2.1 _ List.mem_cons_self), fun a_ j_ n0_ => yfr_bp K_.2.2.2 (List.forall_mem_cons.mpr ⟨fun e_ => n0_ ⟨e_.1.symm, e_.2.symm⟩, fun q_ hq => absurd hq List.not_mem_nil⟩), G_⟩)))⟩
    rcases List.mem_cons.mp hq with e_ | hq
    · subst e_
      exact ⟨h', yfr_sm K_.2.2.2 hs K_.1 (ywa_r xrkE_w (List.mem_cons_of_mem _ (List.mem_cons_of_mem _ List.mem_cons_self))), Or.inr (Or.inr (Or.inr (Or.inl (⟨xq_ltT rfl rfl (K_.2.2.1 _ List.mem_cons_self), xq_ltT rfl rfl (K_.2.2.1 _ (List.mem_cons_of_mem _ List.mem_cons_self)), xq_ltF rfl rfl (K_.2.2.1 _ (List.mem_cons_of_mem _ (List.mem_cons_of_mem _ List.mem_cons_self))), bpat_of (K_.2.1 _ List.mem_cons_self), fun a_ j_ n0_ => yfr_bp K_.2.2.2 (List.forall_mem_cons.mpr ⟨fun e_ => n0_ ⟨e_.1.symm, e_.2.symm⟩, fun q_ hq => absurd hq List.not_mem_nil⟩), G_⟩))))⟩
    have e_ := List.mem_singleton.mp hq
    subst e_
    exact ⟨h', yfr_sm K_.2.2.2 hs K_.1 (ywa_r xrkE_w (List.mem_cons_of_mem _ (List.mem_cons_of_mem _ (List.mem_cons_of_mem _ List.mem_cons_self)))), Or.inr (Or.inr (Or.inr (Or.inr (⟨xq_leF rfl rfl (K_.2.2.1 _ List.mem_cons_self), xq_ltF rfl rfl (K_.2.2.1 _ (List.mem_cons_of_mem _ List.mem_cons_self)), xq_ltT rfl rfl (K_.2.2.1 _ (List.mem_cons_of_mem _ (List.mem_cons_of_mem _ List.mem_cons_self))), xq_ltF rfl rfl (K_.2.2.1 _ (List.mem_cons_of_mem _ (List.mem_cons_of_mem _ (List.mem_cons_of_mem _ List.mem_cons_self)))), bpat_of (K_.2.1 _ List.mem_cons_self), fun a_ j_ n0_ => yfr_bp K_.2.2.2 (List.forall_mem_cons.mpr ⟨fun e_ => n0_ ⟨e_.1.symm, e_.2.symm⟩, fun q_ hq => absurd hq List.not_mem_nil⟩), G_⟩))))⟩
-- xrkO: 55 steps, 0 ends, 1 returns
def xrkO_L : List (Nat × Nat × Nat) := [(1000, 5, 3)]
def xrkO_O : yO := [(0, .int 0, .index 1), (1, .int 10, .arg 310), (1, .int 1, .index 3), (3, .arg 310, .index 1000)]
def xrkO_A : yA := (yZ xrkO_L, [(.arg 310, 8)], [], [], [])
def xrkO_C : List xB := [(.lt, .arg 310, .int 8, true), (.le, .arg 2, .int 20, true), (.lt, .arg 2, .int 0, false), (.lt, .arg 1, .int 70, true), (.lt, .arg 1, .int 0, false)]
def xrkO_ss : List yS := []
def xrkO_rs : List yR := [(some (.sub (.add (.arg 310) (.int 1)) (.int 1)), [(1, .int 10, .add (.arg 310) (.int 1)), (1000, .int 2, .arg 2), (1000, .int 1, .rem (.arg 1) (.int 10)), (1000, .int 0, .div (.arg 1) (.int 10)), (0, .int 0, .index 1), (1, .int 1, .index 3), (3, .arg 310, .index 1000)], [(.lt, .arg 310, .int 8, true), (.le, .arg 2, .int 20, true), (.lt, .arg 2, .int 0, false), (.lt, .arg 1, .int 70, true), (.lt, .arg 1, .int 0, false)], [(1, .int 10), (1000, .int 2), (1000, .int 1), (1000, .int 0)])]
theorem xrkO_w : ywa xrkO_A xrkO_ss xrkO_rs = true := by decide +kernel
theorem xrkO_k : yis (yev xrkO_A 3000 60 80 [] (0, [(0, .index 0), (1, .arg 1), (2, .arg 2)], [], xrkO_O, xrkO_C, [])) xrkO_ss xrkO_rs = true := by decide +kernel
def xrkO_r (v1_ v2 v310 : Int32) (k_ : Nat) : Value := bif Nat.beq k_ 1 then .int v1_ else (bif Nat.beq k_ 2 then .int v2 else (bif Nat.beq k_ 310 then .int v310 else (.int 0)))
def xrkO_s (a1000 : Nat) (n_ : Nat) : Nat := bif Nat.beq n_ 1000 then a1000 else (0)
theorem xrkO {h_ : xH} {a1000 : Nat} {v1_ v2 v310 : Int32} (hs : sHp h_) (k1000 : bcq h_ a1000 5 3) (o0_ : bpat h_ 1 10 = some (.int v310)) (o1 : bpat h_ 3 (v310).toInt.toNat = some (.index a1000)) (b0 : 0 ≤ (v310).toInt ∧ (v310).toInt < 8) (c0_ : v310.toInt < (8 : Int32).toInt) (c1_ : v2.toInt ≤ (20 : Int32).toInt) (c2_ : (0 : Int32).toInt ≤ v2.toInt) (c3_ : v1_.toInt < (70 : Int32).toInt) (c4_ : (0 : Int32).toInt ≤ v1_.toInt) : ∃ h', ysm h_ h' ∧ (((bpat h' 1 10 = some (.int (v310 + (1 : Int32)))) ∧ (bpat h' a1000 2 = some (.int v2)) ∧ (bpat h' a1000 1 = some (.int (v1_ - v1_ / (10 : Int32) * (10 : Int32)))) ∧ (bpat h' a1000 0 = some (.int (v1_ / (10 : Int32)))) ∧ (∀ a_ j_ : Nat, ¬ (a_ = 1 ∧ j_ = 10) → ¬ (a_ = a1000 ∧ j_ = 2) → ¬ (a_ = a1000 ∧ j_ = 1) → ¬ (a_ = a1000 ∧ j_ = 0) → bpat h' a_ j_ = bpat h_ a_ j_) ∧ (∀ D_, 60 ≤ D_ → xrun D_ 80 0 [(0, .index 0), (1, .int v1_), (2, .int v2)] [] h_ (some (.int ((v310 + (1 : Int32)) - (1 : Int32))), h', [])))) := by
  have hA : yas xrkO_A (xrkO_r v1_ v2 v310) (yg (xrkO_s a1000)) := ⟨List.forall_mem_cons.mpr ⟨b0, fun q_ hq => absurd hq List.not_mem_nil⟩, fun q_ hq => absurd hq List.not_mem_nil, fun q_ hq => absurd hq List.not_mem_nil, fun n_ hn => yg_lo hn, fun q_ hq => absurd hq List.not_mem_nil⟩
  have Hs : ysh xrkO_A.1 (yg (xrkO_s a1000)) h_ := ysh_of2 hs (List.forall_mem_cons.mpr ⟨⟨by decide, k1000⟩, fun q_ hq => absurd hq List.not_mem_nil⟩)
  have Ho : ymem (xrkO_r v1_ v2 v310) (yg (xrkO_s a1000)) xrkO_O h_ := List.forall_mem_cons.mpr ⟨bpat_some (fxr_at hs.2 (show fxk fxl 0 0 = some 1 by decide +kernel)), List.forall_mem_cons.mpr ⟨bpat_some o0_, List.forall_mem_cons.mpr ⟨bpat_some (fxr_at hs.2 (show fxk fxl 1 1 = some 3 by decide +kernel)), List.forall_mem_cons.mpr ⟨bpat_some o1, fun q_ hq => absurd hq List.not_mem_nil⟩⟩⟩⟩
  have HC : ∀ q_ ∈ xrkO_C, xhold (xrkO_r v1_ v2 v310) q_ := List.forall_mem_cons.mpr ⟨xh_ltT c0_, List.forall_mem_cons.mpr ⟨xh_leT c1_, List.forall_mem_cons.mpr ⟨xh_ltF c2_, List.forall_mem_cons.mpr ⟨xh_ltT c3_, List.forall_mem_cons.mpr ⟨xh_ltF c4_, fun q_ hq => absurd hq List.not_mem_nil⟩⟩⟩⟩⟩
  rcases yrun (yis_ok xrkO_k) hA Hs Ho HC with ⟨q_, hq, h', K_, G_⟩ | ⟨q_, hq, h', K_, G_⟩
  · cases hq
  · have e_ := List.mem_singleton.mp hq
    subst e_
    exact ⟨h', yfr_sm K_.2.2.2 hs K_.1 (ywa_r xrkO_w List.mem_cons_self), ⟨bpat_of (K_.2.1 _ List.mem_cons_self), bpat_of (K_.2.1 _ (List.mem_cons_of_mem _ List.mem_cons_self)), bpat_of (K_.2.1 _ (List.mem_cons_of_mem _ (List.mem_cons_of_mem _ List.mem_cons_self))), bpat_of (K_.2.1 _ (List.mem_cons_of_mem _ (List.mem_cons_of_mem _ (List.mem_cons_of_mem _ List.mem_cons_self)))), fun a_ j_ n0_ n1_ n2_ n3_ => yfr_bp K_.2.2.2 (List.forall_mem_cons.mpr ⟨fun e_ => n0_ ⟨e_.1.symm, e_.2.symm⟩, List.forall_mem_cons.mpr ⟨fun e_ => n1_ ⟨e_.1.symm, e_.2.symm⟩, List.forall_mem_cons.mpr ⟨fun e_ => n2_ ⟨e_.1.symm, e_.2.symm⟩, List.forall_mem_cons.mpr ⟨fun e_ => n3_ ⟨e_.1.symm, e_.2.symm⟩, fun q_ hq => absurd hq List.not_mem_nil⟩⟩⟩⟩), G_⟩⟩
-- xrkF: 37 steps, 0 ends, 1 returns
def xrkF_L : List (Nat × Nat × Nat) := []
def xrkF_O : yO := [(0, .int 0, .index 1), (1, .int 10, .arg 310), (0, .int 13, .index 323), (323, .int 4, .arg 400)]
def xrkF_A : yA := (yZ xrkF_L, [], [], [], [])
def xrkF_C : List xB := [(.lt, .arg 310, .int 8, false), (.le, .arg 2, .int 20, true), (.lt, .arg 2, .int 0, false), (.lt, .arg 1, .int 70, true), (.lt, .arg 1, .int 0, false)]
def xrkF_ss : List yS := []
def xrkF_rs : List yR := [(some (.int (Int32.ofInt (-1000004))), [(323, .int 4, .add (.arg 400) (.int 1)), (0, .int 0, .index 1), (1, .int 10, .arg 310), (0, .int 13, .index 323)], [(.lt, .arg 310, .int 8, false), (.le, .arg 2, .int 20, true), (.lt, .arg 2, .int 0, false), (.lt, .arg 1, .int 70, true), (.lt, .arg 1, .int 0, false)], [(323, .int 4)])]
theorem xrkF_w : ywa xrkF_A xrkF_ss xrkF_rs = true := by decide +kernel
theorem xrkF_k : yis (yev xrkF_A 3000 60 80 [] (0, [(0, .index 0), (1, .arg 1), (2, .arg 2)], [], xrkF_O, xrkF_C, [])) xrkF_ss xrkF_rs = true := by decide +kernel
def xrkF_r (v1_ v2 v310 v400 : Int32) (k_ : Nat) : Value := bif Nat.beq k_ 1 then .int v1_ else (bif Nat.beq k_ 2 then .int v2 else (bif Nat.beq k_ 310 then .int v310 else (bif Nat.beq k_ 400 then .int v400 else (.int 0))))
def xrkF_s (n_ : Nat) : Nat := 0
theorem xrkF {h_ : xH} {v1_ v2 v310 v400 : Int32} (hs : sHp h_) (o0_ : bpat h_ 1 10 = some (.int v310)) (o1 : bpat h_ 323 4 = some (.int v400)) (c0_ : (8 : Int32).toInt ≤ v310.toInt) (c1_ : v2.toInt ≤ (20 : Int32).toInt) (c2_ : (0 : Int32).toInt ≤ v2.toInt) (c3_ : v1_.toInt < (70 : Int32).toInt) (c4_ : (0 : Int32).toInt ≤ v1_.toInt) : ∃ h', ysm h_ h' ∧ (((bpat h' 323 4 = some (.int (v400 + (1 : Int32)))) ∧ (∀ a_ j_ : Nat, ¬ (a_ = 323 ∧ j_ = 4) → bpat h' a_ j_ = bpat h_ a_ j_) ∧ (∀ D_, 60 ≤ D_ → xrun D_ 80 0 [(0, .index 0), (1, .int v1_), (2, .int v2)] [] h_ (some (.int (Int32.ofInt (-1000004))), h', [])))) := by
  have hA : yas xrkF_A (xrkF_r v1_ v2 v310 v400) (yg xrkF_s) := ⟨fun q_ hq => absurd hq List.not_mem_nil, fun q_ hq => absurd hq List.not_mem_nil, fun q_ hq => absurd hq List.not_mem_nil, fun n_ hn => yg_lo hn, fun q_ hq => absurd hq List.not_mem_nil⟩
  have Hs : ysh xrkF_A.1 (yg xrkF_s) h_ := ysh_of2 hs (fun q_ hq => absurd hq List.not_mem_nil)
  have Ho : ymem (xrkF_r v1_ v2 v310 v400) (yg xrkF_s) xrkF_O h_ := List.forall_mem_cons.mpr ⟨bpat_some (fxr_at hs.2 (show fxk fxl 0 0 = some 1 by decide +kernel)), List.forall_mem_cons.mpr ⟨bpat_some o0_, List.forall_mem_cons.mpr ⟨bpat_some (fxr_at hs.2 (show fxk fxl 0 13 = some 323 by decide +kernel)), List.forall_mem_cons.mpr ⟨bpat_some o1, fun q_ hq => absurd hq List.not_mem_nil⟩⟩⟩⟩
  have HC : ∀ q_ ∈ xrkF_C, xhold (xrkF_r v1_ v2 v310 v400) q_ := List.forall_mem_cons.mpr ⟨xh_ltF c0_, List.forall_mem_cons.mpr ⟨xh_leT c1_, List.forall_mem_cons.mpr ⟨xh_ltF c2_, List.forall_mem_cons.mpr ⟨xh_ltT c3_, List.forall_mem_cons.mpr ⟨xh_ltF c4_, fun q_ hq => absurd hq List.not_mem_nil⟩⟩⟩⟩⟩
  rcases yrun (yis_ok xrkF_k) hA Hs Ho HC with ⟨q_, hq, h', K_, G_⟩ | ⟨q_, hq, h', K_, G_⟩
  · cases hq
  · have e_ := List.mem_singleton.mp hq
    subst e_
    exact ⟨h', yfr_sm K_.2.2.2 hs K_.1 (ywa_r xrkF_w List.mem_cons_self), ⟨bpat_of (K_.2.1 _ List.mem_cons_self), fun a_ j_ n0_ => yfr_bp K_.2.2.2 (List.forall_mem_cons.mpr ⟨fun e_ => n0_ ⟨e_.1.symm, e_.2.symm⟩, fun q_ hq => absurd hq List.not_mem_nil⟩), G_⟩⟩
-- mrkE: 104 steps, 1 ends, 4 returns
def mrkE_L : List (Nat × Nat × Nat) := []
def mrkE_O : yO := [(338, .int 3, .index 341), (341, .int 1, .arg 400)]
def mrkE_A : yA := (yZ mrkE_L, [], [], [], [])
def mrkE_C : List xB := []
def mrkE_ss : List yS := [(26, [(0, .index 338), (1, .arg 1), (2, .arg 2)], [], [(338, .int 3, .index 341), (341, .int 1, .arg 400)], [(.le, .arg 2, .int 20, true), (.lt, .arg 2, .int 0, false), (.le, .arg 1, .int 69, true), (.lt, .arg 1, .int 0, false)], [])]
def mrkE_rs : List yR := [(some (.int (Int32.ofInt (-1000001))), [(341, .int 1, .add (.arg 400) (.int 1)), (338, .int 3, .index 341)], [(.lt, .arg 1, .int 0, true)], [(341, .int 1)]),
  (some (.int (Int32.ofInt (-1000001))), [(341, .int 1, .add (.arg 400) (.int 1)), (338, .int 3, .index 341)], [(.le, .arg 1, .int 69, false), (.lt, .arg 1, .int 0, false)], [(341, .int 1)]),
  (some (.int (Int32.ofInt (-1000001))), [(341, .int 1, .add (.arg 400) (.int 1)), (338, .int 3, .index 341)], [(.lt, .arg 2, .int 0, true), (.le, .arg 1, .int 69, true), (.lt, .arg 1, .int 0, false)], [(341, .int 1)]),
  (some (.int (Int32.ofInt (-1000001))), [(341, .int 1, .add (.arg 400) (.int 1)), (338, .int 3, .index 341)], [(.le, .arg 2, .int 20, false), (.lt, .arg 2, .int 0, false), (.le, .arg 1, .int 69, true), (.lt, .arg 1, .int 0, false)], [(341, .int 1)])]
theorem mrkE_w : ywa mrkE_A mrkE_ss mrkE_rs = true := by decide +kernel
theorem mrkE_k : yis (yev mrkE_A 3000 60 167 [26] (0, [(0, .index 338), (1, .arg 1), (2, .arg 2)], [], mrkE_O, mrkE_C, [])) mrkE_ss mrkE_rs = true := by decide +kernel
def mrkE_r (v1_ v2 v400 : Int32) (k_ : Nat) : Value := bif Nat.beq k_ 1 then .int v1_ else (bif Nat.beq k_ 2 then .int v2 else (bif Nat.beq k_ 400 then .int v400 else (.int 0)))
def mrkE_s (n_ : Nat) : Nat := 0
theorem mrkE {h_ : xH} {v1_ v2 v400 : Int32} (hs : sHp h_) (o0_ : bpat h_ 341 1 = some (.int v400)) : ∃ h', ysm h_ h' ∧ (((v2.toInt ≤ (20 : Int32).toInt) ∧ ((0 : Int32).toInt ≤ v2.toInt) ∧ (v1_.toInt ≤ (69 : Int32).toInt) ∧ ((0 : Int32).toInt ≤ v1_.toInt) ∧ (∀ a_ j_ : Nat, bpat h' a_ j_ = bpat h_ a_ j_) ∧ (bldD 60 167 0 [(0, .index 338), (1, .int v1_), (2, .int v2)] [] h_ 26 [(0, .index 338), (1, .int v1_), (2, .int v2)] [] h'))
  ∨ ((v1_.toInt < (0 : Int32).toInt) ∧ (bpat h' 341 1 = some (.int (v400 + (1 : Int32)))) ∧ (∀ a_ j_ : Nat, ¬ (a_ = 341 ∧ j_ = 1) → bpat h' a_ j_ = bpat h_ a_ j_) ∧ (∀ D_, 60 ≤ D_ → xrun D_ 167 0 [(0, .index 338), (1, .int v1_), (2, .int v2)] [] h_ (some (.int (Int32.ofInt (-1000001))), h', [])))
  ∨ (((69 : Int32).toInt < v1_.toInt) ∧ ((0 : Int32).toInt ≤ v1_.toInt) ∧ (bpat h' 341 1 = some (.int (v400 + (1 : Int32)))) ∧ (∀ a_ j_ : Nat, ¬ (a_ = 341 ∧ j_ = 1) → bpat h' a_ j_ = bpat h_ a_ j_) ∧ (∀ D_, 60 ≤ D_ → xrun D_ 167 0 [(0, .index 338), (1, .int v1_), (2, .int v2)] [] h_ (some (.int (Int32.ofInt (-1000001))), h', [])))
  ∨ ((v2.toInt < (0 : Int32).toInt) ∧ (v1_.toInt ≤ (69 : Int32).toInt) ∧ ((0 : Int32).toInt ≤ v1_.toInt) ∧ (bpat h' 341 1 = some (.int (v400 + (1 : Int32)))) ∧ (∀ a_ j_ : Nat, ¬ (a_ = 341 ∧ j_ = 1) → bpat h' a_ j_ = bpat h_ a_ j_) ∧ (∀ D_, 60 ≤ D_ → xrun D_ 167 0 [(0, .index 338), (1, .int v1_), (2, .int v2)] [] h_ (some (.int (Int32.ofInt (-1000001))), h', [])))
  ∨ (((20 : Int32).toInt < v2.toInt) ∧ ((0 : Int32).toInt ≤ v2.toInt) ∧ (v1_.toInt ≤ (69 : Int32).toInt) ∧ ((0 : Int32).toInt ≤ v1_.toInt) ∧ (bpat h' 341 1 = some (.int (v400 + (1 : Int32)))) ∧ (∀ a_ j_ : Nat, ¬ (a_ = 341 ∧ j_ = 1) → bpat h' a_ j_ = bpat h_ a_ j_) ∧ (∀ D_, 60 ≤ D_ → xrun D_ 167 0 [(0, .index 338), (1, .int v1_), (2, .int v2)] [] h_ (some (.int (Int32.ofInt (-1000001))), h', [])))) := by
  have hA : yas mrkE_A (mrkE_r v1_ v2 v400) (yg mrkE_s) := ⟨fun q_ hq => absurd hq List.not_mem_nil, fun q_ hq => absurd hq List.not_mem_nil, fun q_ hq => absurd hq List.not_mem_nil, fun n_ hn => yg_lo hn, fun q_ hq => absurd hq List.not_mem_nil⟩
  have Hs : ysh mrkE_A.1 (yg mrkE_s) h_ := ysh_of2 hs (fun q_ hq => absurd hq List.not_mem_nil)
  have Ho : ymem (mrkE_r v1_ v2 v400) (yg mrkE_s) mrkE_O h_ := List.forall_mem_cons.mpr ⟨bpat_some (fxr_at hs.2 (show fxk fxl 338 3 = some 341 by decide +kernel)), List.forall_mem_cons.mpr ⟨bpat_some o0_, fun q_ hq => absurd hq List.not_mem_nil⟩⟩
  have HC : ∀ q_ ∈ mrkE_C, xhold (mrkE_r v1_ v2 v400) q_ := fun q_ hq => absurd hq List.not_mem_nil
  rcases yrun (yis_ok mrkE_k) hA Hs Ho HC with ⟨q_, hq, h', K_, G_⟩ | ⟨q_, hq, h', K_, G_⟩
  · have e_ := List.mem_singleton.mp hq
    subst e_
    exact ⟨h', yfr_sm K_.2.2.2 hs K_.1 (ywa_s mrkE_w List.mem_cons_self), Or.inl (⟨xq_leT rfl rfl (K_.2.2.1 _ List.mem_cons_self), xq_ltF rfl rfl (K_.2.2.1 _ (List.mem_cons_of_mem _ List.mem_cons_self)), xq_leT rfl rfl (K_.2.2.1 _ (List.mem_cons_of_mem _ (List.mem_cons_of_mem _ List.mem_cons_self))), xq_ltF rfl rfl (K_.2.2.1 _ (List.mem_cons_of_mem _ (List.mem_cons_of_mem _ (List.mem_cons_of_mem _ List.mem_cons_self)))), fun a_ j_ => yfr_bp K_.2.2.2 (fun q_ hq => absurd hq List.not_mem_nil), G_⟩)⟩
  · rcases List.mem_cons.mp hq with e_ | hq
    · subst e_
      exact ⟨h', yfr_sm K_.2.2.2 hs K_.1 (ywa_r mrkE_w List.mem_cons_self), Or.inr (Or.inl (⟨xq_ltT rfl rfl (K_.2.2.1 _ List.mem_cons_self), bpat_of (K_.2.1 _ List.mem_cons_self), fun a_ j_ n0_ => yfr_bp K_.2.2.2 (List.forall_mem_cons.mpr ⟨fun e_ => n0_ ⟨e_.1.symm, e_.2.symm⟩, fun q_ hq => absurd hq List.not_mem_nil⟩), G_⟩))⟩
    rcases List.mem_cons.mp hq with e_ | hq
    · subst e_
      exact ⟨h', yfr_sm K_.2.2.2 hs K_.1 (ywa_r mrkE_w (List.mem_cons_of_mem _ List.mem_cons_self)), Or.inr (Or.inr (Or.inl (⟨xq_leF rfl rfl (K_.2.2.1 _ List.mem_cons_self), xq_ltF rfl rfl (K_.2.2.1 _ (List.mem_cons_of_mem _ List.mem_cons_self)), bpat_of (K_.2.1 _ List.mem_cons_self), fun a_ j_ n0_ => yfr_bp K_.2.2.2 (List.forall_mem_cons.mpr ⟨fun e_ => n0_ ⟨e_.1.symm, e_.2.symm⟩, fun q_ hq => absurd hq List.not_mem_nil⟩), G_⟩)))⟩
    rcases List.mem_cons.mp hq with e_ | hq
    · subst e_
      exact ⟨h', yfr_sm K_.2.2.2 hs K_.1 (ywa_r mrkE_w (List.mem_cons_of_mem _ (List.mem_cons_of_mem _ List.mem_cons_self))), Or.inr (Or.inr (Or.inr (Or.inl (⟨xq_ltT rfl rfl (K_.2.2.1 _ List.mem_cons_self), xq_leT rfl rfl (K_.2.2.1 _ (List.mem_cons_of_mem _ List.mem_cons_self)), xq_ltF rfl rfl (K_.2.2.1 _ (List.mem_cons_of_mem _ (List.mem_cons_of_mem _ List.mem_cons_self))), bpat_of (K_.2.1 _ List.mem_cons_self), fun a_ j_ n0_ => yfr_bp K_.2.2.2 (List.forall_mem_cons.mpr ⟨fun e_ => n0_ ⟨e_.1.symm, e_.2.symm⟩, fun q_ hq => absurd hq List.not_mem_nil⟩), G_⟩))))⟩
    have e_ := List.mem_singleton.mp hq
    subst e_
    exact ⟨h', yfr_sm K_.2.2.2 hs K_.1 (ywa_r mrkE_w (List.mem_cons_of_mem _ (List.mem_cons_of_mem _ (List.mem_cons_of_mem _ List.mem_cons_self)))), Or.inr (Or.inr (Or.inr (Or.inr (⟨xq_leF rfl rfl (K_.2.2.1 _ List.mem_cons_self), xq_ltF rfl rfl (K_.2.2.1 _ (List.mem_cons_of_mem _ List.mem_cons_self)), xq_leT rfl rfl (K_.2.2.1 _ (List.mem_cons_of_mem _ (List.mem_cons_of_mem _ List.mem_cons_self))), xq_ltF rfl rfl (K_.2.2.1 _ (List.mem_cons_of_mem _ (List.mem_cons_of_mem _ (List.mem_cons_of_mem _ List.mem_cons_self)))), bpat_of (K_.2.1 _ List.mem_cons_self), fun a_ j_ n0_ => yfr_bp K_.2.2.2 (List.forall_mem_cons.mpr ⟨fun e_ => n0_ ⟨e_.1.symm, e_.2.symm⟩, fun q_ hq => absurd hq List.not_mem_nil⟩), G_⟩))))⟩
-- mrkO: 83 steps, 0 ends, 1 returns
def mrkO_L : List (Nat × Nat × Nat) := []
def mrkO_O : yO := [(338, .int 0, .index 339), (339, .int 1, .arg 310)]
def mrkO_A : yA := (yZ mrkO_L, [(.add (.add (.int 10) (.mul (.int 3) (.arg 310))) (.int 0), 768), (.add (.add (.int 10) (.mul (.int 3) (.arg 310))) (.int 1), 768), (.add (.add (.int 10) (.mul (.int 3) (.arg 310))) (.int 2), 768)], [(.add (.add (.int 10) (.mul (.int 3) (.arg 310))) (.int 0), .int 1), (.add (.add (.int 10) (.mul (.int 3) (.arg 310))) (.int 1), .int 1), (.add (.add (.int 10) (.mul (.int 3) (.arg 310))) (.int 2), .int 1), (.add (.add (.int 10) (.mul (.int 3) (.arg 310))) (.int 1), .add (.add (.int 10) (.mul (.int 3) (.arg 310))) (.int 0)), (.add (.add (.int 10) (.mul (.int 3) (.arg 310))) (.int 2), .add (.add (.int 10) (.mul (.int 3) (.arg 310))) (.int 0)), (.add (.add (.int 10) (.mul (.int 3) (.arg 310))) (.int 2), .add (.add (.int 10) (.mul (.int 3) (.arg 310))) (.int 1))], [], [])
def mrkO_C : List xB := [(.eq, .arg 310, .int 8, false), (.le, .arg 2, .int 20, true), (.lt, .arg 2, .int 0, false), (.le, .arg 1, .int 69, true), (.lt, .arg 1, .int 0, false)]
def mrkO_ss : List yS := []
def mrkO_rs : List yR := [(some (.sub (.add (.arg 310) (.int 1)) (.int 1)), [(339, .int 1, .add (.arg 310) (.int 1)), (339, .add (.add (.int 10) (.mul (.int 3) (.arg 310))) (.int 2), .arg 2), (339, .add (.add (.int 10) (.mul (.int 3) (.arg 310))) (.int 1), .rem (.arg 1) (.int 10)), (339, .add (.add (.int 10) (.mul (.int 3) (.arg 310))) (.int 0), .div (.arg 1) (.int 10)), (338, .int 0, .index 339)], [(.eq, .arg 310, .int 8, false), (.le, .arg 2, .int 20, true), (.lt, .arg 2, .int 0, false), (.le, .arg 1, .int 69, true), (.lt, .arg 1, .int 0, false)], [(339, .int 1), (339, .add (.add (.int 10) (.mul (.int 3) (.arg 310))) (.int 2)), (339, .add (.add (.int 10) (.mul (.int 3) (.arg 310))) (.int 1)), (339, .add (.add (.int 10) (.mul (.int 3) (.arg 310))) (.int 0))])]
theorem mrkO_w : ywa mrkO_A mrkO_ss mrkO_rs = true := by decide +kernel
theorem mrkO_k : yis (yev mrkO_A 3000 60 167 [] (0, [(0, .index 338), (1, .arg 1), (2, .arg 2)], [], mrkO_O, mrkO_C, [])) mrkO_ss mrkO_rs = true := by decide +kernel
def mrkO_r (v1_ v2 v310 : Int32) (k_ : Nat) : Value := bif Nat.beq k_ 1 then .int v1_ else (bif Nat.beq k_ 2 then .int v2 else (bif Nat.beq k_ 310 then .int v310 else (.int 0)))
def mrkO_s (n_ : Nat) : Nat := 0
theorem mrkO {h_ : xH} {v1_ v2 v310 : Int32} (hs : sHp h_) (o0_ : bpat h_ 339 1 = some (.int v310)) (b0 : 0 ≤ ((((10 : Int32) + ((3 : Int32) * v310)) + (0 : Int32))).toInt ∧ ((((10 : Int32) + ((3 : Int32) * v310)) + (0 : Int32))).toInt < 768) (b1 : 0 ≤ ((((10 : Int32) + ((3 : Int32) * v310)) + (1 : Int32))).toInt ∧ ((((10 : Int32) + ((3 : Int32) * v310)) + (1 : Int32))).toInt < 768) (b2 : 0 ≤ ((((10 : Int32) + ((3 : Int32) * v310)) + (2 : Int32))).toInt ∧ ((((10 : Int32) + ((3 : Int32) * v310)) + (2 : Int32))).toInt < 768) (x0_ : ¬ ((((10 : Int32) + ((3 : Int32) * v310)) + (0 : Int32))).toInt.toNat = 1) (x1_ : ¬ ((((10 : Int32) + ((3 : Int32) * v310)) + (1 : Int32))).toInt.toNat = 1) (x2_ : ¬ ((((10 : Int32) + ((3 : Int32) * v310)) + (2 : Int32))).toInt.toNat = 1) (x3 : ¬ ((((10 : Int32) + ((3 : Int32) * v310)) + (1 : Int32))).toInt.toNat = ((((10 : Int32) + ((3 : Int32) * v310)) + (0 : Int32))).toInt.toNat) (x4_ : ¬ ((((10 : Int32) + ((3 : Int32) * v310)) + (2 : Int32))).toInt.toNat = ((((10 : Int32) + ((3 : Int32) * v310)) + (0 : Int32))).toInt.toNat) (x5_ : ¬ ((((10 : Int32) + ((3 : Int32) * v310)) + (2 : Int32))).toInt.toNat = ((((10 : Int32) + ((3 : Int32) * v310)) + (1 : Int32))).toInt.toNat) (c0_ : ¬ v310 = (8 : Int32)) (c1_ : v2.toInt ≤ (20 : Int32).toInt) (c2_ : (0 : Int32).toInt ≤ v2.toInt) (c3_ : v1_.toInt ≤ (69 : Int32).toInt) (c4_ : (0 : Int32).toInt ≤ v1_.toInt) : ∃ h', ysm h_ h' ∧ (((bpat h' 339 1 = some (.int (v310 + (1 : Int32)))) ∧ (bpat h' 339 ((((10 : Int32) + ((3 : Int32) * v310)) + (2 : Int32))).toInt.toNat = some (.int v2)) ∧ (bpat h' 339 ((((10 : Int32) + ((3 : Int32) * v310)) + (1 : Int32))).toInt.toNat = some (.int (v1_ - v1_ / (10 : Int32) * (10 : Int32)))) ∧ (bpat h' 339 ((((10 : Int32) + ((3 : Int32) * v310)) + (0 : Int32))).toInt.toNat = some (.int (v1_ / (10 : Int32)))) ∧ (∀ a_ j_ : Nat, ¬ (a_ = 339 ∧ j_ = 1) → ¬ (a_ = 339 ∧ j_ = ((((10 : Int32) + ((3 : Int32) * v310)) + (2 : Int32))).toInt.toNat) → ¬ (a_ = 339 ∧ j_ = ((((10 : Int32) + ((3 : Int32) * v310)) + (1 : Int32))).toInt.toNat) → ¬ (a_ = 339 ∧ j_ = ((((10 : Int32) + ((3 : Int32) * v310)) + (0 : Int32))).toInt.toNat) → bpat h' a_ j_ = bpat h_ a_ j_) ∧ (∀ D_, 60 ≤ D_ → xrun D_ 167 0 [(0, .index 338), (1, .int v1_), (2, .int v2)] [] h_ (some (.int ((v310 + (1 : Int32)) - (1 : Int32))), h', [])))) := by
  have hA : yas mrkO_A (mrkO_r v1_ v2 v310) (yg mrkO_s) := ⟨List.forall_mem_cons.mpr ⟨b0, List.forall_mem_cons.mpr ⟨b1, List.forall_mem_cons.mpr ⟨b2, fun q_ hq => absurd hq List.not_mem_nil⟩⟩⟩, List.forall_mem_cons.mpr ⟨x0_, List.forall_mem_cons.mpr ⟨x1_, List.forall_mem_cons.mpr ⟨x2_, List.forall_mem_cons.mpr ⟨x3, List.forall_mem_cons.mpr ⟨x4_, List.forall_mem_cons.mpr ⟨x5_, fun q_ hq => absurd hq List.not_mem_nil⟩⟩⟩⟩⟩⟩, fun q_ hq => absurd hq List.not_mem_nil, fun n_ hn => yg_lo hn, fun q_ hq => absurd hq List.not_mem_nil⟩
  have Hs : ysh mrkO_A.1 (yg mrkO_s) h_ := ysh_of2 hs (fun q_ hq => absurd hq List.not_mem_nil)
  have Ho : ymem (mrkO_r v1_ v2 v310) (yg mrkO_s) mrkO_O h_ := List.forall_mem_cons.mpr ⟨bpat_some (fxr_at hs.2 (show fxk fxl 338 0 = some 339 by decide +kernel)), List.forall_mem_cons.mpr ⟨bpat_some o0_, fun q_ hq => absurd hq List.not_mem_nil⟩⟩
  have HC : ∀ q_ ∈ mrkO_C, xhold (mrkO_r v1_ v2 v310) q_ := List.forall_mem_cons.mpr ⟨xh_eqF2 c0_, List.forall_mem_cons.mpr ⟨xh_leT c1_, List.forall_mem_cons.mpr ⟨xh_ltF c2_, List.forall_mem_cons.mpr ⟨xh_leT c3_, List.forall_mem_cons.mpr ⟨xh_ltF c4_, fun q_ hq => absurd hq List.not_mem_nil⟩⟩⟩⟩⟩
  rcases yrun (yis_ok mrkO_k) hA Hs Ho HC with ⟨q_, hq, h', K_, G_⟩ | ⟨q_, hq, h', K_, G_⟩
  · cases hq
  · have e_ := List.mem_singleton.mp hq
    subst e_
    exact ⟨h', yfr_sm K_.2.2.2 hs K_.1 (ywa_r mrkO_w List.mem_cons_self), ⟨bpat_of (K_.2.1 _ List.mem_cons_self), bpat_of (K_.2.1 _ (List.mem_cons_of_mem _ List.mem_cons_self)), bpat_of (K_.2.1 _ (List.mem_cons_of_mem _ (List.mem_cons_of_mem _ List.mem_cons_self))), bpat_of (K_.2.1 _ (List.mem_cons_of_mem _ (List.mem_cons_of_mem _ (List.mem_cons_of_mem _ List.mem_cons_self)))), fun a_ j_ n0_ n1_ n2_ n3_ => yfr_bp K_.2.2.2 (List.forall_mem_cons.mpr ⟨fun e_ => n0_ ⟨e_.1.symm, e_.2.symm⟩, List.forall_mem_cons.mpr ⟨fun e_ => n1_ ⟨e_.1.symm, e_.2.symm⟩, List.forall_mem_cons.mpr ⟨fun e_ => n2_ ⟨e_.1.symm, e_.2.symm⟩, List.forall_mem_cons.mpr ⟨fun e_ => n3_ ⟨e_.1.symm, e_.2.symm⟩, fun q_ hq => absurd hq List.not_mem_nil⟩⟩⟩⟩), G_⟩⟩
-- mrkF: 50 steps, 0 ends, 1 returns
def mrkF_L : List (Nat × Nat × Nat) := []
def mrkF_O : yO := [(338, .int 0, .index 339), (339, .int 1, .arg 310), (338, .int 3, .index 341), (341, .int 4, .arg 400)]
def mrkF_A : yA := (yZ mrkF_L, [], [], [], [])
def mrkF_C : List xB := [(.eq, .arg 310, .int 8, true), (.le, .arg 2, .int 20, true), (.lt, .arg 2, .int 0, false), (.le, .arg 1, .int 69, true), (.lt, .arg 1, .int 0, false)]
def mrkF_ss : List yS := []
def mrkF_rs : List yR := [(some (.int (Int32.ofInt (-1000004))), [(341, .int 4, .add (.arg 400) (.int 1)), (338, .int 0, .index 339), (339, .int 1, .arg 310), (338, .int 3, .index 341)], [(.eq, .arg 310, .int 8, true), (.le, .arg 2, .int 20, true), (.lt, .arg 2, .int 0, false), (.le, .arg 1, .int 69, true), (.lt, .arg 1, .int 0, false)], [(341, .int 4)])]
theorem mrkF_w : ywa mrkF_A mrkF_ss mrkF_rs = true := by decide +kernel
theorem mrkF_k : yis (yev mrkF_A 3000 60 167 [] (0, [(0, .index 338), (1, .arg 1), (2, .arg 2)], [], mrkF_O, mrkF_C, [])) mrkF_ss mrkF_rs = true := by decide +kernel
def mrkF_r (v1_ v2 v310 v400 : Int32) (k_ : Nat) : Value := bif Nat.beq k_ 1 then .int v1_ else (bif Nat.beq k_ 2 then .int v2 else (bif Nat.beq k_ 310 then .int v310 else (bif Nat.beq k_ 400 then .int v400 else (.int 0))))
def mrkF_s (n_ : Nat) : Nat := 0
theorem mrkF {h_ : xH} {v1_ v2 v310 v400 : Int32} (hs : sHp h_) (o0_ : bpat h_ 339 1 = some (.int v310)) (o1 : bpat h_ 341 4 = some (.int v400)) (c0_ : v310 = (8 : Int32)) (c1_ : v2.toInt ≤ (20 : Int32).toInt) (c2_ : (0 : Int32).toInt ≤ v2.toInt) (c3_ : v1_.toInt ≤ (69 : Int32).toInt) (c4_ : (0 : Int32).toInt ≤ v1_.toInt) : ∃ h', ysm h_ h' ∧ (((bpat h' 341 4 = some (.int (v400 + (1 : Int32)))) ∧ (∀ a_ j_ : Nat, ¬ (a_ = 341 ∧ j_ = 4) → bpat h' a_ j_ = bpat h_ a_ j_) ∧ (∀ D_, 60 ≤ D_ → xrun D_ 167 0 [(0, .index 338), (1, .int v1_), (2, .int v2)] [] h_ (some (.int (Int32.ofInt (-1000004))), h', [])))) := by
  have hA : yas mrkF_A (mrkF_r v1_ v2 v310 v400) (yg mrkF_s) := ⟨fun q_ hq => absurd hq List.not_mem_nil, fun q_ hq => absurd hq List.not_mem_nil, fun q_ hq => absurd hq List.not_mem_nil, fun n_ hn => yg_lo hn, fun q_ hq => absurd hq List.not_mem_nil⟩
  have Hs : ysh mrkF_A.1 (yg mrkF_s) h_ := ysh_of2 hs (fun q_ hq => absurd hq List.not_mem_nil)
  have Ho : ymem (mrkF_r v1_ v2 v310 v400) (yg mrkF_s) mrkF_O h_ := List.forall_mem_cons.mpr ⟨bpat_some (fxr_at hs.2 (show fxk fxl 338 0 = some 339 by decide +kernel)), List.forall_mem_cons.mpr ⟨bpat_some o0_, List.forall_mem_cons.mpr ⟨bpat_some (fxr_at hs.2 (show fxk fxl 338 3 = some 341 by decide +kernel)), List.forall_mem_cons.mpr ⟨bpat_some o1, fun q_ hq => absurd hq List.not_mem_nil⟩⟩⟩⟩
  have HC : ∀ q_ ∈ mrkF_C, xhold (mrkF_r v1_ v2 v310 v400) q_ := List.forall_mem_cons.mpr ⟨xh_eqT2 c0_, List.forall_mem_cons.mpr ⟨xh_leT c1_, List.forall_mem_cons.mpr ⟨xh_ltF c2_, List.forall_mem_cons.mpr ⟨xh_leT c3_, List.forall_mem_cons.mpr ⟨xh_ltF c4_, fun q_ hq => absurd hq List.not_mem_nil⟩⟩⟩⟩⟩
  rcases yrun (yis_ok mrkF_k) hA Hs Ho HC with ⟨q_, hq, h', K_, G_⟩ | ⟨q_, hq, h', K_, G_⟩
  · cases hq
  · have e_ := List.mem_singleton.mp hq
    subst e_
    exact ⟨h', yfr_sm K_.2.2.2 hs K_.1 (ywa_r mrkF_w List.mem_cons_self), ⟨bpat_of (K_.2.1 _ List.mem_cons_self), fun a_ j_ n0_ => yfr_bp K_.2.2.2 (List.forall_mem_cons.mpr ⟨fun e_ => n0_ ⟨e_.1.symm, e_.2.symm⟩, fun q_ hq => absurd hq List.not_mem_nil⟩), G_⟩⟩
theorem SX_I {W_ : Nat → List Int32} {V V' : Nat → Int32} {h_ h' : xH} {D_ : Nat → Prop} (H_ : SX W_ V h_) (m_ : ysm h_ h') (hV : ∀ k_, ¬ D_ k_ → V' k_ = V k_) (h40 : ∀ k_, 40 ≤ k_ → V' k_ = V k_) (fv : ∀ p_ ∈ wvX, ¬ D_ p_.2 → bpat h' p_.1.1 p_.1.2 = bpat h_ p_.1.1 p_.1.2) (ev_ : ∀ p_ ∈ wvX, D_ p_.2 → bpat h' p_.1.1 p_.1.2 = some (.int (V' p_.2))) (fo : ∀ c_ j_, sxc c_ = true → ¬ (c_ = 1 ∨ (c_ = 1 ∨ (58 ≤ c_ ∧ c_ ≤ 65))) → bpat h' c_ j_ = bpat h_ c_ j_) : SX W_ V' h' := by
  refine SX_live H_ m_ (XW_up (D_ := D_) (E_ := fun _ => False) H_.2.1 m_ hV (fun _ _ => rfl) fv ev_ (fun p_ hp _ j_ => ?_) (fun p_ hp d_ => d_.elim)) (fun c_ j_ hc_ hl => fo c_ j_ hc_ (fun q_ => ?_)) (fun _ _ => rfl) h40
  · have s_ := List.all_eq_true.mp sxc_r p_ hp
    simp only [Bool.and_eq_true] at s_
    have w_ : wrX.all (fun p_ => (!(Nat.beq p_.1 1) && (!(Nat.beq p_.1 1) && !(Nat.ble 58 p_.1 && Nat.ble p_.1 65))) && (!(Nat.beq p_.2.1 1) && (!(Nat.beq p_.2.1 1) && !(Nat.ble 58 p_.2.1 && Nat.ble p_.2.1 65)))) = true := by decide +kernel
    have w1_ := List.all_eq_true.mp w_ p_ hp
    simp only [Bool.and_eq_true, Bool.not_eq_true'] at w1_
    have aux : ∀ c_ : Nat, Nat.beq c_ 1 = false → Nat.beq c_ 1 = false → (Nat.ble 58 c_ && Nat.ble c_ 65) = false → ¬ (c_ = 1 ∨ (c_ = 1 ∨ (58 ≤ c_ ∧ c_ ≤ 65))) := by
      intro c_ q1_ q2_ q3_ q_
      rcases q_ with rfl | rfl | ⟨q4_, q5_⟩
      · exact absurd q1_ (by decide)
      · exact absurd q2_ (by decide)
      · rw [Nat.ble_eq_true_of_le q4_, Nat.ble_eq_true_of_le q5_] at q3_
        exact absurd q3_ (by decide)
    exact ⟨fo _ _ s_.1.1 (aux _ w1_.1.1 w1_.1.2.1 w1_.1.2.2), fo _ _ s_.2.1 (aux _ w1_.2.1 w1_.2.2.1 w1_.2.2.2)⟩
  · have aux : (List.range 66).all (fun c_ => sxl c_ || !(Nat.beq c_ 1 || (Nat.beq c_ 1 || (Nat.ble 58 c_ && Nat.ble c_ 65)))) = true := by decide +kernel
    have cl_ : c_ < 66 := by omega
    have w_ := List.all_eq_true.mp aux c_ (List.mem_range.mpr cl_)
    rw [hl, Bool.false_or, Bool.not_eq_true', Bool.or_eq_false_iff, Bool.or_eq_false_iff] at w_
    rcases q_ with rfl | rfl | ⟨q4_, q5_⟩
    · exact absurd w_.1 (by decide)
    · exact absurd w_.2.1 (by decide)
    · have w3_ := w_.2.2
      rw [Nat.ble_eq_true_of_le q4_, Nat.ble_eq_true_of_le q5_] at w3_
      exact absurd w3_ (by decide)
theorem rk_in {k_ j_ : Nat} (hk : k_ < 8) (hj : j_ < 3) : ((58 + k_, j_), 10 + 3 * k_ + j_) ∈ wvX ∧ (10 + 3 * k_ + j_, 10 + 3 * k_ + j_) ∈ wvM := by
  have e_ : (List.range 8).all (fun k_ => (List.range 3).all (fun j_ => wvX.any (fun p_ => decide (p_ = ((58 + k_, j_), 10 + 3 * k_ + j_))) && wvM.any (fun p_ => decide (p_ = (10 + 3 * k_ + j_, 10 + 3 * k_ + j_))))) = true := by decide +kernel
  have e1_ := List.all_eq_true.mp (List.all_eq_true.mp e_ k_ (List.mem_range.mpr hk)) j_ (List.mem_range.mpr hj)
  rw [Bool.and_eq_true] at e1_
  obtain ⟨p_, hp, ep⟩ := List.any_eq_true.mp e1_.1
  obtain ⟨q_, hq, eq_⟩ := List.any_eq_true.mp e1_.2
  refine ⟨?_, ?_⟩
  · rw [← of_decide_eq_true ep]
    exact hp
  · rw [← of_decide_eq_true eq_]
    exact hq
theorem okM {W_ : Nat → List Int32} {V : Nat → Int32} (K_ : okS W_ V) : 0 ≤ (V 1).toInt ∧ (V 1).toInt ≤ 8 := K_.1.1.1.2
theorem i8_ : (8 : Int32).toInt = 8 := rfl
theorem i20_ : (20 : Int32).toInt = 20 := rfl
theorem i70_ : (70 : Int32).toInt = 70 := rfl
theorem i69_ : (69 : Int32).toInt = 69 := rfl
/-- a ROCK's three numbers, how many ROCKS -/
def upK (V : Nat → Int32) (k_ : Nat) (a_ b_ d_ e_ : Int32) (j_ : Nat) : Int32 := if j_ = 1 then e_ else if j_ = 10 + 3 * k_ then a_ else if j_ = 11 + 3 * k_ then b_ else if j_ = 12 + 3 * k_ then d_ else V j_
theorem upK_ne {V : Nat → Int32} {k_ j_ : Nat} {a_ b_ d_ e_ : Int32} (h1 : ¬ j_ = 1) (h2 : ¬ (10 + 3 * k_ ≤ j_ ∧ j_ ≤ 12 + 3 * k_)) : upK V k_ a_ b_ d_ e_ j_ = V j_ := by
  unfold upK
  rw [if_neg h1, if_neg (by omega), if_neg (by omega), if_neg (by omega)]
theorem upK_1 {V : Nat → Int32} {k_ : Nat} {a_ b_ d_ e_ : Int32} : upK V k_ a_ b_ d_ e_ 1 = e_ := if_pos rfl
theorem upK_a {V : Nat → Int32} {k_ : Nat} {a_ b_ d_ e_ : Int32} : upK V k_ a_ b_ d_ e_ (10 + 3 * k_ + 0) = a_ := by
  unfold upK
  rw [if_neg (by omega), if_pos (by omega)]
theorem upK_b {V : Nat → Int32} {k_ : Nat} {a_ b_ d_ e_ : Int32} : upK V k_ a_ b_ d_ e_ (10 + 3 * k_ + 1) = b_ := by
  unfold upK
  rw [if_neg (by omega), if_neg (by omega), if_pos (by omega)]
theorem upK_d {V : Nat → Int32} {k_ : Nat} {a_ b_ d_ e_ : Int32} : upK V k_ a_ b_ d_ e_ (10 + 3 * k_ + 2) = d_ := by
  unfold upK
  rw [if_neg (by omega), if_neg (by omega), if_neg (by omega), if_pos (by omega)]
def rockF (W_ : Nat → List Int32) (V : Nat → Int32) (z_ d_ : Int32) : (Nat → List Int32) × (Nat → Int32) × Int32 := if (0 ≤ z_.toInt ∧ z_.toInt < 70) ∧ (0 ≤ d_.toInt ∧ d_.toInt ≤ 20) then (if (V 1).toInt < 8 then (W_, upK V (V 1).toInt.toNat (z_ / 10) (z_ - z_ / 10 * 10) d_ (V 1 + 1), V 1 + 1 - 1) else (W_, V, Int32.ofInt (-1000004))) else (W_, V, Int32.ofInt (-1000001))
theorem r8_ {n_ : Int32} (h0 : 0 ≤ n_.toInt) (h1 : n_.toInt < 8) : ∃ c_ : Nat, c_ < 8 ∧ ((c_ : Int) = n_.toInt ∧ n_ = Int32.ofNat c_) := by
  refine ⟨n_.toInt.toNat, by omega, by omega, ?_⟩
  refine Int32.toInt_inj.mp ?_
  rw [i32n (by omega)]
  omega
theorem x_rock {W_ : Nat → List Int32} {V : Nat → Int32} {h_ : xH} {z_ d_ : Int32} (B_ : bInv bZ bIj h_) (K_ : okS W_ V) (H_ : SX W_ V h_) : ∃ h', ysm h_ h' ∧ (SX (rockF W_ V z_ d_).1 (rockF W_ V z_ d_).2.1 h' ∧ ∀ D_, 60 ≤ D_ → xrun D_ 80 0 [(0, .index 0), (1, .int z_), (2, .int d_)] [] h_ (some (.int (rockF W_ V z_ d_).2.2), h', [])) := by
  obtain ⟨y_, oy⟩ := xerr (k_ := 1) B_ (by omega)
  obtain ⟨y4, oy4⟩ := xerr (k_ := 4) B_ (by omega)
  have zz := z0_
  have z8 := i8_
  have z20 := i20_
  have z70 := i70_
  have kM := okM K_
  unfold rockF
  by_cases g_ : (0 ≤ z_.toInt ∧ z_.toInt < 70) ∧ (0 ≤ d_.toInt ∧ d_.toInt ≤ 20)
  · rw [if_pos g_]
    by_cases g2 : (V 1).toInt < 8
    · rw [if_pos g2]
      obtain ⟨c_, hc_, ec, en⟩ := r8_ kM.1 g2
      have eq_ : (V 1).toInt.toNat = c_ := by omega
      obtain ⟨s1_, s2_⟩ := rck_ok (k_ := c_) H_.1 hc_
      obtain ⟨h1, m_, e1_, e2_, e3_, e4_, f_, r_⟩ := xrkO (v1_ := z_) (v2 := d_) H_.1 s2_ (SX_v H_ (show ((1, 10), 1) ∈ wvX by decide)) (by rw [eq_]; exact s1_) ⟨by omega, by omega⟩ (by omega) (by omega) (by omega) (by omega) (by omega)
      rw [eq_]
      refine ⟨h1, m_, SX_I (D_ := fun k_ => k_ = 1 ∨ (10 + 3 * c_ ≤ k_ ∧ k_ ≤ 12 + 3 * c_)) H_ m_ (fun k_ n_ => upK_ne (by omega) (by omega)) (fun k_ hk => upK_ne (by omega) (by omega)) (fun p_ hp n_ => ?_) (fun p_ hp q_ => ?_) (fun c2_ j_ hc2 n_ => ?_), r_⟩
      · refine f_ _ _ (fun q_ => ?_) (fun q_ => ?_) (fun q_ => ?_) (fun q_ => ?_)
        · exact n_ (Or.inl ((wvX_k hp (show ((1, 10), 1) ∈ wvX by decide)).mp (Prod.ext q_.1 q_.2)))
        · have zk := (wvX_k hp (rk_in (k_ := c_) (j_ := 2) hc_ (by omega)).1).mp (Prod.ext q_.1 q_.2)
          exact n_ (Or.inr (by omega))
        · have zk := (wvX_k hp (rk_in (k_ := c_) (j_ := 1) hc_ (by omega)).1).mp (Prod.ext q_.1 q_.2)
          exact n_ (Or.inr (by omega))
        · have zk := (wvX_k hp (rk_in (k_ := c_) (j_ := 0) hc_ (by omega)).1).mp (Prod.ext q_.1 q_.2)
          exact n_ (Or.inr (by omega))
      · rcases q_ with q_ | q_
        · have zk := (wvX_k hp (show ((1, 10), 1) ∈ wvX by decide)).mpr q_
          rw [zk, q_]
          exact e1_
        · have q3_ : p_.2 = 10 + 3 * c_ + 0 ∨ (p_.2 = 10 + 3 * c_ + 1 ∨ p_.2 = 10 + 3 * c_ + 2) := by omega
          rcases q3_ with q3_ | q3_ | q3_
          · have zk := (wvX_k hp (rk_in (k_ := c_) (j_ := 0) hc_ (by omega)).1).mpr q3_
            rw [zk, q3_]
            show bpat h1 (58 + c_) 0 = some (.int (upK V c_ (z_ / 10) (z_ - z_ / 10 * 10) d_ (V 1 + 1) (10 + 3 * c_ + 0)))
            rw [upK_a]
            exact e4_
          · have zk := (wvX_k hp (rk_in (k_ := c_) (j_ := 1) hc_ (by omega)).1).mpr q3_
            rw [zk, q3_]
            show bpat h1 (58 + c_) 1 = some (.int (upK V c_ (z_ / 10) (z_ - z_ / 10 * 10) d_ (V 1 + 1) (10 + 3 * c_ + 1)))
            rw [upK_b]
            exact e3_
          · have zk := (wvX_k hp (rk_in (k_ := c_) (j_ := 2) hc_ (by omega)).1).mpr q3_
            rw [zk, q3_]
            show bpat h1 (58 + c_) 2 = some (.int (upK V c_ (z_ / 10) (z_ - z_ / 10 * 10) d_ (V 1 + 1) (10 + 3 * c_ + 2)))
            rw [upK_d]
            exact e2_
      · refine f_ _ _ (fun q_ => n_ (Or.inl q_.1)) (fun q_ => n_ (by omega)) (fun q_ => n_ (by omega)) (fun q_ => n_ (by omega))
    · rw [if_neg g2]
      obtain ⟨h1, m_, w0_, f_, r_⟩ := xrkF (v1_ := z_) (v2 := d_) H_.1 (SX_v H_ (show ((1, 10), 1) ∈ wvX by decide)) oy4 (by omega) (by omega) (by omega) (by omega) (by omega)
      exact ⟨h1, m_, SX_e H_ m_ f_, r_⟩
  · rw [if_neg g_]
    obtain ⟨h1, m_, e_⟩ := xrkE (v1_ := z_) (v2 := d_) H_.1 oy
    rcases e_ with ⟨g1, g2, g3_, g4, f_, r_⟩ | ⟨g1, w0_, f_, r_⟩ | ⟨g1, g2, w0_, f_, r_⟩ | ⟨g1, g2, g3_, w0_, f_, r_⟩ | ⟨g1, g2, g3_, g4, w0_, f_, r_⟩
    · exact absurd (by omega) g_
    · exact ⟨h1, m_, SX_e H_ m_ f_, r_⟩
    · exact ⟨h1, m_, SX_e H_ m_ f_, r_⟩
    · exact ⟨h1, m_, SX_e H_ m_ f_, r_⟩
    · exact ⟨h1, m_, SX_e H_ m_ f_, r_⟩
theorem ik2_ {k_ j_ : Nat} (hk : k_ < 8) (hj : j_ < 3) : ((10 : Int32) + 3 * Int32.ofNat k_ + Int32.ofNat j_).toInt.toNat = 10 + 3 * k_ + j_ ∧ (0 ≤ ((10 : Int32) + 3 * Int32.ofNat k_ + Int32.ofNat j_).toInt ∧ ((10 : Int32) + 3 * Int32.ofNat k_ + Int32.ofNat j_).toInt < 768) := by
  have e_ := ik_ok hk hj
  omega
theorem SM_I {W_ : Nat → List Int32} {V V' : Nat → Int32} {h_ h' : xH} {D_ : Nat → Prop} (H_ : SM W_ V h_) (K_ : lenS W_) (m_ : ysm h_ h') (hD : ∀ k_, D_ k_ → k_ < 34 ∧ ¬ k_ = 4) (hV : ∀ k_, ¬ D_ k_ → V' k_ = V k_) (f_ : ∀ c_ j_, smc c_ j_ = true → ¬ (c_ = 339 ∧ (j_ < 34 ∧ D_ (smo j_))) → bpat h' c_ j_ = bpat h_ c_ j_) (ev_ : ∀ p_ ∈ wvM, D_ p_.2 → bpat h' 339 p_.1 = some (.int (V' p_.2))) : SM W_ V' h' := SM_up (D_ := D_) H_ K_ m_ (fun c_ j_ hc_ n_ => f_ c_ j_ hc_ (fun q_ => n_ q_.1)) (fun j_ _ n_ => f_ 339 j_ rfl (fun q_ => n_ q_.2.2)) hV (fun _ _ => rfl) (fun j_ hj => ⟨rfl, hV j_ (fun q_ => by have := hD j_ q_; omega)⟩) ev_ (fun d_ => absurd rfl (hD 4 d_).2) (fun p_ hp d_ => by have := hD _ d_; omega) (fun u_ hu d_ => by have := hD _ d_; omega)
theorem m_rock {W_ : Nat → List Int32} {V : Nat → Int32} {h_ : xH} {z_ d_ : Int32} (B_ : bInv bZ bIj h_) (K_ : okS W_ V) (H_ : SM W_ V h_) : ∃ h', ysm h_ h' ∧ (SM (rockF W_ V z_ d_).1 (rockF W_ V z_ d_).2.1 h' ∧ ∀ D_, 60 ≤ D_ → xrun D_ 167 0 [(0, .index 338), (1, .int z_), (2, .int d_)] [] h_ (some (.int (rockF W_ V z_ d_).2.2), h', [])) := by
  obtain ⟨y_, oy⟩ := merr (k_ := 1) B_ (by omega)
  obtain ⟨y4, oy4⟩ := merr (k_ := 4) B_ (by omega)
  have zz := z0_
  have z8 := i8_
  have z20 := i20_
  have z69 := i69_
  have kM := okM K_
  unfold rockF
  by_cases g_ : (0 ≤ z_.toInt ∧ z_.toInt < 70) ∧ (0 ≤ d_.toInt ∧ d_.toInt ≤ 20)
  · rw [if_pos g_]
    by_cases g2 : (V 1).toInt < 8
    · rw [if_pos g2]
      obtain ⟨c_, hc_, ec, en⟩ := r8_ kM.1 g2
      have eq_ : (V 1).toInt.toNat = c_ := by omega
      obtain ⟨i0_, b0⟩ := ik2_ (k_ := c_) (j_ := 0) hc_ (by omega)
      obtain ⟨i1_, b1⟩ := ik2_ (k_ := c_) (j_ := 1) hc_ (by omega)
      obtain ⟨i2_, b2⟩ := ik2_ (k_ := c_) (j_ := 2) hc_ (by omega)
      rw [← en] at i0_ i1_ i2_ b0 b1 b2
      have i0_ : ((10 : Int32) + 3 * V 1 + 0).toInt.toNat = 10 + 3 * c_ + 0 := i0_
      have i1_ : ((10 : Int32) + 3 * V 1 + 1).toInt.toNat = 10 + 3 * c_ + 1 := i1_
      have i2_ : ((10 : Int32) + 3 * V 1 + 2).toInt.toNat = 10 + 3 * c_ + 2 := i2_
      obtain ⟨h1, m_, e1_, e2_, e3_, e4_, f_, r_⟩ := mrkO (v1_ := z_) (v2 := d_) H_.1 (SM_v H_ (show (1, 1) ∈ wvM by decide)) b0 b1 b2 (by rw [i0_]; show ¬ 10 + 3 * c_ + 0 = 1; omega) (by rw [i1_]; show ¬ 10 + 3 * c_ + 1 = 1; omega) (by rw [i2_]; show ¬ 10 + 3 * c_ + 2 = 1; omega) (by rw [i0_, i1_]; omega) (by rw [i0_, i2_]; omega) (by rw [i1_, i2_]; omega) (fun q_ => by have q2_ := congrArg Int32.toInt q_; omega) (by omega) (by omega) (by omega) (by omega)
      rw [i0_] at e4_ f_
      rw [i1_] at e3_ f_
      rw [i2_] at e2_ f_
      rw [eq_]
      have sm_ : ∀ j_, j_ < 3 → smo (10 + 3 * c_ + j_) = 10 + 3 * c_ + j_ := fun j_ hj => by
        unfold smo
        rw [if_neg (by omega), if_pos (by omega)]
      refine ⟨h1, m_, SM_I (D_ := fun k_ => k_ = 1 ∨ (10 + 3 * c_ ≤ k_ ∧ k_ ≤ 12 + 3 * c_)) H_ (lenS_ok K_) m_ (fun k_ q_ => by omega) (fun k_ n_ => upK_ne (by omega) (by omega)) (fun c2_ j_ hc2 n_ => ?_) (fun p_ hp q_ => ?_), r_⟩
      · refine f_ _ _ (fun q_ => n_ ⟨q_.1, by omega, ?_⟩) (fun q_ => n_ ⟨q_.1, by omega, ?_⟩) (fun q_ => n_ ⟨q_.1, by omega, ?_⟩) (fun q_ => n_ ⟨q_.1, by omega, ?_⟩)
        · rw [q_.2]
          exact Or.inl rfl
        · rw [q_.2, sm_ 2 (by omega)]
          exact Or.inr (by omega)
        · rw [q_.2, sm_ 1 (by omega)]
          exact Or.inr (by omega)
        · rw [q_.2, sm_ 0 (by omega)]
          exact Or.inr (by omega)
      · have w_ : wvM.all (fun p_ => !(Nat.ble 10 p_.2) || decide (p_.1 = p_.2)) = true := by decide +kernel
        have w1_ := List.all_eq_true.mp w_ p_ hp
        rcases q_ with q_ | q_
        · have w2_ : wvM.all (fun p_ => !(decide (p_.2 = 1)) || decide (p_.1 = 1)) = true := by decide +kernel
          have w3_ := List.all_eq_true.mp w2_ p_ hp
          rw [decide_eq_true q_, Bool.not_true, Bool.false_or] at w3_
          rw [of_decide_eq_true w3_, q_]
          exact e1_
        · rw [Nat.ble_eq_true_of_le (show 10 ≤ p_.2 by omega), Bool.not_true, Bool.false_or] at w1_
          rw [of_decide_eq_true w1_]
          have q3_ : p_.2 = 10 + 3 * c_ + 0 ∨ (p_.2 = 10 + 3 * c_ + 1 ∨ p_.2 = 10 + 3 * c_ + 2) := by omega
          rcases q3_ with q3_ | q3_ | q3_
          · rw [q3_]
            show bpat h1 339 (10 + 3 * c_ + 0) = some (.int (upK V c_ (z_ / 10) (z_ - z_ / 10 * 10) d_ (V 1 + 1) (10 + 3 * c_ + 0)))
            rw [upK_a]
            exact e4_
          · rw [q3_]
            show bpat h1 339 (10 + 3 * c_ + 1) = some (.int (upK V c_ (z_ / 10) (z_ - z_ / 10 * 10) d_ (V 1 + 1) (10 + 3 * c_ + 1)))
            rw [upK_b]
            exact e3_
          · rw [q3_]
            show bpat h1 339 (10 + 3 * c_ + 2) = some (.int (upK V c_ (z_ / 10) (z_ - z_ / 10 * 10) d_ (V 1 + 1) (10 + 3 * c_ + 2)))
            rw [upK_d]
            exact e2_
    · rw [if_neg g2]
      obtain ⟨h1, m_, w0_, f_, r_⟩ := mrkF (v1_ := z_) (v2 := d_) H_.1 (SM_v H_ (show (1, 1) ∈ wvM by decide)) oy4 (Int32.toInt_inj.mp (by omega)) (by omega) (by omega) (by omega) (by omega)
      exact ⟨h1, m_, SM_e H_ m_ f_, r_⟩
  · rw [if_neg g_]
    obtain ⟨h1, m_, e_⟩ := mrkE (v1_ := z_) (v2 := d_) H_.1 oy
    rcases e_ with ⟨g1, g2, g3_, g4, f_, r_⟩ | ⟨g1, w0_, f_, r_⟩ | ⟨g1, g2, w0_, f_, r_⟩ | ⟨g1, g2, g3_, w0_, f_, r_⟩ | ⟨g1, g2, g3_, g4, w0_, f_, r_⟩
    · exact absurd (by omega) g_
    · exact ⟨h1, m_, SM_e H_ m_ f_, r_⟩
    · exact ⟨h1, m_, SM_e H_ m_ f_, r_⟩
    · exact ⟨h1, m_, SM_e H_ m_ f_, r_⟩
    · exact ⟨h1, m_, SM_e H_ m_ f_, r_⟩
