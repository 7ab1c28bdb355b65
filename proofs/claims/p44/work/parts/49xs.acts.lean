-- ===== feed
-- xfdE: 64 steps, 1 ends, 3 returns
def xfdE_L : List (Nat × Nat × Nat) := []
def xfdE_O : yO := [(0, .int 13, .index 323), (323, .int 1, .arg 400), (0, .int 0, .index 1), (1, .int 3, .index 5), (5, .int 1, .arg 310), (323, .int 4, .arg 401)]
def xfdE_A : yA := (yZ xfdE_L, [], [], [], [])
def xfdE_C : List xB := []
def xfdE_ss : List yS := [(43, [(4, .int 0), (0, .index 0), (1, .arg 50), (3, .arg 3)], [], [(0, .int 13, .index 323), (323, .int 1, .arg 400), (0, .int 0, .index 1), (1, .int 3, .index 5), (5, .int 1, .arg 310), (323, .int 4, .arg 401)], [(.le, .add (.arg 310) (.arg 3), .int 60, true), (.le, .arg 3, .int 8, true), (.lt, .arg 3, .int 1, false)], [])]
def xfdE_rs : List yR := [(some (.int (Int32.ofInt (-1000001))), [(323, .int 1, .add (.arg 400) (.int 1)), (0, .int 13, .index 323), (0, .int 0, .index 1), (1, .int 3, .index 5), (5, .int 1, .arg 310), (323, .int 4, .arg 401)], [(.lt, .arg 3, .int 1, true)], [(323, .int 1)]),
  (some (.int (Int32.ofInt (-1000004))), [(323, .int 4, .add (.arg 401) (.int 1)), (0, .int 13, .index 323), (323, .int 1, .arg 400), (0, .int 0, .index 1), (1, .int 3, .index 5), (5, .int 1, .arg 310)], [(.le, .add (.arg 310) (.arg 3), .int 60, false), (.le, .arg 3, .int 8, true), (.lt, .arg 3, .int 1, false)], [(323, .int 4)]),
  (some (.int (Int32.ofInt (-1000001))), [(323, .int 1, .add (.arg 400) (.int 1)), (0, .int 13, .index 323), (0, .int 0, .index 1), (1, .int 3, .index 5), (5, .int 1, .arg 310), (323, .int 4, .arg 401)], [(.le, .arg 3, .int 8, false), (.lt, .arg 3, .int 1, false)], [(323, .int 1)])]
theorem xfdE_w : ywa xfdE_A xfdE_ss xfdE_rs = true := by decide +kernel
theorem xfdE_k : yis (yev xfdE_A 3000 60 84 [43] (0, [(0, .index 0), (1, .arg 50), (3, .arg 3)], [], xfdE_O, xfdE_C, [])) xfdE_ss xfdE_rs = true := by decide +kernel
def xfdE_r (v3 v310 v400 v401 : Int32) (w50 : Int64) (k_ : Nat) : Value := bif Nat.beq k_ 50 then .long w50 else (bif Nat.beq k_ 3 then .int v3 else (bif Nat.beq k_ 310 then .int v310 else (bif Nat.beq k_ 400 then .int v400 else (bif Nat.beq k_ 401 then .int v401 else (.int 0)))))
def xfdE_s (n_ : Nat) : Nat := 0
theorem xfdE {h_ : xH} {v3 v310 v400 v401 : Int32} {w50 : Int64} (hs : sHp h_) (o0_ : bpat h_ 323 1 = some (.int v400)) (o1 : bpat h_ 5 1 = some (.int v310)) (o2 : bpat h_ 323 4 = some (.int v401)) : ∃ h', ysm h_ h' ∧ ((((v310 + v3).toInt ≤ (60 : Int32).toInt) ∧ (v3.toInt ≤ (8 : Int32).toInt) ∧ ((1 : Int32).toInt ≤ v3.toInt) ∧ (∀ a_ j_ : Nat, bpat h' a_ j_ = bpat h_ a_ j_) ∧ (bldD 60 84 0 [(0, .index 0), (1, .long w50), (3, .int v3)] [] h_ 43 [(4, .int (0 : Int32)), (0, .index 0), (1, .long w50), (3, .int v3)] [] h'))
  ∨ ((v3.toInt < (1 : Int32).toInt) ∧ (bpat h' 323 1 = some (.int (v400 + (1 : Int32)))) ∧ (∀ a_ j_ : Nat, ¬ (a_ = 323 ∧ j_ = 1) → bpat h' a_ j_ = bpat h_ a_ j_) ∧ (∀ D_, 60 ≤ D_ → xrun D_ 84 0 [(0, .index 0), (1, .long w50), (3, .int v3)] [] h_ (some (.int (Int32.ofInt (-1000001))), h', [])))
  ∨ (((60 : Int32).toInt < (v310 + v3).toInt) ∧ (v3.toInt ≤ (8 : Int32).toInt) ∧ ((1 : Int32).toInt ≤ v3.toInt) ∧ (bpat h' 323 4 = some (.int (v401 + (1 : Int32)))) ∧ (∀ a_ j_ : Nat, ¬ (a_ = 323 ∧ j_ = 4) → bpat h' a_ j_ = bpat h_ a_ j_) ∧ (∀ D_, 60 ≤ D_ → xrun D_ 84 0 [(0, .index 0), (1, .long w50), (3, .int v3)] [] h_ (some (.int (Int32.ofInt (-1000004))), h', [])))
  ∨ (((8 : Int32).toInt < v3.toInt) ∧ ((1 : Int32).toInt ≤ v3.toInt) ∧ (bpat h' 323 1 = some (.int (v400 + (1 : Int32)))) ∧ (∀ a_ j_ : Nat, ¬ (a_ = 323 ∧ j_ = 1) → bpat h' a_ j_ = bpat h_ a_ j_) ∧ (∀ D_, 60 ≤ D_ → xrun D_ 84 0 [(0, .index 0), (1, .long w50), (3, .int v3)] [] h_ (some (.int (Int32.ofInt (-1000001))), h', [])))) := by
  have hA : yas xfdE_A (xfdE_r v3 v310 v400 v401 w50) (yg xfdE_s) := ⟨fun q_ hq => absurd hq List.not_mem_nil, fun q_ hq => absurd hq List.not_mem_nil, fun q_ hq => absurd hq List.not_mem_nil, fun n_ hn => yg_lo hn, fun q_ hq => absurd hq List.not_mem_nil⟩
  have Hs : ysh xfdE_A.1 (yg xfdE_s) h_ := ysh_of2 hs (fun q_ hq => absurd hq List.not_mem_nil)
  have Ho : ymem (xfdE_r v3 v310 v400 v401 w50) (yg xfdE_s) xfdE_O h_ := List.forall_mem_cons.mpr ⟨bpat_some (fxr_at hs.2 (show fxk fxl 0 13 = some 323 by decide +kernel)), List.forall_mem_cons.mpr ⟨bpat_some o0_, List.forall_mem_cons.mpr ⟨bpat_some (fxr_at hs.2 (show fxk fxl 0 0 = some 1 by decide +kernel)), List.forall_mem_cons.mpr ⟨bpat_some (fxr_at hs.2 (show fxk fxl 1 3 = some 5 by decide +kernel)), List.forall_mem_cons.mpr ⟨bpat_some o1, List.forall_mem_cons.mpr ⟨bpat_some o2, fun q_ hq => absurd hq List.not_mem_nil⟩⟩⟩⟩⟩⟩
  have HC : ∀ q_ ∈ xfdE_C, xhold (xfdE_r v3 v310 v400 v401 w50) q_ := fun q_ hq => absurd hq List.not_mem_nil
  rcases yrun (yis_ok xfdE_k) hA Hs Ho HC with ⟨q_, hq, h', K_, G_⟩ | ⟨q_, hq, h', K_, G_⟩
  · have e_ := List.mem_singleton.mp hq
    subst e_
    exact ⟨h', yfr_sm K_.2.2.2 hs K_.1 (ywa_s xfdE_w List.mem_cons_self), Or.inl (⟨xq_leT (yv_add2 rfl rfl) rfl (K_.2.2.1 _ List.mem_cons_self), xq_leT rfl rfl (K_.2.2.1 _ (List.mem_cons_of_mem _ List.mem_cons_self)), xq_ltF rfl rfl (K_.2.2.1 _ (List.mem_cons_of_mem _ (List.mem_cons_of_mem _ List.mem_cons_self))), fun a_ j_ => yfr_bp K_.2.2.2 (fun q_ hq => absurd hq List.not_mem_nil), G_⟩)⟩
  · rcases List.mem_cons.mp hq with e_ | hq
    · subst e_
      exact ⟨h', yfr_sm K_.2.2.2 hs K_.1 (ywa_r xfdE_w List.mem_cons_self), Or.inr (Or.inl (⟨xq_ltT rfl rfl (K_.2.2.1 _ List.mem_cons_self), bpat_of (K_.2.1 _ List.mem_cons_self), fun a_ j_ n0_ => yfr_bp K_.2.2.2 (List.forall_mem_cons.mpr ⟨fun e_ => n0_ ⟨e_.1.symm, e_.2.symm⟩, fun q_ hq => absurd hq List.not_mem_nil⟩), G_⟩))⟩
    rcases List.mem_cons.mp hq with e_ | hq
    · subst e_
      exact ⟨h', yfr_sm K_.2.2.2 hs K_.1 (ywa_r xfdE_w (List.mem_cons_of_mem _ List.mem_cons_self)), Or.inr (Or.inr (Or.inl (⟨xq_leF (yv_add2 rfl rfl) rfl (K_.2.2.1 _ List.mem_cons_self), xq_leT rfl rfl (K_.2.2.1 _ (List.mem_cons_of_mem _ List.mem_cons_self)), xq_ltF rfl rfl (K_.2.2.1 _ (List.mem_cons_of_mem _ (List.mem_cons_of_mem _ List.mem_cons_self))), bpat_of (K_.2.1 _ List.mem_cons_self), fun a_ j_ n0_ => yfr_bp K_.2.2.2 (List.forall_mem_cons.mpr ⟨fun e_ => n0_ ⟨e_.1.symm, e_.2.symm⟩, fun q_ hq => absurd hq List.not_mem_nil⟩), G_⟩)))⟩
    have e_ := List.mem_singleton.mp hq
    subst e_
    exact ⟨h', yfr_sm K_.2.2.2 hs K_.1 (ywa_r xfdE_w (List.mem_cons_of_mem _ (List.mem_cons_of_mem _ List.mem_cons_self))), Or.inr (Or.inr (Or.inr (⟨xq_leF rfl rfl (K_.2.2.1 _ List.mem_cons_self), xq_ltF rfl rfl (K_.2.2.1 _ (List.mem_cons_of_mem _ List.mem_cons_self)), bpat_of (K_.2.1 _ List.mem_cons_self), fun a_ j_ n0_ => yfr_bp K_.2.2.2 (List.forall_mem_cons.mpr ⟨fun e_ => n0_ ⟨e_.1.symm, e_.2.symm⟩, fun q_ hq => absurd hq List.not_mem_nil⟩), G_⟩)))⟩
-- xfdL: 38 steps, 1 ends, 0 returns
def xfdL_L : List (Nat × Nat × Nat) := []
def xfdL_O : yO := [(0, .int 0, .index 1), (1, .int 3, .index 5), (5, .int 1, .arg 310), (5, .int 0, .index 6)]
def xfdL_A : yA := (yZ xfdL_L, [(.arg 310, 60)], [], [], [])
def xfdL_C : List xB := [(.lt, .arg 4, .arg 3, true), (.lt, .arg 310, .int 60, true)]
def xfdL_ss : List yS := [(43, [(4, .add (.arg 4) (.int 1)), (0, .index 0), (1, .arg 50), (3, .arg 3)], [], [(5, .int 1, .add (.arg 310) (.int 1)), (6, .arg 310, .op2 .iand (.op1 .l2i (.op2 .lushr (.arg 50) (.mul (.int 8) (.arg 4)))) (.int 255)), (0, .int 0, .index 1), (1, .int 3, .index 5), (5, .int 0, .index 6)], [(.lt, .arg 4, .arg 3, true), (.lt, .arg 310, .int 60, true)], [(5, .int 1), (6, .arg 310)])]
def xfdL_rs : List yR := []
theorem xfdL_w : ywa xfdL_A xfdL_ss xfdL_rs = true := by decide +kernel
theorem xfdL_k : yis (yev xfdL_A 3000 60 84 [43] (43, [(4, .arg 4), (0, .index 0), (1, .arg 50), (3, .arg 3)], [], xfdL_O, xfdL_C, [])) xfdL_ss xfdL_rs = true := by decide +kernel
def xfdL_r (v3 v4_ v310 : Int32) (w50 : Int64) (k_ : Nat) : Value := bif Nat.beq k_ 50 then .long w50 else (bif Nat.beq k_ 3 then .int v3 else (bif Nat.beq k_ 4 then .int v4_ else (bif Nat.beq k_ 310 then .int v310 else (.int 0))))
def xfdL_s (n_ : Nat) : Nat := 0
theorem xfdL {h_ : xH} {v3 v4_ v310 : Int32} {w50 : Int64} (hs : sHp h_) (o0_ : bpat h_ 5 1 = some (.int v310)) (b0 : 0 ≤ (v310).toInt ∧ (v310).toInt < 60) (c0_ : v4_.toInt < v3.toInt) (c1_ : v310.toInt < (60 : Int32).toInt) : ∃ h', ysm h_ h' ∧ (((bpat h' 5 1 = some (.int (v310 + (1 : Int32)))) ∧ (bpat h' 6 (v310).toInt.toNat = some (.int ((((w50).toUInt64 >>> ((((8 : Int32) * v4_)).toInt64.toUInt64 &&& Int64.toUInt64 63)).toInt64).toInt32 &&& (255 : Int32)))) ∧ (∀ a_ j_ : Nat, ¬ (a_ = 5 ∧ j_ = 1) → ¬ (a_ = 6 ∧ j_ = (v310).toInt.toNat) → bpat h' a_ j_ = bpat h_ a_ j_) ∧ (bldD 60 84 43 [(4, .int v4_), (0, .index 0), (1, .long w50), (3, .int v3)] [] h_ 43 [(4, .int (v4_ + (1 : Int32))), (0, .index 0), (1, .long w50), (3, .int v3)] [] h'))) := by
  have hA : yas xfdL_A (xfdL_r v3 v4_ v310 w50) (yg xfdL_s) := ⟨List.forall_mem_cons.mpr ⟨b0, fun q_ hq => absurd hq List.not_mem_nil⟩, fun q_ hq => absurd hq List.not_mem_nil, fun q_ hq => absurd hq List.not_mem_nil, fun n_ hn => yg_lo hn, fun q_ hq => absurd hq List.not_mem_nil⟩
  have Hs : ysh xfdL_A.1 (yg xfdL_s) h_ := ysh_of2 hs (fun q_ hq => absurd hq List.not_mem_nil)
  have Ho : ymem (xfdL_r v3 v4_ v310 w50) (yg xfdL_s) xfdL_O h_ := List.forall_mem_cons.mpr ⟨bpat_some (fxr_at hs.2 (show fxk fxl 0 0 = some 1 by decide +kernel)), List.forall_mem_cons.mpr ⟨bpat_some (fxr_at hs.2 (show fxk fxl 1 3 = some 5 by decide +kernel)), List.forall_mem_cons.mpr ⟨bpat_some o0_, List.forall_mem_cons.mpr ⟨bpat_some (fxr_at hs.2 (show fxk fxl 5 0 = some 6 by decide +kernel)), fun q_ hq => absurd hq List.not_mem_nil⟩⟩⟩⟩
  have HC : ∀ q_ ∈ xfdL_C, xhold (xfdL_r v3 v4_ v310 w50) q_ := List.forall_mem_cons.mpr ⟨xh_ltT c0_, List.forall_mem_cons.mpr ⟨xh_ltT c1_, fun q_ hq => absurd hq List.not_mem_nil⟩⟩
  rcases yrun (yis_ok xfdL_k) hA Hs Ho HC with ⟨q_, hq, h', K_, G_⟩ | ⟨q_, hq, h', K_, G_⟩
  · have e_ := List.mem_singleton.mp hq
    subst e_
    exact ⟨h', yfr_sm K_.2.2.2 hs K_.1 (ywa_s xfdL_w List.mem_cons_self), ⟨bpat_of (K_.2.1 _ List.mem_cons_self), bpat_of (K_.2.1 _ (List.mem_cons_of_mem _ List.mem_cons_self)), fun a_ j_ n0_ n1_ => yfr_bp K_.2.2.2 (List.forall_mem_cons.mpr ⟨fun e_ => n0_ ⟨e_.1.symm, e_.2.symm⟩, List.forall_mem_cons.mpr ⟨fun e_ => n1_ ⟨e_.1.symm, e_.2.symm⟩, fun q_ hq => absurd hq List.not_mem_nil⟩⟩), G_⟩⟩
  · cases hq
-- xfdR: 8 steps, 0 ends, 1 returns
def xfdR_L : List (Nat × Nat × Nat) := []
def xfdR_O : yO := [(0, .int 0, .index 1), (1, .int 3, .index 5), (5, .int 1, .arg 310)]
def xfdR_A : yA := (yZ xfdR_L, [], [], [], [])
def xfdR_C : List xB := [(.lt, .arg 4, .arg 3, false)]
def xfdR_ss : List yS := []
def xfdR_rs : List yR := [(some (.arg 310), [(0, .int 0, .index 1), (1, .int 3, .index 5), (5, .int 1, .arg 310)], [(.lt, .arg 4, .arg 3, false)], [])]
theorem xfdR_w : ywa xfdR_A xfdR_ss xfdR_rs = true := by decide +kernel
theorem xfdR_k : yis (yev xfdR_A 3000 60 84 [] (43, [(4, .arg 4), (0, .index 0), (1, .arg 50), (3, .arg 3)], [], xfdR_O, xfdR_C, [])) xfdR_ss xfdR_rs = true := by decide +kernel
def xfdR_r (v3 v4_ v310 : Int32) (w50 : Int64) (k_ : Nat) : Value := bif Nat.beq k_ 50 then .long w50 else (bif Nat.beq k_ 3 then .int v3 else (bif Nat.beq k_ 4 then .int v4_ else (bif Nat.beq k_ 310 then .int v310 else (.int 0))))
def xfdR_s (n_ : Nat) : Nat := 0
theorem xfdR {h_ : xH} {v3 v4_ v310 : Int32} {w50 : Int64} (hs : sHp h_) (o0_ : bpat h_ 5 1 = some (.int v310)) (c0_ : v3.toInt ≤ v4_.toInt) : ∃ h', ysm h_ h' ∧ (((∀ a_ j_ : Nat, bpat h' a_ j_ = bpat h_ a_ j_) ∧ (∀ D_, 60 ≤ D_ → xrun D_ 84 43 [(4, .int v4_), (0, .index 0), (1, .long w50), (3, .int v3)] [] h_ (some (.int v310), h', [])))) := by
  have hA : yas xfdR_A (xfdR_r v3 v4_ v310 w50) (yg xfdR_s) := ⟨fun q_ hq => absurd hq List.not_mem_nil, fun q_ hq => absurd hq List.not_mem_nil, fun q_ hq => absurd hq List.not_mem_nil, fun n_ hn => yg_lo hn, fun q_ hq => absurd hq List.not_mem_nil⟩
  have Hs : ysh xfdR_A.1 (yg xfdR_s) h_ := ysh_of2 hs (fun q_ hq => absurd hq List.not_mem_nil)
  have Ho : ymem (xfdR_r v3 v4_ v310 w50) (yg xfdR_s) xfdR_O h_ := List.forall_mem_cons.mpr ⟨bpat_some (fxr_at hs.2 (show fxk fxl 0 0 = some 1 by decide +kernel)), List.forall_mem_cons.mpr ⟨bpat_some (fxr_at hs.2 (show fxk fxl 1 3 = some 5 by decide +kernel)), List.forall_mem_cons.mpr ⟨bpat_some o0_, fun q_ hq => absurd hq List.not_mem_nil⟩⟩⟩
  have HC : ∀ q_ ∈ xfdR_C, xhold (xfdR_r v3 v4_ v310 w50) q_ := List.forall_mem_cons.mpr ⟨xh_ltF c0_, fun q_ hq => absurd hq List.not_mem_nil⟩
  rcases yrun (yis_ok xfdR_k) hA Hs Ho HC with ⟨q_, hq, h', K_, G_⟩ | ⟨q_, hq, h', K_, G_⟩
  · cases hq
  · have e_ := List.mem_singleton.mp hq
    subst e_
    exact ⟨h', yfr_sm K_.2.2.2 hs K_.1 (ywa_r xfdR_w List.mem_cons_self), ⟨fun a_ j_ => yfr_bp K_.2.2.2 (fun q_ hq => absurd hq List.not_mem_nil), G_⟩⟩
-- mfdE: 78 steps, 1 ends, 3 returns
def mfdE_L : List (Nat × Nat × Nat) := []
def mfdE_O : yO := [(338, .int 3, .index 341), (341, .int 1, .arg 400), (338, .int 0, .index 339), (339, .int 6, .arg 310), (341, .int 4, .arg 401)]
def mfdE_A : yA := (yZ mfdE_L, [], [], [], [])
def mfdE_C : List xB := []
def mfdE_ss : List yS := [(39, [(4, .int 0), (0, .index 338), (1, .arg 50), (3, .arg 3)], [], [(338, .int 3, .index 341), (341, .int 1, .arg 400), (338, .int 0, .index 339), (339, .int 6, .arg 310), (341, .int 4, .arg 401)], [(.le, .add (.arg 310) (.arg 3), .int 60, true), (.le, .arg 3, .int 8, true), (.lt, .arg 3, .int 1, false)], [])]
def mfdE_rs : List yR := [(some (.int (Int32.ofInt (-1000001))), [(341, .int 1, .add (.arg 400) (.int 1)), (338, .int 3, .index 341), (338, .int 0, .index 339), (339, .int 6, .arg 310), (341, .int 4, .arg 401)], [(.lt, .arg 3, .int 1, true)], [(341, .int 1)]),
  (some (.int (Int32.ofInt (-1000001))), [(341, .int 1, .add (.arg 400) (.int 1)), (338, .int 3, .index 341), (338, .int 0, .index 339), (339, .int 6, .arg 310), (341, .int 4, .arg 401)], [(.le, .arg 3, .int 8, false), (.lt, .arg 3, .int 1, false)], [(341, .int 1)]),
  (some (.int (Int32.ofInt (-1000004))), [(341, .int 4, .add (.arg 401) (.int 1)), (338, .int 3, .index 341), (341, .int 1, .arg 400), (338, .int 0, .index 339), (339, .int 6, .arg 310)], [(.le, .add (.arg 310) (.arg 3), .int 60, false), (.le, .arg 3, .int 8, true), (.lt, .arg 3, .int 1, false)], [(341, .int 4)])]
theorem mfdE_w : ywa mfdE_A mfdE_ss mfdE_rs = true := by decide +kernel
theorem mfdE_k : yis (yev mfdE_A 3000 60 172 [39] (0, [(0, .index 338), (1, .arg 50), (3, .arg 3)], [], mfdE_O, mfdE_C, [])) mfdE_ss mfdE_rs = true := by decide +kernel
def mfdE_r (v3 v310 v400 v401 : Int32) (w50 : Int64) (k_ : Nat) : Value := bif Nat.beq k_ 50 then .long w50 else (bif Nat.beq k_ 3 then .int v3 else (bif Nat.beq k_ 310 then .int v310 else (bif Nat.beq k_ 400 then .int v400 else (bif Nat.beq k_ 401 then .int v401 else (.int 0)))))
def mfdE_s (n_ : Nat) : Nat := 0
theorem mfdE {h_ : xH} {v3 v310 v400 v401 : Int32} {w50 : Int64} (hs : sHp h_) (o0_ : bpat h_ 341 1 = some (.int v400)) (o1 : bpat h_ 339 6 = some (.int v310)) (o2 : bpat h_ 341 4 = some (.int v401)) : ∃ h', ysm h_ h' ∧ ((((v310 + v3).toInt ≤ (60 : Int32).toInt) ∧ (v3.toInt ≤ (8 : Int32).toInt) ∧ ((1 : Int32).toInt ≤ v3.toInt) ∧ (∀ a_ j_ : Nat, bpat h' a_ j_ = bpat h_ a_ j_) ∧ (bldD 60 172 0 [(0, .index 338), (1, .long w50), (3, .int v3)] [] h_ 39 [(4, .int (0 : Int32)), (0, .index 338), (1, .long w50), (3, .int v3)] [] h'))
  ∨ ((v3.toInt < (1 : Int32).toInt) ∧ (bpat h' 341 1 = some (.int (v400 + (1 : Int32)))) ∧ (∀ a_ j_ : Nat, ¬ (a_ = 341 ∧ j_ = 1) → bpat h' a_ j_ = bpat h_ a_ j_) ∧ (∀ D_, 60 ≤ D_ → xrun D_ 172 0 [(0, .index 338), (1, .long w50), (3, .int v3)] [] h_ (some (.int (Int32.ofInt (-1000001))), h', [])))
  ∨ (((8 : Int32).toInt < v3.toInt) ∧ ((1 : Int32).toInt ≤ v3.toInt) ∧ (bpat h' 341 1 = some (.int (v400 + (1 : Int32)))) ∧ (∀ a_ j_ : Nat, ¬ (a_ = 341 ∧ j_ = 1) → bpat h' a_ j_ = bpat h_ a_ j_) ∧ (∀ D_, 60 ≤ D_ → xrun D_ 172 0 [(0, .index 338), (1, .long w50), (3, .int v3)] [] h_ (some (.int (Int32.ofInt (-1000001))), h', [])))
  ∨ (((60 : Int32).toInt < (v310 + v3).toInt) ∧ (v3.toInt ≤ (8 : Int32).toInt) ∧ ((1 : Int32).toInt ≤ v3.toInt) ∧ (bpat h' 341 4 = some (.int (v401 + (1 : Int32)))) ∧ (∀ a_ j_ : Nat, ¬ (a_ = 341 ∧ j_ = 4) → bpat h' a_ j_ = bpat h_ a_ j_) ∧ (∀ D_, 60 ≤ D_ → xrun D_ 172 0 [(0, .index 338), (1, .long w50), (3, .int v3)] [] h_ (some (.int (Int32.ofInt (-1000004))), h', [])))) := by
  have hA : yas mfdE_A (mfdE_r v3 v310 v400 v401 w50) (yg mfdE_s) := ⟨fun q_ hq => absurd hq List.not_mem_nil, fun q_ hq => absurd hq List.not_mem_nil, fun q_ hq => absurd hq List.not_mem_nil, fun n_ hn => yg_lo hn, fun q_ hq => absurd hq List.not_mem_nil⟩
  have Hs : ysh mfdE_A.1 (yg mfdE_s) h_ := ysh_of2 hs (fun q_ hq => absurd hq List.not_mem_nil)
  have Ho : ymem (mfdE_r v3 v310 v400 v401 w50) (yg mfdE_s) mfdE_O h_ := List.forall_mem_cons.mpr ⟨bpat_some (fxr_at hs.2 (show fxk fxl 338 3 = some 341 by decide +kernel)), List.forall_mem_cons.mpr ⟨bpat_some o0_, List.forall_mem_cons.mpr ⟨bpat_some (fxr_at hs.2 (show fxk fxl 338 0 = some 339 by decide +kernel)), List.forall_mem_cons.mpr ⟨bpat_some o1, List.forall_mem_cons.mpr ⟨bpat_some o2, fun q_ hq => absurd hq List.not_mem_nil⟩⟩⟩⟩⟩
  have HC : ∀ q_ ∈ mfdE_C, xhold (mfdE_r v3 v310 v400 v401 w50) q_ := fun q_ hq => absurd hq List.not_mem_nil
  rcases yrun (yis_ok mfdE_k) hA Hs Ho HC with ⟨q_, hq, h', K_, G_⟩ | ⟨q_, hq, h', K_, G_⟩
  · have e_ := List.mem_singleton.mp hq
    subst e_
    exact ⟨h', yfr_sm K_.2.2.2 hs K_.1 (ywa_s mfdE_w List.mem_cons_self), Or.inl (⟨xq_leT (yv_add2 rfl rfl) rfl (K_.2.2.1 _ List.mem_cons_self), xq_leT rfl rfl (K_.2.2.1 _ (List.mem_cons_of_mem _ List.mem_cons_self)), xq_ltF rfl rfl (K_.2.2.1 _ (List.mem_cons_of_mem _ (List.mem_cons_of_mem _ List.mem_cons_self))), fun a_ j_ => yfr_bp K_.2.2.2 (fun q_ hq => absurd hq List.not_mem_nil), G_⟩)⟩
  · rcases List.mem_cons.mp hq with e_ | hq
    · subst e_
      exact ⟨h', yfr_sm K_.2.2.2 hs K_.1 (ywa_r mfdE_w List.mem_cons_self), Or.inr (Or.inl (⟨xq_ltT rfl rfl (K_.2.2.1 _ List.mem_cons_self), bpat_of (K_.2.1 _ List.mem_cons_self), fun a_ j_ n0_ => yfr_bp K_.2.2.2 (List.forall_mem_cons.mpr ⟨fun e_ => n0_ ⟨e_.1.symm, e_.2.symm⟩, fun q_ hq => absurd hq List.not_mem_nil⟩), G_⟩))⟩
    rcases List.mem_cons.mp hq with e_ | hq
    · subst e_
      exact ⟨h', yfr_sm K_.2.2.2 hs K_.1 (ywa_r mfdE_w (List.mem_cons_of_mem _ List.mem_cons_self)), Or.inr (Or.inr (Or.inl (⟨xq_leF rfl rfl (K_.2.2.1 _ List.mem_cons_self), xq_ltF rfl rfl (K_.2.2.1 _ (List.mem_cons_of_mem _ List.mem_cons_self)), bpat_of (K_.2.1 _ List.mem_cons_self), fun a_ j_ n0_ => yfr_bp K_.2.2.2 (List.forall_mem_cons.mpr ⟨fun e_ => n0_ ⟨e_.1.symm, e_.2.symm⟩, fun q_ hq => absurd hq List.not_mem_nil⟩), G_⟩)))⟩
    have e_ := List.mem_singleton.mp hq
    subst e_
    exact ⟨h', yfr_sm K_.2.2.2 hs K_.1 (ywa_r mfdE_w (List.mem_cons_of_mem _ (List.mem_cons_of_mem _ List.mem_cons_self))), Or.inr (Or.inr (Or.inr (⟨xq_leF (yv_add2 rfl rfl) rfl (K_.2.2.1 _ List.mem_cons_self), xq_leT rfl rfl (K_.2.2.1 _ (List.mem_cons_of_mem _ List.mem_cons_self)), xq_ltF rfl rfl (K_.2.2.1 _ (List.mem_cons_of_mem _ (List.mem_cons_of_mem _ List.mem_cons_self))), bpat_of (K_.2.1 _ List.mem_cons_self), fun a_ j_ n0_ => yfr_bp K_.2.2.2 (List.forall_mem_cons.mpr ⟨fun e_ => n0_ ⟨e_.1.symm, e_.2.symm⟩, fun q_ hq => absurd hq List.not_mem_nil⟩), G_⟩)))⟩
-- mfdL: 30 steps, 1 ends, 0 returns
def mfdL_L : List (Nat × Nat × Nat) := []
def mfdL_O : yO := [(338, .int 0, .index 339), (339, .int 6, .arg 310)]
def mfdL_A : yA := (yZ mfdL_L, [(.add (.int 684) (.arg 310), 768)], [(.add (.int 684) (.arg 310), .int 6)], [], [])
def mfdL_C : List xB := [(.lt, .arg 4, .arg 3, true)]
def mfdL_ss : List yS := [(39, [(4, .add (.arg 4) (.int 1)), (0, .index 338), (1, .arg 50), (3, .arg 3)], [], [(339, .int 6, .add (.arg 310) (.int 1)), (339, .add (.int 684) (.arg 310), .op1 .l2i (.op2 .land (.op2 .lshr (.arg 50) (.mul (.int 8) (.arg 4))) (.long 255))), (338, .int 0, .index 339)], [(.lt, .arg 4, .arg 3, true)], [(339, .int 6), (339, .add (.int 684) (.arg 310))])]
def mfdL_rs : List yR := []
theorem mfdL_w : ywa mfdL_A mfdL_ss mfdL_rs = true := by decide +kernel
theorem mfdL_k : yis (yev mfdL_A 3000 60 172 [39] (39, [(4, .arg 4), (0, .index 338), (1, .arg 50), (3, .arg 3)], [], mfdL_O, mfdL_C, [])) mfdL_ss mfdL_rs = true := by decide +kernel
def mfdL_r (v3 v4_ v310 : Int32) (w50 : Int64) (k_ : Nat) : Value := bif Nat.beq k_ 50 then .long w50 else (bif Nat.beq k_ 3 then .int v3 else (bif Nat.beq k_ 4 then .int v4_ else (bif Nat.beq k_ 310 then .int v310 else (.int 0))))
def mfdL_s (n_ : Nat) : Nat := 0
theorem mfdL {h_ : xH} {v3 v4_ v310 : Int32} {w50 : Int64} (hs : sHp h_) (o0_ : bpat h_ 339 6 = some (.int v310)) (b0 : 0 ≤ (((684 : Int32) + v310)).toInt ∧ (((684 : Int32) + v310)).toInt < 768) (x0_ : ¬ (((684 : Int32) + v310)).toInt.toNat = 6) (c0_ : v4_.toInt < v3.toInt) : ∃ h', ysm h_ h' ∧ (((bpat h' 339 6 = some (.int (v310 + (1 : Int32)))) ∧ (bpat h' 339 (((684 : Int32) + v310)).toInt.toNat = some (.int (((w50 >>> ((((8 : Int32) * v4_)).toInt64 &&& 63)) &&& (255 : Int64))).toInt32)) ∧ (∀ a_ j_ : Nat, ¬ (a_ = 339 ∧ j_ = 6) → ¬ (a_ = 339 ∧ j_ = (((684 : Int32) + v310)).toInt.toNat) → bpat h' a_ j_ = bpat h_ a_ j_) ∧ (bldD 60 172 39 [(4, .int v4_), (0, .index 338), (1, .long w50), (3, .int v3)] [] h_ 39 [(4, .int (v4_ + (1 : Int32))), (0, .index 338), (1, .long w50), (3, .int v3)] [] h'))) := by
  have hA : yas mfdL_A (mfdL_r v3 v4_ v310 w50) (yg mfdL_s) := ⟨List.forall_mem_cons.mpr ⟨b0, fun q_ hq => absurd hq List.not_mem_nil⟩, List.forall_mem_cons.mpr ⟨x0_, fun q_ hq => absurd hq List.not_mem_nil⟩, fun q_ hq => absurd hq List.not_mem_nil, fun n_ hn => yg_lo hn, fun q_ hq => absurd hq List.not_mem_nil⟩
  have Hs : ysh mfdL_A.1 (yg mfdL_s) h_ := ysh_of2 hs (fun q_ hq => absurd hq List.not_mem_nil)
  have Ho : ymem (mfdL_r v3 v4_ v310 w50) (yg mfdL_s) mfdL_O h_ := List.forall_mem_cons.mpr ⟨bpat_some (fxr_at hs.2 (show fxk fxl 338 0 = some 339 by decide +kernel)), List.forall_mem_cons.mpr ⟨bpat_some o0_, fun q_ hq => absurd hq List.not_mem_nil⟩⟩
  have HC : ∀ q_ ∈ mfdL_C, xhold (mfdL_r v3 v4_ v310 w50) q_ := List.forall_mem_cons.mpr ⟨xh_ltT c0_, fun q_ hq => absurd hq List.not_mem_nil⟩
  rcases yrun (yis_ok mfdL_k) hA Hs Ho HC with ⟨q_, hq, h', K_, G_⟩ | ⟨q_, hq, h', K_, G_⟩
  · have e_ := List.mem_singleton.mp hq
    subst e_
    exact ⟨h', yfr_sm K_.2.2.2 hs K_.1 (ywa_s mfdL_w List.mem_cons_self), ⟨bpat_of (K_.2.1 _ List.mem_cons_self), bpat_of (K_.2.1 _ (List.mem_cons_of_mem _ List.mem_cons_self)), fun a_ j_ n0_ n1_ => yfr_bp K_.2.2.2 (List.forall_mem_cons.mpr ⟨fun e_ => n0_ ⟨e_.1.symm, e_.2.symm⟩, List.forall_mem_cons.mpr ⟨fun e_ => n1_ ⟨e_.1.symm, e_.2.symm⟩, fun q_ hq => absurd hq List.not_mem_nil⟩⟩), G_⟩⟩
  · cases hq
-- mfdR: 8 steps, 0 ends, 1 returns
def mfdR_L : List (Nat × Nat × Nat) := []
def mfdR_O : yO := [(338, .int 0, .index 339), (339, .int 6, .arg 310)]
def mfdR_A : yA := (yZ mfdR_L, [], [], [], [])
def mfdR_C : List xB := [(.lt, .arg 4, .arg 3, false)]
def mfdR_ss : List yS := []
def mfdR_rs : List yR := [(some (.arg 310), [(338, .int 0, .index 339), (339, .int 6, .arg 310)], [(.lt, .arg 4, .arg 3, false)], [])]
theorem mfdR_w : ywa mfdR_A mfdR_ss mfdR_rs = true := by decide +kernel
theorem mfdR_k : yis (yev mfdR_A 3000 60 172 [] (39, [(4, .arg 4), (0, .index 338), (1, .arg 50), (3, .arg 3)], [], mfdR_O, mfdR_C, [])) mfdR_ss mfdR_rs = true := by decide +kernel
def mfdR_r (v3 v4_ v310 : Int32) (w50 : Int64) (k_ : Nat) : Value := bif Nat.beq k_ 50 then .long w50 else (bif Nat.beq k_ 3 then .int v3 else (bif Nat.beq k_ 4 then .int v4_ else (bif Nat.beq k_ 310 then .int v310 else (.int 0))))
def mfdR_s (n_ : Nat) : Nat := 0
theorem mfdR {h_ : xH} {v3 v4_ v310 : Int32} {w50 : Int64} (hs : sHp h_) (o0_ : bpat h_ 339 6 = some (.int v310)) (c0_ : v3.toInt ≤ v4_.toInt) : ∃ h', ysm h_ h' ∧ (((∀ a_ j_ : Nat, bpat h' a_ j_ = bpat h_ a_ j_) ∧ (∀ D_, 60 ≤ D_ → xrun D_ 172 39 [(4, .int v4_), (0, .index 338), (1, .long w50), (3, .int v3)] [] h_ (some (.int v310), h', [])))) := by
  have hA : yas mfdR_A (mfdR_r v3 v4_ v310 w50) (yg mfdR_s) := ⟨fun q_ hq => absurd hq List.not_mem_nil, fun q_ hq => absurd hq List.not_mem_nil, fun q_ hq => absurd hq List.not_mem_nil, fun n_ hn => yg_lo hn, fun q_ hq => absurd hq List.not_mem_nil⟩
  have Hs : ysh mfdR_A.1 (yg mfdR_s) h_ := ysh_of2 hs (fun q_ hq => absurd hq List.not_mem_nil)
  have Ho : ymem (mfdR_r v3 v4_ v310 w50) (yg mfdR_s) mfdR_O h_ := List.forall_mem_cons.mpr ⟨bpat_some (fxr_at hs.2 (show fxk fxl 338 0 = some 339 by decide +kernel)), List.forall_mem_cons.mpr ⟨bpat_some o0_, fun q_ hq => absurd hq List.not_mem_nil⟩⟩
  have HC : ∀ q_ ∈ mfdR_C, xhold (mfdR_r v3 v4_ v310 w50) q_ := List.forall_mem_cons.mpr ⟨xh_ltF c0_, fun q_ hq => absurd hq List.not_mem_nil⟩
  rcases yrun (yis_ok mfdR_k) hA Hs Ho HC with ⟨q_, hq, h', K_, G_⟩ | ⟨q_, hq, h', K_, G_⟩
  · cases hq
  · have e_ := List.mem_singleton.mp hq
    subst e_
    exact ⟨h', yfr_sm K_.2.2.2 hs K_.1 (ywa_r mfdR_w List.mem_cons_self), ⟨fun a_ j_ => yfr_bp K_.2.2.2 (fun q_ hq => absurd hq List.not_mem_nil), G_⟩⟩
theorem upR_up {W_ : Nat → List Int32} {k_ : Nat} {l m_ : List Int32} : upR (upR W_ k_ l) k_ m_ = upR W_ k_ m_ := funext fun j_ => by
  unfold upR
  by_cases e_ : j_ = k_
  · rw [if_pos e_, if_pos e_]
  · rw [if_neg e_, if_neg e_, if_neg e_]
/-- a byte of the word: as the class, as the reference -/
def fbx (X_ : Int64) (i_ : Int32) : Int32 := ((((X_).toUInt64 >>> ((((8 : Int32) * i_)).toInt64.toUInt64 &&& Int64.toUInt64 63)).toInt64).toInt32 &&& (255 : Int32))
def fbm (X_ : Int64) (i_ : Int32) : Int32 := (((X_ >>> ((((8 : Int32) * i_)).toInt64 &&& 63)) &&& (255 : Int64))).toInt32
theorem fb_eq : ∀ (X_ : Int64) (k_ : Nat), k_ < 8 → fbm X_ (Int32.ofNat k_) = fbx X_ (Int32.ofNat k_) := by
  intro X_ k_ hk
  have c_ : ∀ (x_ : BitVec 64) (n_ : Nat), n_ ≤ 56 → ((x_.sshiftRight n_) &&& 255#64).signExtend 32 = ((x_ >>> n_).signExtend 32) &&& 255#32 := fun x_ n_ hn => by
    refine BitVec.eq_of_getLsbD_eq fun i_ hi_ => ?_
    have c1_ : (255#64).getLsbD i_ = decide (i_ < 8) := by
      have k_ : (List.range 32).all (fun i_ => (255#64).getLsbD i_ == decide (i_ < 8)) = true := by decide +kernel
      exact beq_iff_eq.mp (List.all_eq_true.mp k_ i_ (List.mem_range.mpr hi_))
    have c2_ : (255#32).getLsbD i_ = decide (i_ < 8) := by
      have k_ : (List.range 32).all (fun i_ => (255#32).getLsbD i_ == decide (i_ < 8)) = true := by decide +kernel
      exact beq_iff_eq.mp (List.all_eq_true.mp k_ i_ (List.mem_range.mpr hi_))
    rw [BitVec.getLsbD_signExtend, if_pos (show i_ < 64 by omega), BitVec.getLsbD_and, BitVec.getLsbD_and, BitVec.getLsbD_signExtend, if_pos (show i_ < 64 by omega), BitVec.getLsbD_ushiftRight, BitVec.getLsbD_sshiftRight, c1_, c2_]
    by_cases g_ : i_ < 8
    · rw [decide_eq_true g_, decide_eq_true hi_, Bool.and_true, Bool.and_true, Bool.true_and, Bool.true_and, if_pos (by omega), decide_eq_false (show ¬ 64 ≤ i_ by omega)]
      rfl
    · rw [decide_eq_false g_, Bool.and_false, Bool.and_false, Bool.and_false]
  have e_ : k_ = 0 ∨ (k_ = 1 ∨ (k_ = 2 ∨ (k_ = 3 ∨ (k_ = 4 ∨ (k_ = 5 ∨ (k_ = 6 ∨ k_ = 7)))))) := by omega
  unfold fbm fbx
  rcases e_ with rfl | rfl | rfl | rfl | rfl | rfl | rfl | rfl
  · exact congrArg (fun b_ => Int32.ofBitVec b_) (c_ X_.toBitVec 0 (by omega))
  · exact congrArg (fun b_ => Int32.ofBitVec b_) (c_ X_.toBitVec 8 (by omega))
  · exact congrArg (fun b_ => Int32.ofBitVec b_) (c_ X_.toBitVec 16 (by omega))
  · exact congrArg (fun b_ => Int32.ofBitVec b_) (c_ X_.toBitVec 24 (by omega))
  · exact congrArg (fun b_ => Int32.ofBitVec b_) (c_ X_.toBitVec 32 (by omega))
  · exact congrArg (fun b_ => Int32.ofBitVec b_) (c_ X_.toBitVec 40 (by omega))
  · exact congrArg (fun b_ => Int32.ofBitVec b_) (c_ X_.toBitVec 48 (by omega))
  · exact congrArg (fun b_ => Int32.ofBitVec b_) (c_ X_.toBitVec 56 (by omega))
def fbl (X_ : Int64) (k_ : Nat) : List Int32 := (List.range k_).map (fun i_ => fbx X_ (Int32.ofNat i_))
theorem fbl_s (X_ : Int64) (k_ : Nat) : fbl X_ (k_ + 1) = fbl X_ k_ ++ [fbx X_ (Int32.ofNat k_)] := by
  unfold fbl
  rw [List.range_succ, List.map_append]
  rfl
theorem fbl_len (X_ : Int64) (k_ : Nat) : (fbl X_ k_).length = k_ := by
  unfold fbl
  rw [List.length_map, List.length_range]
theorem fbx_b (X_ : Int64) (i_ : Int32) : i3b (fbx X_ i_) 255 := by
  unfold fbx
  exact bi_and (show (0 : Int) ≤ (255 : Int32).toInt by decide)
theorem xfd_loop {W_ : Nat → List Int32} {V : Nat → Int32} {X_ : Int64} {L_ : List Int32} {n_ : Nat} (hn : n_ ≤ 8) (hl : L_.length + n_ ≤ 60) : ∀ (m_ i_ : Nat) (h_ : xH), i_ + m_ = n_ → SX (upR W_ 20 (L_ ++ fbl X_ i_)) V h_ → ∃ h', ysm h_ h' ∧ (SX (upR W_ 20 (L_ ++ fbl X_ n_)) V h' ∧ ∀ D_, 60 ≤ D_ → xrun D_ 84 43 [(4, .int (Int32.ofNat i_)), (0, .index 0), (1, .long X_), (3, .int (Int32.ofNat n_))] [] h_ (some (.int (Int32.ofNat (L_.length + n_))), h', [])) := by
  intro m_
  induction m_ with
  | zero =>
    intro i_ h_ e_ H_
    have e_ : i_ = n_ := by omega
    subst e_
    have ll : (L_ ++ fbl X_ i_).length = L_.length + i_ := by rw [List.length_append, fbl_len]
    have R_ : rwx h_ 5 6 60 (L_ ++ fbl X_ i_) := by
      have R_ := SX_w H_ (show (5, 6, 60, 20) ∈ wrX by decide)
      rw [upR_eq] at R_
      exact R_
    have o5_ := R_.2.1.2
    rw [ll] at o5_
    obtain ⟨h1, m1_, f_, r_⟩ := xfdR (v3 := Int32.ofNat i_) (v4_ := Int32.ofNat i_) (w50 := X_) H_.1 o5_ (Int.le_refl _)
    exact ⟨h1, m1_, SX_fr H_ m1_ (fun c_ j_ _ => f_ c_ j_), r_⟩
  | succ m_ ih_ =>
    intro i_ h_ e_ H_
    have i1_ := i32n (i_ := i_) (by omega)
    have n1_ := i32n (i_ := n_) (by omega)
    have ll : (L_ ++ fbl X_ i_).length = L_.length + i_ := by rw [List.length_append, fbl_len]
    have il := i32n (i_ := L_.length + i_) (by omega)
    have R_ : rwx h_ 5 6 60 (L_ ++ fbl X_ i_) := by
      have R_ := SX_w H_ (show (5, 6, 60, 20) ∈ wrX by decide)
      rw [upR_eq] at R_
      exact R_
    have o5_ := R_.2.1.2
    rw [ll] at o5_
    have z6 : (60 : Int32).toInt = 60 := rfl
    obtain ⟨h1, m1_, e1_, e2_, f_, ld⟩ := xfdL (v3 := Int32.ofNat n_) (v4_ := Int32.ofNat i_) (w50 := X_) H_.1 o5_ ⟨by rw [il]; omega, by rw [il]; omega⟩ (by rw [i1_, n1_]; omega) (by rw [il, z6]; omega)
    have R1 : rwx h1 5 6 60 ((L_ ++ fbl X_ i_) ++ [fbx X_ (Int32.ofNat i_)]) := rwx_one R_ (by rw [ll]; omega) m1_ (by rw [ll]; exact e1_) (by rw [ll]; exact e2_) (by omega) (by rw [ll]; exact f_)
    have H1_ := SX_r H_ m1_ (show (5, 6, 60, 20) ∈ wrX by decide) R1 (fun c2_ j_ _ n1_ n2_ => f_ c2_ j_ (fun q_ => n1_ q_.1) (fun q_ => n2_ q_.1))
    rw [upR_up, List.append_assoc, ← fbl_s] at H1_
    rw [i32s] at ld
    obtain ⟨h2, m2_, H2_, r2⟩ := ih_ (i_ + 1) h1 (by omega) H1_
    exact ⟨h2, ysm_tr m1_ m2_, H2_, fun D_ hD => ld D_ hD _ (r2 D_ hD)⟩
noncomputable def feedF (W_ : Nat → List Int32) (V : Nat → Int32) (X_ : Int64) (n_ : Int32) : (Nat → List Int32) × (Nat → Int32) × Int32 := pif (1 ≤ n_.toInt ∧ n_.toInt ≤ 8) (pif (((W_ 20).length : Int) + n_.toInt ≤ 60) (upR W_ 20 (W_ 20 ++ fbl X_ n_.toInt.toNat), V, Int32.ofNat ((W_ 20).length + n_.toInt.toNat)) (W_, V, Int32.ofInt (-1000004))) (W_, V, Int32.ofInt (-1000001))
theorem upR_self {W_ : Nat → List Int32} {k_ : Nat} : upR W_ k_ (W_ k_) = W_ := funext fun j_ => by
  unfold upR
  by_cases e_ : j_ = k_
  · rw [if_pos e_, e_]
  · rw [if_neg e_]
theorem x_feed {W_ : Nat → List Int32} {V : Nat → Int32} {h_ : xH} {X_ : Int64} {n_ : Int32} (B_ : bInv bZ bIj h_) (K_ : okS W_ V) (H_ : SX W_ V h_) : ∃ h', ysm h_ h' ∧ (SX (feedF W_ V X_ n_).1 (feedF W_ V X_ n_).2.1 h' ∧ ∀ D_, 60 ≤ D_ → xrun D_ 84 0 [(0, .index 0), (1, .long X_), (3, .int n_)] [] h_ (some (.int (feedF W_ V X_ n_).2.2), h', [])) := by
  obtain ⟨y_, oy⟩ := xerr (k_ := 1) B_ (by omega)
  obtain ⟨y4, oy4⟩ := xerr (k_ := 4) B_ (by omega)
  have R_ : rwx h_ 5 6 60 (W_ 20) := SX_w H_ (by decide)
  have hl : (W_ 20).length ≤ 60 := R_.2.2.1
  have il := i32n (i_ := (W_ 20).length) (by omega)
  have z1 : (1 : Int32).toInt = 1 := rfl
  have z8 : (8 : Int32).toInt = 8 := rfl
  have z6 : (60 : Int32).toInt = 60 := rfl
  unfold feedF
  obtain ⟨h1, m1_, e_⟩ := xfdE (v3 := n_) (w50 := X_) H_.1 oy R_.2.1.2 oy4
  have sm_ : n_.toInt ≤ 8 → 1 ≤ n_.toInt → (Int32.ofNat (W_ 20).length + n_).toInt = ((W_ 20).length : Int) + n_.toInt := fun g1 g2 => by
    rw [Int32.toInt_add, il, xbm32 (by omega) (by omega)]
  rcases e_ with ⟨g1, g2, g3_, f_, ld⟩ | ⟨g1, w0_, f_, r_⟩ | ⟨g1, g2, g3_, w0_, f_, r_⟩ | ⟨g1, g2, w0_, f_, r_⟩
  · have s1_ := sm_ (by omega) (by omega)
    rw [pif_t ⟨by omega, by omega⟩, pif_t (by omega)]
    have H1_ := SX_fr H_ m1_ (fun c_ j_ _ => f_ c_ j_)
    rw [← upR_self (W_ := W_) (k_ := 20), show W_ 20 = W_ 20 ++ fbl X_ 0 from (List.append_nil _).symm] at H1_
    have en : n_ = Int32.ofNat n_.toInt.toNat := Int32.toInt_inj.mp (by rw [i32n (by omega)]; omega)
    obtain ⟨h2, m2_, H2_, r2⟩ := xfd_loop (W_ := upR W_ 20 (W_ 20 ++ fbl X_ 0)) (V := V) (X_ := X_) (L_ := W_ 20) (n_ := n_.toInt.toNat) (by omega) (by omega) n_.toInt.toNat 0 h1 (by omega) (by rw [upR_up]; exact H1_)
    rw [upR_up] at H2_
    rw [← en] at r2
    exact ⟨h2, ysm_tr m1_ m2_, H2_, fun D_ hD => ld D_ hD _ (r2 D_ hD)⟩
  · rw [pif_f (fun q_ => by omega)]
    exact ⟨h1, m1_, SX_e H_ m1_ f_, r_⟩
  · have s1_ := sm_ (by omega) (by omega)
    rw [pif_t ⟨by omega, by omega⟩, pif_f (by omega)]
    exact ⟨h1, m1_, SX_e H_ m1_ f_, r_⟩
  · rw [pif_f (fun q_ => by omega)]
    exact ⟨h1, m1_, SX_e H_ m1_ f_, r_⟩
theorem fbl_b (X_ : Int64) : ∀ k_ : Nat, ∀ y_ ∈ fbl X_ k_, i3b y_ 255 := by
  intro k_ y_ hy
  obtain ⟨i_, -, rfl⟩ := List.mem_map.mp hy
  exact fbx_b _ _
theorem i684 {n_ : Nat} : ((684 : Int32) + Int32.ofNat n_) = Int32.ofNat (684 + n_) := i32p 684 n_
theorem mfd_loop {W_ : Nat → List Int32} {V : Nat → Int32} {X_ : Int64} {L_ : List Int32} {n_ : Nat} (K_ : okS W_ V) (hn : n_ ≤ 8) (hl : L_.length + n_ ≤ 60) (hb_ : ∀ y_ ∈ L_, i3b y_ 255) : ∀ (m_ i_ : Nat) (h_ : xH), i_ + m_ = n_ → SM (upR W_ 20 (L_ ++ fbl X_ i_)) V h_ → ∃ h', ysm h_ h' ∧ (SM (upR W_ 20 (L_ ++ fbl X_ n_)) V h' ∧ ∀ D_, 60 ≤ D_ → xrun D_ 172 39 [(4, .int (Int32.ofNat i_)), (0, .index 338), (1, .long X_), (3, .int (Int32.ofNat n_))] [] h_ (some (.int (Int32.ofNat (L_.length + n_))), h', [])) := by
  intro m_
  induction m_ with
  | zero =>
    intro i_ h_ e_ H_
    have e_ : i_ = n_ := by omega
    subst e_
    have ll : (L_ ++ fbl X_ i_).length = L_.length + i_ := by rw [List.length_append, fbl_len]
    have R_ := SM_w H_ (show (6, 684, 1, 60, 20) ∈ wrM by decide)
    rw [upR_eq] at R_
    have o5_ := R_.1
    rw [ll] at o5_
    obtain ⟨h1, m1_, f_, r_⟩ := mfdR (v3 := Int32.ofNat i_) (v4_ := Int32.ofNat i_) (w50 := X_) H_.1 o5_ (Int.le_refl _)
    exact ⟨h1, m1_, SM_fr H_ m1_ (fun c_ j_ _ => f_ c_ j_), r_⟩
  | succ m_ ih_ =>
    intro i_ h_ e_ H_
    have i1_ := i32n (i_ := i_) (by omega)
    have n1_ := i32n (i_ := n_) (by omega)
    have ll : (L_ ++ fbl X_ i_).length = L_.length + i_ := by rw [List.length_append, fbl_len]
    have il := i32n (i_ := L_.length + i_) (by omega)
    have R_ := SM_w H_ (show (6, 684, 1, 60, 20) ∈ wrM by decide)
    rw [upR_eq] at R_
    have o5_ := R_.1
    rw [ll] at o5_
    have K1 : okS (upR W_ 20 (L_ ++ fbl X_ i_)) V := okS_tape K_ ⟨by rw [ll]; omega, fun y_ hy => by
      rcases List.mem_append.mp hy with hy | hy
      · exact hb_ y_ hy
      · exact fbl_b X_ i_ y_ hy⟩
    have ie : ((684 : Int32) + Int32.ofNat (L_.length + i_)) = Int32.ofNat (684 + (L_.length + i_)) := i684
    have ix : ((684 : Int32) + Int32.ofNat (L_.length + i_)).toInt.toNat = 684 + (L_.length + i_) := by rw [ie, i32t (by omega)]
    have ib : ((684 : Int32) + Int32.ofNat (L_.length + i_)).toInt = ((684 + (L_.length + i_) : Nat) : Int) := by rw [ie, i32n (by omega)]
    obtain ⟨h1, m1_, e1_, e2_, f_, ld⟩ := mfdL (v3 := Int32.ofNat n_) (v4_ := Int32.ofNat i_) (w50 := X_) H_.1 o5_ ⟨by rw [ib]; omega, by rw [ib]; omega⟩ (by rw [ix]; show ¬ 684 + (L_.length + i_) = 6; omega) (by rw [i1_, n1_]; omega)
    rw [ix] at e2_ f_
    rw [i32s] at e1_ ld
    have e2_ : bpat h1 339 (684 + (L_.length + i_)) = some (.int (fbm X_ (Int32.ofNat i_))) := e2_
    rw [fb_eq X_ i_ (by omega)] at e2_
    have H1_ := SM_r H_ (lenS_ok K1) m1_ (show (6, 684, 1, 60, 20) ∈ wrM by decide) (rwq_one (n_ := 60) R_ (by rw [ll]; omega) (by rw [ll]; exact e1_) (by rw [Nat.one_mul, ll]; exact e2_) (fun j_ hj => f_ _ _ (fun q_ => by have q_ := q_.2; omega) (fun q_ => by have q_ := q_.2; rw [ll] at hj; omega))) (fun c2_ j_ _ n2_ => f_ c2_ j_ (fun q_ => n2_ ⟨q_.1, by rw [q_.2]; rfl⟩) (fun q_ => n2_ ⟨q_.1, by
      rw [q_.2]
      unfold smo
      rw [if_neg (by omega), if_neg (by omega), if_neg (by omega), if_neg (by omega), if_neg (by omega), if_neg (by omega), if_neg (by omega), if_pos (by omega)]⟩))
    rw [upR_up, List.append_assoc, ← fbl_s] at H1_
    obtain ⟨h2, m2_, H2_, r2⟩ := ih_ (i_ + 1) h1 (by omega) H1_
    exact ⟨h2, ysm_tr m1_ m2_, H2_, fun D_ hD => ld D_ hD _ (r2 D_ hD)⟩
theorem m_feed {W_ : Nat → List Int32} {V : Nat → Int32} {h_ : xH} {X_ : Int64} {n_ : Int32} (B_ : bInv bZ bIj h_) (K_ : okS W_ V) (H_ : SM W_ V h_) : ∃ h', ysm h_ h' ∧ (SM (feedF W_ V X_ n_).1 (feedF W_ V X_ n_).2.1 h' ∧ ∀ D_, 60 ≤ D_ → xrun D_ 172 0 [(0, .index 338), (1, .long X_), (3, .int n_)] [] h_ (some (.int (feedF W_ V X_ n_).2.2), h', [])) := by
  obtain ⟨y_, oy⟩ := merr (k_ := 1) B_ (by omega)
  obtain ⟨y4, oy4⟩ := merr (k_ := 4) B_ (by omega)
  have R_ := SM_w H_ (show (6, 684, 1, 60, 20) ∈ wrM by decide)
  have hl : (W_ 20).length ≤ 60 := K_.1.2.2.2.1.1
  have il := i32n (i_ := (W_ 20).length) (by omega)
  have z1 : (1 : Int32).toInt = 1 := rfl
  have z8 : (8 : Int32).toInt = 8 := rfl
  have z6 : (60 : Int32).toInt = 60 := rfl
  unfold feedF
  obtain ⟨h1, m1_, e_⟩ := mfdE (v3 := n_) (w50 := X_) H_.1 oy R_.1 oy4
  have sm_ : n_.toInt ≤ 8 → 1 ≤ n_.toInt → (Int32.ofNat (W_ 20).length + n_).toInt = ((W_ 20).length : Int) + n_.toInt := fun g1 g2 => by
    rw [Int32.toInt_add, il, xbm32 (by omega) (by omega)]
  rcases e_ with ⟨g1, g2, g3_, f_, ld⟩ | ⟨g1, w0_, f_, r_⟩ | ⟨g1, g2, w0_, f_, r_⟩ | ⟨g1, g2, g3_, w0_, f_, r_⟩
  · have s1_ := sm_ (by omega) (by omega)
    rw [pif_t ⟨by omega, by omega⟩, pif_t (by omega)]
    have H1_ := SM_fr H_ m1_ (fun c_ j_ _ => f_ c_ j_)
    rw [← upR_self (W_ := W_) (k_ := 20), show W_ 20 = W_ 20 ++ fbl X_ 0 from (List.append_nil _).symm] at H1_
    have en : n_ = Int32.ofNat n_.toInt.toNat := Int32.toInt_inj.mp (by rw [i32n (by omega)]; omega)
    obtain ⟨h2, m2_, H2_, r2⟩ := mfd_loop (W_ := W_) (V := V) (X_ := X_) (L_ := W_ 20) (n_ := n_.toInt.toNat) K_ (by omega) (by omega) K_.1.2.2.2.1.2 n_.toInt.toNat 0 h1 (by omega) H1_
    rw [← en] at r2
    exact ⟨h2, ysm_tr m1_ m2_, H2_, fun D_ hD => ld D_ hD _ (r2 D_ hD)⟩
  · rw [pif_f (fun q_ => by omega)]
    exact ⟨h1, m1_, SM_e H_ m1_ f_, r_⟩
  · rw [pif_f (fun q_ => by omega)]
    exact ⟨h1, m1_, SM_e H_ m1_ f_, r_⟩
  · have s1_ := sm_ (by omega) (by omega)
    rw [pif_t ⟨by omega, by omega⟩, pif_f (by omega)]
    exact ⟨h1, m1_, SM_e H_ m1_ f_, r_⟩
theorem ok_feed {W_ : Nat → List Int32} {V : Nat → Int32} (K_ : okS W_ V) (X_ : Int64) (n_ : Int32) : okS (feedF W_ V X_ n_).1 (feedF W_ V X_ n_).2.1 := by
  unfold feedF
  by_cases g_ : 1 ≤ n_.toInt ∧ n_.toInt ≤ 8
  · rw [pif_t g_]
    by_cases g2 : ((W_ 20).length : Int) + n_.toInt ≤ 60
    · rw [pif_t g2]
      refine okS_tape K_ ⟨by rw [List.length_append, fbl_len]; omega, fun y_ hy => ?_⟩
      rcases List.mem_append.mp hy with hy | hy
      · exact K_.1.2.2.2.1.2 y_ hy
      · exact fbl_b X_ _ y_ hy
    · rw [pif_f g2]
      exact K_
  · rw [pif_f g_]
    exact K_
