-- ===== echoes, the reference
-- mlgE0: 8 steps, 1 ends, 0 returns
def mlgE0_L : List (Nat × Nat × Nat) := []
def mlgE0_O : yO := [(338, .int 0, .index 339), (339, .int 4, .arg 304)]
def mlgE0_A : yA := (yZ mlgE0_L, [], [], [], [])
def mlgE0_C : List xB := [(.eq, .arg 304, .int 8, false)]
def mlgE0_ss : List yS := [(57, [(2, .int 0), (0, .index 338), (1, .arg 1)], [], [(338, .int 0, .index 339), (339, .int 4, .arg 304)], [(.eq, .arg 304, .int 8, false)], [])]
def mlgE0_rs : List yR := []
theorem mlgE0_w : ywa mlgE0_A mlgE0_ss mlgE0_rs = true := by decide +kernel
theorem mlgE0_k : yis (yev mlgE0_A 3000 60 209 [57] (0, [(0, .index 338), (1, .arg 1)], [], mlgE0_O, mlgE0_C, [])) mlgE0_ss mlgE0_rs = true := by decide +kernel
def mlgE0_r (v1_ v304 : Int32) (k_ : Nat) : Value := bif Nat.beq k_ 1 then .int v1_ else (bif Nat.beq k_ 304 then .int v304 else (.int 0))
def mlgE0_s (n_ : Nat) : Nat := 0
theorem mlgE0 {h_ : xH} {v1_ v304 : Int32} (hs : sHp h_) (o0_ : bpat h_ 339 4 = some (.int v304)) (c0_ : ¬ v304 = (8 : Int32)) : ∃ h', ysm h_ h' ∧ (((∀ a_ j_ : Nat, bpat h' a_ j_ = bpat h_ a_ j_) ∧ (bldD 60 209 0 [(0, .index 338), (1, .int v1_)] [] h_ 57 [(2, .int (0 : Int32)), (0, .index 338), (1, .int v1_)] [] h'))) := by
  have hA : yas mlgE0_A (mlgE0_r v1_ v304) (yg mlgE0_s) := ⟨fun q_ hq => absurd hq List.not_mem_nil, fun q_ hq => absurd hq List.not_mem_nil, fun q_ hq => absurd hq List.not_mem_nil, fun n_ hn => yg_lo hn, fun q_ hq => absurd hq List.not_mem_nil⟩
  have Hs : ysh mlgE0_A.1 (yg mlgE0_s) h_ := ysh_of2 hs (fun q_ hq => absurd hq List.not_mem_nil)
  have Ho : ymem (mlgE0_r v1_ v304) (yg mlgE0_s) mlgE0_O h_ := List.forall_mem_cons.mpr ⟨bpat_some (fxr_at hs.2 (show fxk fxl 338 0 = some 339 by decide +kernel)), List.forall_mem_cons.mpr ⟨bpat_some o0_, fun q_ hq => absurd hq List.not_mem_nil⟩⟩
  have HC : ∀ q_ ∈ mlgE0_C, xhold (mlgE0_r v1_ v304) q_ := List.forall_mem_cons.mpr ⟨xh_eqF2 c0_, fun q_ hq => absurd hq List.not_mem_nil⟩
  rcases yrun (yis_ok mlgE0_k) hA Hs Ho HC with ⟨q_, hq, h', K_, G_⟩ | ⟨q_, hq, h', K_, G_⟩
  · have e_ := List.mem_singleton.mp hq
    subst e_
    exact ⟨h', yfr_sm K_.2.2.2 hs K_.1 (ywa_s mlgE0_w List.mem_cons_self), ⟨fun a_ j_ => yfr_bp K_.2.2.2 (fun q_ hq => absurd hq List.not_mem_nil), G_⟩⟩
  · cases hq
-- mlgE1: 8 steps, 1 ends, 0 returns
def mlgE1_L : List (Nat × Nat × Nat) := []
def mlgE1_O : yO := [(338, .int 0, .index 339), (339, .int 4, .arg 304)]
def mlgE1_A : yA := (yZ mlgE1_L, [], [], [], [])
def mlgE1_C : List xB := [(.eq, .arg 304, .int 8, true)]
def mlgE1_ss : List yS := [(13, [(2, .int 0), (0, .index 338), (1, .arg 1)], [], [(338, .int 0, .index 339), (339, .int 4, .arg 304)], [(.eq, .arg 304, .int 8, true)], [])]
def mlgE1_rs : List yR := []
theorem mlgE1_w : ywa mlgE1_A mlgE1_ss mlgE1_rs = true := by decide +kernel
theorem mlgE1_k : yis (yev mlgE1_A 3000 60 209 [13] (0, [(0, .index 338), (1, .arg 1)], [], mlgE1_O, mlgE1_C, [])) mlgE1_ss mlgE1_rs = true := by decide +kernel
def mlgE1_r (v1_ v304 : Int32) (k_ : Nat) : Value := bif Nat.beq k_ 1 then .int v1_ else (bif Nat.beq k_ 304 then .int v304 else (.int 0))
def mlgE1_s (n_ : Nat) : Nat := 0
theorem mlgE1 {h_ : xH} {v1_ v304 : Int32} (hs : sHp h_) (o0_ : bpat h_ 339 4 = some (.int v304)) (c0_ : v304 = (8 : Int32)) : ∃ h', ysm h_ h' ∧ (((∀ a_ j_ : Nat, bpat h' a_ j_ = bpat h_ a_ j_) ∧ (bldD 60 209 0 [(0, .index 338), (1, .int v1_)] [] h_ 13 [(2, .int (0 : Int32)), (0, .index 338), (1, .int v1_)] [] h'))) := by
  have hA : yas mlgE1_A (mlgE1_r v1_ v304) (yg mlgE1_s) := ⟨fun q_ hq => absurd hq List.not_mem_nil, fun q_ hq => absurd hq List.not_mem_nil, fun q_ hq => absurd hq List.not_mem_nil, fun n_ hn => yg_lo hn, fun q_ hq => absurd hq List.not_mem_nil⟩
  have Hs : ysh mlgE1_A.1 (yg mlgE1_s) h_ := ysh_of2 hs (fun q_ hq => absurd hq List.not_mem_nil)
  have Ho : ymem (mlgE1_r v1_ v304) (yg mlgE1_s) mlgE1_O h_ := List.forall_mem_cons.mpr ⟨bpat_some (fxr_at hs.2 (show fxk fxl 338 0 = some 339 by decide +kernel)), List.forall_mem_cons.mpr ⟨bpat_some o0_, fun q_ hq => absurd hq List.not_mem_nil⟩⟩
  have HC : ∀ q_ ∈ mlgE1_C, xhold (mlgE1_r v1_ v304) q_ := List.forall_mem_cons.mpr ⟨xh_eqT2 c0_, fun q_ hq => absurd hq List.not_mem_nil⟩
  rcases yrun (yis_ok mlgE1_k) hA Hs Ho HC with ⟨q_, hq, h', K_, G_⟩ | ⟨q_, hq, h', K_, G_⟩
  · have e_ := List.mem_singleton.mp hq
    subst e_
    exact ⟨h', yfr_sm K_.2.2.2 hs K_.1 (ywa_s mlgE1_w List.mem_cons_self), ⟨fun a_ j_ => yfr_bp K_.2.2.2 (fun q_ hq => absurd hq List.not_mem_nil), G_⟩⟩
  · cases hq
-- mlgM: 17 steps, 1 ends, 0 returns
def mlgM_L : List (Nat × Nat × Nat) := []
def mlgM_O : yO := [(338, .int 0, .index 339), (339, .add (.int 343) (.arg 2), .arg 301)]
def mlgM_A : yA := (yZ mlgM_L, [(.add (.int 330) (.arg 2), 768), (.add (.int 343) (.arg 2), 768)], [], [], [])
def mlgM_C : List xB := [(.lt, .arg 2, .int 91, true)]
def mlgM_ss : List yS := [(13, [(2, .add (.arg 2) (.int 1)), (0, .index 338), (1, .arg 1)], [], [(339, .add (.int 330) (.arg 2), .arg 301), (338, .int 0, .index 339)], [(.lt, .arg 2, .int 91, true)], [(339, .add (.int 330) (.arg 2))])]
def mlgM_rs : List yR := []
theorem mlgM_w : ywa mlgM_A mlgM_ss mlgM_rs = true := by decide +kernel
theorem mlgM_k : yis (yev mlgM_A 3000 60 209 [13] (13, [(2, .arg 2), (0, .index 338), (1, .arg 1)], [], mlgM_O, mlgM_C, [])) mlgM_ss mlgM_rs = true := by decide +kernel
def mlgM_r (v1_ v2 v301 : Int32) (k_ : Nat) : Value := bif Nat.beq k_ 1 then .int v1_ else (bif Nat.beq k_ 2 then .int v2 else (bif Nat.beq k_ 301 then .int v301 else (.int 0)))
def mlgM_s (n_ : Nat) : Nat := 0
theorem mlgM {h_ : xH} {v1_ v2 v301 : Int32} (hs : sHp h_) (o0_ : bpat h_ 339 (((343 : Int32) + v2)).toInt.toNat = some (.int v301)) (b0 : 0 ≤ (((330 : Int32) + v2)).toInt ∧ (((330 : Int32) + v2)).toInt < 768) (b1 : 0 ≤ (((343 : Int32) + v2)).toInt ∧ (((343 : Int32) + v2)).toInt < 768) (c0_ : v2.toInt < (91 : Int32).toInt) : ∃ h', ysm h_ h' ∧ (((bpat h' 339 (((330 : Int32) + v2)).toInt.toNat = some (.int v301)) ∧ (∀ a_ j_ : Nat, ¬ (a_ = 339 ∧ j_ = (((330 : Int32) + v2)).toInt.toNat) → bpat h' a_ j_ = bpat h_ a_ j_) ∧ (bldD 60 209 13 [(2, .int v2), (0, .index 338), (1, .int v1_)] [] h_ 13 [(2, .int (v2 + (1 : Int32))), (0, .index 338), (1, .int v1_)] [] h'))) := by
  have hA : yas mlgM_A (mlgM_r v1_ v2 v301) (yg mlgM_s) := ⟨List.forall_mem_cons.mpr ⟨b0, List.forall_mem_cons.mpr ⟨b1, fun q_ hq => absurd hq List.not_mem_nil⟩⟩, fun q_ hq => absurd hq List.not_mem_nil, fun q_ hq => absurd hq List.not_mem_nil, fun n_ hn => yg_lo hn, fun q_ hq => absurd hq List.not_mem_nil⟩
  have Hs : ysh mlgM_A.1 (yg mlgM_s) h_ := ysh_of2 hs (fun q_ hq => absurd hq List.not_mem_nil)
  have Ho : ymem (mlgM_r v1_ v2 v301) (yg mlgM_s) mlgM_O h_ := List.forall_mem_cons.mpr ⟨bpat_some (fxr_at hs.2 (show fxk fxl 338 0 = some 339 by decide +kernel)), List.forall_mem_cons.mpr ⟨bpat_some o0_, fun q_ hq => absurd hq List.not_mem_nil⟩⟩
  have HC : ∀ q_ ∈ mlgM_C, xhold (mlgM_r v1_ v2 v301) q_ := List.forall_mem_cons.mpr ⟨xh_ltT c0_, fun q_ hq => absurd hq List.not_mem_nil⟩
  rcases yrun (yis_ok mlgM_k) hA Hs Ho HC with ⟨q_, hq, h', K_, G_⟩ | ⟨q_, hq, h', K_, G_⟩
  · have e_ := List.mem_singleton.mp hq
    subst e_
    exact ⟨h', yfr_sm K_.2.2.2 hs K_.1 (ywa_s mlgM_w List.mem_cons_self), ⟨bpat_of (K_.2.1 _ List.mem_cons_self), fun a_ j_ n0_ => yfr_bp K_.2.2.2 (List.forall_mem_cons.mpr ⟨fun e_ => n0_ ⟨e_.1.symm, e_.2.symm⟩, fun q_ hq => absurd hq List.not_mem_nil⟩), G_⟩⟩
  · cases hq
-- mlgO: 13 steps, 1 ends, 0 returns
def mlgO_L : List (Nat × Nat × Nat) := []
def mlgO_O : yO := [(338, .int 0, .index 339), (339, .int 4, .arg 304)]
def mlgO_A : yA := (yZ mlgO_L, [], [], [], [])
def mlgO_C : List xB := [(.lt, .arg 2, .int 91, false)]
def mlgO_ss : List yS := [(57, [(2, .int 0), (0, .index 338), (1, .arg 1)], [], [(339, .int 4, .sub (.arg 304) (.int 1)), (338, .int 0, .index 339)], [(.lt, .arg 2, .int 91, false)], [(339, .int 4)])]
def mlgO_rs : List yR := []
theorem mlgO_w : ywa mlgO_A mlgO_ss mlgO_rs = true := by decide +kernel
theorem mlgO_k : yis (yev mlgO_A 3000 60 209 [57] (13, [(2, .arg 2), (0, .index 338), (1, .arg 1)], [], mlgO_O, mlgO_C, [])) mlgO_ss mlgO_rs = true := by decide +kernel
def mlgO_r (v1_ v2 v304 : Int32) (k_ : Nat) : Value := bif Nat.beq k_ 1 then .int v1_ else (bif Nat.beq k_ 2 then .int v2 else (bif Nat.beq k_ 304 then .int v304 else (.int 0)))
def mlgO_s (n_ : Nat) : Nat := 0
theorem mlgO {h_ : xH} {v1_ v2 v304 : Int32} (hs : sHp h_) (o0_ : bpat h_ 339 4 = some (.int v304)) (c0_ : (91 : Int32).toInt ≤ v2.toInt) : ∃ h', ysm h_ h' ∧ (((bpat h' 339 4 = some (.int (v304 - (1 : Int32)))) ∧ (∀ a_ j_ : Nat, ¬ (a_ = 339 ∧ j_ = 4) → bpat h' a_ j_ = bpat h_ a_ j_) ∧ (bldD 60 209 13 [(2, .int v2), (0, .index 338), (1, .int v1_)] [] h_ 57 [(2, .int (0 : Int32)), (0, .index 338), (1, .int v1_)] [] h'))) := by
  have hA : yas mlgO_A (mlgO_r v1_ v2 v304) (yg mlgO_s) := ⟨fun q_ hq => absurd hq List.not_mem_nil, fun q_ hq => absurd hq List.not_mem_nil, fun q_ hq => absurd hq List.not_mem_nil, fun n_ hn => yg_lo hn, fun q_ hq => absurd hq List.not_mem_nil⟩
  have Hs : ysh mlgO_A.1 (yg mlgO_s) h_ := ysh_of2 hs (fun q_ hq => absurd hq List.not_mem_nil)
  have Ho : ymem (mlgO_r v1_ v2 v304) (yg mlgO_s) mlgO_O h_ := List.forall_mem_cons.mpr ⟨bpat_some (fxr_at hs.2 (show fxk fxl 338 0 = some 339 by decide +kernel)), List.forall_mem_cons.mpr ⟨bpat_some o0_, fun q_ hq => absurd hq List.not_mem_nil⟩⟩
  have HC : ∀ q_ ∈ mlgO_C, xhold (mlgO_r v1_ v2 v304) q_ := List.forall_mem_cons.mpr ⟨xh_ltF c0_, fun q_ hq => absurd hq List.not_mem_nil⟩
  rcases yrun (yis_ok mlgO_k) hA Hs Ho HC with ⟨q_, hq, h', K_, G_⟩ | ⟨q_, hq, h', K_, G_⟩
  · have e_ := List.mem_singleton.mp hq
    subst e_
    exact ⟨h', yfr_sm K_.2.2.2 hs K_.1 (ywa_s mlgO_w List.mem_cons_self), ⟨bpat_of (K_.2.1 _ List.mem_cons_self), fun a_ j_ n0_ => yfr_bp K_.2.2.2 (List.forall_mem_cons.mpr ⟨fun e_ => n0_ ⟨e_.1.symm, e_.2.symm⟩, fun q_ hq => absurd hq List.not_mem_nil⟩), G_⟩⟩
  · cases hq
-- mlgC: 24 steps, 1 ends, 0 returns
def mlgC_L : List (Nat × Nat × Nat) := []
def mlgC_O : yO := [(338, .int 0, .index 339), (339, .int 4, .arg 304), (339, .add (.arg 1) (.arg 2), .arg 301)]
def mlgC_A : yA := (yZ mlgC_L, [(.add (.add (.int 330) (.mul (.int 13) (.arg 304))) (.arg 2), 768), (.add (.arg 1) (.arg 2), 768)], [], [], [])
def mlgC_C : List xB := [(.lt, .arg 2, .int 13, true)]
def mlgC_ss : List yS := [(57, [(2, .add (.arg 2) (.int 1)), (0, .index 338), (1, .arg 1)], [], [(339, .add (.add (.int 330) (.mul (.int 13) (.arg 304))) (.arg 2), .arg 301), (338, .int 0, .index 339)], [(.lt, .arg 2, .int 13, true)], [(339, .add (.add (.int 330) (.mul (.int 13) (.arg 304))) (.arg 2))])]
def mlgC_rs : List yR := []
theorem mlgC_w : ywa mlgC_A mlgC_ss mlgC_rs = true := by decide +kernel
theorem mlgC_k : yis (yev mlgC_A 3000 60 209 [57] (57, [(2, .arg 2), (0, .index 338), (1, .arg 1)], [], mlgC_O, mlgC_C, [])) mlgC_ss mlgC_rs = true := by decide +kernel
def mlgC_r (v1_ v2 v301 v304 : Int32) (k_ : Nat) : Value := bif Nat.beq k_ 1 then .int v1_ else (bif Nat.beq k_ 2 then .int v2 else (bif Nat.beq k_ 301 then .int v301 else (bif Nat.beq k_ 304 then .int v304 else (.int 0))))
def mlgC_s (n_ : Nat) : Nat := 0
theorem mlgC {h_ : xH} {v1_ v2 v301 v304 : Int32} (hs : sHp h_) (o0_ : bpat h_ 339 4 = some (.int v304)) (o1 : bpat h_ 339 ((v1_ + v2)).toInt.toNat = some (.int v301)) (b0 : 0 ≤ ((((330 : Int32) + ((13 : Int32) * v304)) + v2)).toInt ∧ ((((330 : Int32) + ((13 : Int32) * v304)) + v2)).toInt < 768) (b1 : 0 ≤ ((v1_ + v2)).toInt ∧ ((v1_ + v2)).toInt < 768) (c0_ : v2.toInt < (13 : Int32).toInt) : ∃ h', ysm h_ h' ∧ (((bpat h' 339 ((((330 : Int32) + ((13 : Int32) * v304)) + v2)).toInt.toNat = some (.int v301)) ∧ (∀ a_ j_ : Nat, ¬ (a_ = 339 ∧ j_ = ((((330 : Int32) + ((13 : Int32) * v304)) + v2)).toInt.toNat) → bpat h' a_ j_ = bpat h_ a_ j_) ∧ (bldD 60 209 57 [(2, .int v2), (0, .index 338), (1, .int v1_)] [] h_ 57 [(2, .int (v2 + (1 : Int32))), (0, .index 338), (1, .int v1_)] [] h'))) := by
  have hA : yas mlgC_A (mlgC_r v1_ v2 v301 v304) (yg mlgC_s) := ⟨List.forall_mem_cons.mpr ⟨b0, List.forall_mem_cons.mpr ⟨b1, fun q_ hq => absurd hq List.not_mem_nil⟩⟩, fun q_ hq => absurd hq List.not_mem_nil, fun q_ hq => absurd hq List.not_mem_nil, fun n_ hn => yg_lo hn, fun q_ hq => absurd hq List.not_mem_nil⟩
  have Hs : ysh mlgC_A.1 (yg mlgC_s) h_ := ysh_of2 hs (fun q_ hq => absurd hq List.not_mem_nil)
  have Ho : ymem (mlgC_r v1_ v2 v301 v304) (yg mlgC_s) mlgC_O h_ := List.forall_mem_cons.mpr ⟨bpat_some (fxr_at hs.2 (show fxk fxl 338 0 = some 339 by decide +kernel)), List.forall_mem_cons.mpr ⟨bpat_some o0_, List.forall_mem_cons.mpr ⟨bpat_some o1, fun q_ hq => absurd hq List.not_mem_nil⟩⟩⟩
  have HC : ∀ q_ ∈ mlgC_C, xhold (mlgC_r v1_ v2 v301 v304) q_ := List.forall_mem_cons.mpr ⟨xh_ltT c0_, fun q_ hq => absurd hq List.not_mem_nil⟩
  rcases yrun (yis_ok mlgC_k) hA Hs Ho HC with ⟨q_, hq, h', K_, G_⟩ | ⟨q_, hq, h', K_, G_⟩
  · have e_ := List.mem_singleton.mp hq
    subst e_
    exact ⟨h', yfr_sm K_.2.2.2 hs K_.1 (ywa_s mlgC_w List.mem_cons_self), ⟨bpat_of (K_.2.1 _ List.mem_cons_self), fun a_ j_ n0_ => yfr_bp K_.2.2.2 (List.forall_mem_cons.mpr ⟨fun e_ => n0_ ⟨e_.1.symm, e_.2.symm⟩, fun q_ hq => absurd hq List.not_mem_nil⟩), G_⟩⟩
  · cases hq
-- mlgX: 12 steps, 0 ends, 1 returns
def mlgX_L : List (Nat × Nat × Nat) := []
def mlgX_O : yO := [(338, .int 0, .index 339), (339, .int 4, .arg 304)]
def mlgX_A : yA := (yZ mlgX_L, [], [], [], [])
def mlgX_C : List xB := [(.lt, .arg 2, .int 13, false)]
def mlgX_ss : List yS := []
def mlgX_rs : List yR := [(none, [(339, .int 4, .add (.arg 304) (.int 1)), (338, .int 0, .index 339)], [(.lt, .arg 2, .int 13, false)], [(339, .int 4)])]
theorem mlgX_w : ywa mlgX_A mlgX_ss mlgX_rs = true := by decide +kernel
theorem mlgX_k : yis (yev mlgX_A 3000 60 209 [] (57, [(2, .arg 2), (0, .index 338), (1, .arg 1)], [], mlgX_O, mlgX_C, [])) mlgX_ss mlgX_rs = true := by decide +kernel
def mlgX_r (v1_ v2 v304 : Int32) (k_ : Nat) : Value := bif Nat.beq k_ 1 then .int v1_ else (bif Nat.beq k_ 2 then .int v2 else (bif Nat.beq k_ 304 then .int v304 else (.int 0)))
def mlgX_s (n_ : Nat) : Nat := 0
theorem mlgX {h_ : xH} {v1_ v2 v304 : Int32} (hs : sHp h_) (o0_ : bpat h_ 339 4 = some (.int v304)) (c0_ : (13 : Int32).toInt ≤ v2.toInt) : ∃ h', ysm h_ h' ∧ (((bpat h' 339 4 = some (.int (v304 + (1 : Int32)))) ∧ (∀ a_ j_ : Nat, ¬ (a_ = 339 ∧ j_ = 4) → bpat h' a_ j_ = bpat h_ a_ j_) ∧ (∀ D_, 60 ≤ D_ → xrun D_ 209 57 [(2, .int v2), (0, .index 338), (1, .int v1_)] [] h_ (none, h', [])))) := by
  have hA : yas mlgX_A (mlgX_r v1_ v2 v304) (yg mlgX_s) := ⟨fun q_ hq => absurd hq List.not_mem_nil, fun q_ hq => absurd hq List.not_mem_nil, fun q_ hq => absurd hq List.not_mem_nil, fun n_ hn => yg_lo hn, fun q_ hq => absurd hq List.not_mem_nil⟩
  have Hs : ysh mlgX_A.1 (yg mlgX_s) h_ := ysh_of2 hs (fun q_ hq => absurd hq List.not_mem_nil)
  have Ho : ymem (mlgX_r v1_ v2 v304) (yg mlgX_s) mlgX_O h_ := List.forall_mem_cons.mpr ⟨bpat_some (fxr_at hs.2 (show fxk fxl 338 0 = some 339 by decide +kernel)), List.forall_mem_cons.mpr ⟨bpat_some o0_, fun q_ hq => absurd hq List.not_mem_nil⟩⟩
  have HC : ∀ q_ ∈ mlgX_C, xhold (mlgX_r v1_ v2 v304) q_ := List.forall_mem_cons.mpr ⟨xh_ltF c0_, fun q_ hq => absurd hq List.not_mem_nil⟩
  rcases yrun (yis_ok mlgX_k) hA Hs Ho HC with ⟨q_, hq, h', K_, G_⟩ | ⟨q_, hq, h', K_, G_⟩
  · cases hq
  · have e_ := List.mem_singleton.mp hq
    subst e_
    exact ⟨h', yfr_sm K_.2.2.2 hs K_.1 (ywa_r mlgX_w List.mem_cons_self), ⟨bpat_of (K_.2.1 _ List.mem_cons_self), fun a_ j_ n0_ => yfr_bp K_.2.2.2 (List.forall_mem_cons.mpr ⟨fun e_ => n0_ ⟨e_.1.symm, e_.2.symm⟩, fun q_ hq => absurd hq List.not_mem_nil⟩), G_⟩⟩
-- mcmE: 4 steps, 1 ends, 0 returns
def mcmE_L : List (Nat × Nat × Nat) := []
def mcmE_O : yO := []
def mcmE_A : yA := (yZ mcmE_L, [], [], [], [])
def mcmE_C : List xB := []
def mcmE_ss : List yS := [(4, [(2, .int 0), (1, .int 0), (0, .index 338)], [], [], [], [])]
def mcmE_rs : List yR := []
theorem mcmE_w : ywa mcmE_A mcmE_ss mcmE_rs = true := by decide +kernel
theorem mcmE_k : yis (yev mcmE_A 3000 60 210 [4] (0, [(0, .index 338)], [], mcmE_O, mcmE_C, [])) mcmE_ss mcmE_rs = true := by decide +kernel
def mcmE_r (k_ : Nat) : Value := .int 0
def mcmE_s (n_ : Nat) : Nat := 0
theorem mcmE {h_ : xH} (hs : sHp h_) : ∃ h', ysm h_ h' ∧ (((∀ a_ j_ : Nat, bpat h' a_ j_ = bpat h_ a_ j_) ∧ (bldD 60 210 0 [(0, .index 338)] [] h_ 4 [(2, .int (0 : Int32)), (1, .int (0 : Int32)), (0, .index 338)] [] h'))) := by
  have hA : yas mcmE_A mcmE_r (yg mcmE_s) := ⟨fun q_ hq => absurd hq List.not_mem_nil, fun q_ hq => absurd hq List.not_mem_nil, fun q_ hq => absurd hq List.not_mem_nil, fun n_ hn => yg_lo hn, fun q_ hq => absurd hq List.not_mem_nil⟩
  have Hs : ysh mcmE_A.1 (yg mcmE_s) h_ := ysh_of2 hs (fun q_ hq => absurd hq List.not_mem_nil)
  have Ho : ymem mcmE_r (yg mcmE_s) mcmE_O h_ := fun q_ hq => absurd hq List.not_mem_nil
  have HC : ∀ q_ ∈ mcmE_C, xhold mcmE_r q_ := fun q_ hq => absurd hq List.not_mem_nil
  rcases yrun (yis_ok mcmE_k) hA Hs Ho HC with ⟨q_, hq, h', K_, G_⟩ | ⟨q_, hq, h', K_, G_⟩
  · have e_ := List.mem_singleton.mp hq
    subst e_
    exact ⟨h', yfr_sm K_.2.2.2 hs K_.1 (ywa_s mcmE_w List.mem_cons_self), ⟨fun a_ j_ => yfr_bp K_.2.2.2 (fun q_ hq => absurd hq List.not_mem_nil), G_⟩⟩
  · cases hq
-- mcmXA: 12 steps, 0 ends, 1 returns
def mcmXA_L : List (Nat × Nat × Nat) := []
def mcmXA_O : yO := [(338, .int 0, .index 339), (339, .int 3, .arg 300)]
def mcmXA_A : yA := (yZ mcmXA_L, [], [], [], [])
def mcmXA_C : List xB := [(.lt, .arg 2, .arg 300, false)]
def mcmXA_ss : List yS := []
def mcmXA_rs : List yR := [(none, [(339, .int 3, .arg 1), (338, .int 0, .index 339)], [(.lt, .arg 2, .arg 300, false)], [(339, .int 3)])]
theorem mcmXA_w : ywa mcmXA_A mcmXA_ss mcmXA_rs = true := by decide +kernel
theorem mcmXA_k : yis (yev mcmXA_A 3000 60 210 [] (4, [(2, .arg 2), (1, .arg 1), (0, .index 338)], [], mcmXA_O, mcmXA_C, [])) mcmXA_ss mcmXA_rs = true := by decide +kernel
def mcmXA_r (v1_ v2 v300 : Int32) (k_ : Nat) : Value := bif Nat.beq k_ 1 then .int v1_ else (bif Nat.beq k_ 2 then .int v2 else (bif Nat.beq k_ 300 then .int v300 else (.int 0)))
def mcmXA_s (n_ : Nat) : Nat := 0
theorem mcmXA {h_ : xH} {v1_ v2 v300 : Int32} (hs : sHp h_) (o0_ : bpat h_ 339 3 = some (.int v300)) (c0_ : v300.toInt ≤ v2.toInt) : ∃ h', ysm h_ h' ∧ (((bpat h' 339 3 = some (.int v1_)) ∧ (∀ a_ j_ : Nat, ¬ (a_ = 339 ∧ j_ = 3) → bpat h' a_ j_ = bpat h_ a_ j_) ∧ (∀ D_, 60 ≤ D_ → xrun D_ 210 4 [(2, .int v2), (1, .int v1_), (0, .index 338)] [] h_ (none, h', [])))) := by
  have hA : yas mcmXA_A (mcmXA_r v1_ v2 v300) (yg mcmXA_s) := ⟨fun q_ hq => absurd hq List.not_mem_nil, fun q_ hq => absurd hq List.not_mem_nil, fun q_ hq => absurd hq List.not_mem_nil, fun n_ hn => yg_lo hn, fun q_ hq => absurd hq List.not_mem_nil⟩
  have Hs : ysh mcmXA_A.1 (yg mcmXA_s) h_ := ysh_of2 hs (fun q_ hq => absurd hq List.not_mem_nil)
  have Ho : ymem (mcmXA_r v1_ v2 v300) (yg mcmXA_s) mcmXA_O h_ := List.forall_mem_cons.mpr ⟨bpat_some (fxr_at hs.2 (show fxk fxl 338 0 = some 339 by decide +kernel)), List.forall_mem_cons.mpr ⟨bpat_some o0_, fun q_ hq => absurd hq List.not_mem_nil⟩⟩
  have HC : ∀ q_ ∈ mcmXA_C, xhold (mcmXA_r v1_ v2 v300) q_ := List.forall_mem_cons.mpr ⟨xh_ltF c0_, fun q_ hq => absurd hq List.not_mem_nil⟩
  rcases yrun (yis_ok mcmXA_k) hA Hs Ho HC with ⟨q_, hq, h', K_, G_⟩ | ⟨q_, hq, h', K_, G_⟩
  · cases hq
  · have e_ := List.mem_singleton.mp hq
    subst e_
    exact ⟨h', yfr_sm K_.2.2.2 hs K_.1 (ywa_r mcmXA_w List.mem_cons_self), ⟨bpat_of (K_.2.1 _ List.mem_cons_self), fun a_ j_ n0_ => yfr_bp K_.2.2.2 (List.forall_mem_cons.mpr ⟨fun e_ => n0_ ⟨e_.1.symm, e_.2.symm⟩, fun q_ hq => absurd hq List.not_mem_nil⟩), G_⟩⟩
-- mcmLA: 25 steps, 1 ends, 0 returns
def mcmLA_L : List (Nat × Nat × Nat) := []
def mcmLA_O : yO := [(338, .int 0, .index 339), (339, .int 3, .arg 300), (339, .add (.int 190) (.mul (.int 14) (.arg 2)), .arg 301), (339, .int 2, .arg 302)]
def mcmLA_A : yA := (yZ mcmLA_L, [(.add (.int 190) (.mul (.int 14) (.arg 2)), 768)], [], [], [])
def mcmLA_C : List xB := [(.le, .arg 301, .arg 302, true), (.lt, .arg 2, .arg 300, true)]
def mcmLA_ss : List yS := [(42, [(3, .add (.int 190) (.mul (.int 14) (.arg 2))), (2, .arg 2), (1, .arg 1), (0, .index 338)], [.add (.add (.int 190) (.mul (.int 14) (.arg 2))) (.int 1), .index 338], [(338, .int 0, .index 339), (339, .int 3, .arg 300), (339, .add (.int 190) (.mul (.int 14) (.arg 2)), .arg 301), (339, .int 2, .arg 302)], [(.le, .arg 301, .arg 302, true), (.lt, .arg 2, .arg 300, true)], [])]
def mcmLA_rs : List yR := []
theorem mcmLA_w : ywa mcmLA_A mcmLA_ss mcmLA_rs = true := by decide +kernel
theorem mcmLA_k : yis (yev mcmLA_A 3000 60 210 [42] (4, [(2, .arg 2), (1, .arg 1), (0, .index 338)], [], mcmLA_O, mcmLA_C, [])) mcmLA_ss mcmLA_rs = true := by decide +kernel
def mcmLA_r (v1_ v2 v300 v301 v302 : Int32) (k_ : Nat) : Value := bif Nat.beq k_ 1 then .int v1_ else (bif Nat.beq k_ 2 then .int v2 else (bif Nat.beq k_ 300 then .int v300 else (bif Nat.beq k_ 301 then .int v301 else (bif Nat.beq k_ 302 then .int v302 else (.int 0)))))
def mcmLA_s (n_ : Nat) : Nat := 0
theorem mcmLA {h_ : xH} {v1_ v2 v300 v301 v302 : Int32} (hs : sHp h_) (o0_ : bpat h_ 339 3 = some (.int v300)) (o1 : bpat h_ 339 (((190 : Int32) + ((14 : Int32) * v2))).toInt.toNat = some (.int v301)) (o2 : bpat h_ 339 2 = some (.int v302)) (b0 : 0 ≤ (((190 : Int32) + ((14 : Int32) * v2))).toInt ∧ (((190 : Int32) + ((14 : Int32) * v2))).toInt < 768) (c0_ : v301.toInt ≤ v302.toInt) (c1_ : v2.toInt < v300.toInt) : ∃ h', ysm h_ h' ∧ (((∀ a_ j_ : Nat, bpat h' a_ j_ = bpat h_ a_ j_) ∧ (bldD 60 210 4 [(2, .int v2), (1, .int v1_), (0, .index 338)] [] h_ 42 [(3, .int ((190 : Int32) + ((14 : Int32) * v2))), (2, .int v2), (1, .int v1_), (0, .index 338)] [.int (((190 : Int32) + ((14 : Int32) * v2)) + (1 : Int32)), .index 338] h'))) := by
  have hA : yas mcmLA_A (mcmLA_r v1_ v2 v300 v301 v302) (yg mcmLA_s) := ⟨List.forall_mem_cons.mpr ⟨b0, fun q_ hq => absurd hq List.not_mem_nil⟩, fun q_ hq => absurd hq List.not_mem_nil, fun q_ hq => absurd hq List.not_mem_nil, fun n_ hn => yg_lo hn, fun q_ hq => absurd hq List.not_mem_nil⟩
  have Hs : ysh mcmLA_A.1 (yg mcmLA_s) h_ := ysh_of2 hs (fun q_ hq => absurd hq List.not_mem_nil)
  have Ho : ymem (mcmLA_r v1_ v2 v300 v301 v302) (yg mcmLA_s) mcmLA_O h_ := List.forall_mem_cons.mpr ⟨bpat_some (fxr_at hs.2 (show fxk fxl 338 0 = some 339 by decide +kernel)), List.forall_mem_cons.mpr ⟨bpat_some o0_, List.forall_mem_cons.mpr ⟨bpat_some o1, List.forall_mem_cons.mpr ⟨bpat_some o2, fun q_ hq => absurd hq List.not_mem_nil⟩⟩⟩⟩
  have HC : ∀ q_ ∈ mcmLA_C, xhold (mcmLA_r v1_ v2 v300 v301 v302) q_ := List.forall_mem_cons.mpr ⟨xh_leT c0_, List.forall_mem_cons.mpr ⟨xh_ltT c1_, fun q_ hq => absurd hq List.not_mem_nil⟩⟩
  rcases yrun (yis_ok mcmLA_k) hA Hs Ho HC with ⟨q_, hq, h', K_, G_⟩ | ⟨q_, hq, h', K_, G_⟩
  · have e_ := List.mem_singleton.mp hq
    subst e_
    exact ⟨h', yfr_sm K_.2.2.2 hs K_.1 (ywa_s mcmLA_w List.mem_cons_self), ⟨fun a_ j_ => yfr_bp K_.2.2.2 (fun q_ hq => absurd hq List.not_mem_nil), G_⟩⟩
  · cases hq
-- mcmKA: 23 steps, 1 ends, 0 returns
def mcmKA_L : List (Nat × Nat × Nat) := []
def mcmKA_O : yO := [(338, .int 0, .index 339), (339, .int 3, .arg 300), (339, .add (.int 190) (.mul (.int 14) (.arg 2)), .arg 301), (339, .int 2, .arg 302)]
def mcmKA_A : yA := (yZ mcmKA_L, [(.add (.int 190) (.mul (.int 14) (.arg 2)), 768)], [], [], [])
def mcmKA_C : List xB := [(.le, .arg 301, .arg 302, false), (.lt, .arg 2, .arg 300, true)]
def mcmKA_ss : List yS := [(51, [(4, .int 0), (3, .add (.int 190) (.mul (.int 14) (.arg 2))), (2, .arg 2), (1, .arg 1), (0, .index 338)], [], [(338, .int 0, .index 339), (339, .int 3, .arg 300), (339, .add (.int 190) (.mul (.int 14) (.arg 2)), .arg 301), (339, .int 2, .arg 302)], [(.le, .arg 301, .arg 302, false), (.lt, .arg 2, .arg 300, true)], [])]
def mcmKA_rs : List yR := []
theorem mcmKA_w : ywa mcmKA_A mcmKA_ss mcmKA_rs = true := by decide +kernel
theorem mcmKA_k : yis (yev mcmKA_A 3000 60 210 [51] (4, [(2, .arg 2), (1, .arg 1), (0, .index 338)], [], mcmKA_O, mcmKA_C, [])) mcmKA_ss mcmKA_rs = true := by decide +kernel
def mcmKA_r (v1_ v2 v300 v301 v302 : Int32) (k_ : Nat) : Value := bif Nat.beq k_ 1 then .int v1_ else (bif Nat.beq k_ 2 then .int v2 else (bif Nat.beq k_ 300 then .int v300 else (bif Nat.beq k_ 301 then .int v301 else (bif Nat.beq k_ 302 then .int v302 else (.int 0)))))
def mcmKA_s (n_ : Nat) : Nat := 0
theorem mcmKA {h_ : xH} {v1_ v2 v300 v301 v302 : Int32} (hs : sHp h_) (o0_ : bpat h_ 339 3 = some (.int v300)) (o1 : bpat h_ 339 (((190 : Int32) + ((14 : Int32) * v2))).toInt.toNat = some (.int v301)) (o2 : bpat h_ 339 2 = some (.int v302)) (b0 : 0 ≤ (((190 : Int32) + ((14 : Int32) * v2))).toInt ∧ (((190 : Int32) + ((14 : Int32) * v2))).toInt < 768) (c0_ : v302.toInt < v301.toInt) (c1_ : v2.toInt < v300.toInt) : ∃ h', ysm h_ h' ∧ (((∀ a_ j_ : Nat, bpat h' a_ j_ = bpat h_ a_ j_) ∧ (bldD 60 210 4 [(2, .int v2), (1, .int v1_), (0, .index 338)] [] h_ 51 [(4, .int (0 : Int32)), (3, .int ((190 : Int32) + ((14 : Int32) * v2))), (2, .int v2), (1, .int v1_), (0, .index 338)] [] h'))) := by
  have hA : yas mcmKA_A (mcmKA_r v1_ v2 v300 v301 v302) (yg mcmKA_s) := ⟨List.forall_mem_cons.mpr ⟨b0, fun q_ hq => absurd hq List.not_mem_nil⟩, fun q_ hq => absurd hq List.not_mem_nil, fun q_ hq => absurd hq List.not_mem_nil, fun n_ hn => yg_lo hn, fun q_ hq => absurd hq List.not_mem_nil⟩
  have Hs : ysh mcmKA_A.1 (yg mcmKA_s) h_ := ysh_of2 hs (fun q_ hq => absurd hq List.not_mem_nil)
  have Ho : ymem (mcmKA_r v1_ v2 v300 v301 v302) (yg mcmKA_s) mcmKA_O h_ := List.forall_mem_cons.mpr ⟨bpat_some (fxr_at hs.2 (show fxk fxl 338 0 = some 339 by decide +kernel)), List.forall_mem_cons.mpr ⟨bpat_some o0_, List.forall_mem_cons.mpr ⟨bpat_some o1, List.forall_mem_cons.mpr ⟨bpat_some o2, fun q_ hq => absurd hq List.not_mem_nil⟩⟩⟩⟩
  have HC : ∀ q_ ∈ mcmKA_C, xhold (mcmKA_r v1_ v2 v300 v301 v302) q_ := List.forall_mem_cons.mpr ⟨xh_leF c0_, List.forall_mem_cons.mpr ⟨xh_ltT c1_, fun q_ hq => absurd hq List.not_mem_nil⟩⟩
  rcases yrun (yis_ok mcmKA_k) hA Hs Ho HC with ⟨q_, hq, h', K_, G_⟩ | ⟨q_, hq, h', K_, G_⟩
  · have e_ := List.mem_singleton.mp hq
    subst e_
    exact ⟨h', yfr_sm K_.2.2.2 hs K_.1 (ywa_s mcmKA_w List.mem_cons_self), ⟨fun a_ j_ => yfr_bp K_.2.2.2 (fun q_ hq => absurd hq List.not_mem_nil), G_⟩⟩
  · cases hq
-- mcmXB: 12 steps, 0 ends, 1 returns
def mcmXB_L : List (Nat × Nat × Nat) := []
def mcmXB_O : yO := [(338, .int 0, .index 339), (339, .int 3, .arg 300)]
def mcmXB_A : yA := (yZ mcmXB_L, [], [], [], [])
def mcmXB_C : List xB := [(.lt, .arg 2, .arg 300, false)]
def mcmXB_ss : List yS := []
def mcmXB_rs : List yR := [(none, [(339, .int 3, .arg 1), (338, .int 0, .index 339)], [(.lt, .arg 2, .arg 300, false)], [(339, .int 3)])]
theorem mcmXB_w : ywa mcmXB_A mcmXB_ss mcmXB_rs = true := by decide +kernel
theorem mcmXB_k : yis (yev mcmXB_A 3000 60 210 [] (4, [(2, .arg 2), (3, .arg 3), (1, .arg 1), (0, .index 338)], [], mcmXB_O, mcmXB_C, [])) mcmXB_ss mcmXB_rs = true := by decide +kernel
def mcmXB_r (v1_ v2 v3 v300 : Int32) (k_ : Nat) : Value := bif Nat.beq k_ 1 then .int v1_ else (bif Nat.beq k_ 2 then .int v2 else (bif Nat.beq k_ 3 then .int v3 else (bif Nat.beq k_ 300 then .int v300 else (.int 0))))
def mcmXB_s (n_ : Nat) : Nat := 0
theorem mcmXB {h_ : xH} {v1_ v2 v3 v300 : Int32} (hs : sHp h_) (o0_ : bpat h_ 339 3 = some (.int v300)) (c0_ : v300.toInt ≤ v2.toInt) : ∃ h', ysm h_ h' ∧ (((bpat h' 339 3 = some (.int v1_)) ∧ (∀ a_ j_ : Nat, ¬ (a_ = 339 ∧ j_ = 3) → bpat h' a_ j_ = bpat h_ a_ j_) ∧ (∀ D_, 60 ≤ D_ → xrun D_ 210 4 [(2, .int v2), (3, .int v3), (1, .int v1_), (0, .index 338)] [] h_ (none, h', [])))) := by
  have hA : yas mcmXB_A (mcmXB_r v1_ v2 v3 v300) (yg mcmXB_s) := ⟨fun q_ hq => absurd hq List.not_mem_nil, fun q_ hq => absurd hq List.not_mem_nil, fun q_ hq => absurd hq List.not_mem_nil, fun n_ hn => yg_lo hn, fun q_ hq => absurd hq List.not_mem_nil⟩
  have Hs : ysh mcmXB_A.1 (yg mcmXB_s) h_ := ysh_of2 hs (fun q_ hq => absurd hq List.not_mem_nil)
  have Ho : ymem (mcmXB_r v1_ v2 v3 v300) (yg mcmXB_s) mcmXB_O h_ := List.forall_mem_cons.mpr ⟨bpat_some (fxr_at hs.2 (show fxk fxl 338 0 = some 339 by decide +kernel)), List.forall_mem_cons.mpr ⟨bpat_some o0_, fun q_ hq => absurd hq List.not_mem_nil⟩⟩
  have HC : ∀ q_ ∈ mcmXB_C, xhold (mcmXB_r v1_ v2 v3 v300) q_ := List.forall_mem_cons.mpr ⟨xh_ltF c0_, fun q_ hq => absurd hq List.not_mem_nil⟩
  rcases yrun (yis_ok mcmXB_k) hA Hs Ho HC with ⟨q_, hq, h', K_, G_⟩ | ⟨q_, hq, h', K_, G_⟩
  · cases hq
  · have e_ := List.mem_singleton.mp hq
    subst e_
    exact ⟨h', yfr_sm K_.2.2.2 hs K_.1 (ywa_r mcmXB_w List.mem_cons_self), ⟨bpat_of (K_.2.1 _ List.mem_cons_self), fun a_ j_ n0_ => yfr_bp K_.2.2.2 (List.forall_mem_cons.mpr ⟨fun e_ => n0_ ⟨e_.1.symm, e_.2.symm⟩, fun q_ hq => absurd hq List.not_mem_nil⟩), G_⟩⟩
-- mcmLB: 25 steps, 1 ends, 0 returns
def mcmLB_L : List (Nat × Nat × Nat) := []
def mcmLB_O : yO := [(338, .int 0, .index 339), (339, .int 3, .arg 300), (339, .add (.int 190) (.mul (.int 14) (.arg 2)), .arg 301), (339, .int 2, .arg 302)]
def mcmLB_A : yA := (yZ mcmLB_L, [(.add (.int 190) (.mul (.int 14) (.arg 2)), 768)], [], [], [])
def mcmLB_C : List xB := [(.le, .arg 301, .arg 302, true), (.lt, .arg 2, .arg 300, true)]
def mcmLB_ss : List yS := [(42, [(3, .add (.int 190) (.mul (.int 14) (.arg 2))), (2, .arg 2), (1, .arg 1), (0, .index 338)], [.add (.add (.int 190) (.mul (.int 14) (.arg 2))) (.int 1), .index 338], [(338, .int 0, .index 339), (339, .int 3, .arg 300), (339, .add (.int 190) (.mul (.int 14) (.arg 2)), .arg 301), (339, .int 2, .arg 302)], [(.le, .arg 301, .arg 302, true), (.lt, .arg 2, .arg 300, true)], [])]
def mcmLB_rs : List yR := []
theorem mcmLB_w : ywa mcmLB_A mcmLB_ss mcmLB_rs = true := by decide +kernel
theorem mcmLB_k : yis (yev mcmLB_A 3000 60 210 [42] (4, [(2, .arg 2), (3, .arg 3), (1, .arg 1), (0, .index 338)], [], mcmLB_O, mcmLB_C, [])) mcmLB_ss mcmLB_rs = true := by decide +kernel
def mcmLB_r (v1_ v2 v3 v300 v301 v302 : Int32) (k_ : Nat) : Value := bif Nat.beq k_ 1 then .int v1_ else (bif Nat.beq k_ 2 then .int v2 else (bif Nat.beq k_ 3 then .int v3 else (bif Nat.beq k_ 300 then .int v300 else (bif Nat.beq k_ 301 then .int v301 else (bif Nat.beq k_ 302 then .int v302 else (.int 0))))))
def mcmLB_s (n_ : Nat) : Nat := 0
theorem mcmLB {h_ : xH} {v1_ v2 v3 v300 v301 v302 : Int32} (hs : sHp h_) (o0_ : bpat h_ 339 3 = some (.int v300)) (o1 : bpat h_ 339 (((190 : Int32) + ((14 : Int32) * v2))).toInt.toNat = some (.int v301)) (o2 : bpat h_ 339 2 = some (.int v302)) (b0 : 0 ≤ (((190 : Int32) + ((14 : Int32) * v2))).toInt ∧ (((190 : Int32) + ((14 : Int32) * v2))).toInt < 768) (c0_ : v301.toInt ≤ v302.toInt) (c1_ : v2.toInt < v300.toInt) : ∃ h', ysm h_ h' ∧ (((∀ a_ j_ : Nat, bpat h' a_ j_ = bpat h_ a_ j_) ∧ (bldD 60 210 4 [(2, .int v2), (3, .int v3), (1, .int v1_), (0, .index 338)] [] h_ 42 [(3, .int ((190 : Int32) + ((14 : Int32) * v2))), (2, .int v2), (1, .int v1_), (0, .index 338)] [.int (((190 : Int32) + ((14 : Int32) * v2)) + (1 : Int32)), .index 338] h'))) := by
  have hA : yas mcmLB_A (mcmLB_r v1_ v2 v3 v300 v301 v302) (yg mcmLB_s) := ⟨List.forall_mem_cons.mpr ⟨b0, fun q_ hq => absurd hq List.not_mem_nil⟩, fun q_ hq => absurd hq List.not_mem_nil, fun q_ hq => absurd hq List.not_mem_nil, fun n_ hn => yg_lo hn, fun q_ hq => absurd hq List.not_mem_nil⟩
  have Hs : ysh mcmLB_A.1 (yg mcmLB_s) h_ := ysh_of2 hs (fun q_ hq => absurd hq List.not_mem_nil)
  have Ho : ymem (mcmLB_r v1_ v2 v3 v300 v301 v302) (yg mcmLB_s) mcmLB_O h_ := List.forall_mem_cons.mpr ⟨bpat_some (fxr_at hs.2 (show fxk fxl 338 0 = some 339 by decide +kernel)), List.forall_mem_cons.mpr ⟨bpat_some o0_, List.forall_mem_cons.mpr ⟨bpat_some o1, List.forall_mem_cons.mpr ⟨bpat_some o2, fun q_ hq => absurd hq List.not_mem_nil⟩⟩⟩⟩
  have HC : ∀ q_ ∈ mcmLB_C, xhold (mcmLB_r v1_ v2 v3 v300 v301 v302) q_ := List.forall_mem_cons.mpr ⟨xh_leT c0_, List.forall_mem_cons.mpr ⟨xh_ltT c1_, fun q_ hq => absurd hq List.not_mem_nil⟩⟩
  rcases yrun (yis_ok mcmLB_k) hA Hs Ho HC with ⟨q_, hq, h', K_, G_⟩ | ⟨q_, hq, h', K_, G_⟩
  · have e_ := List.mem_singleton.mp hq
    subst e_
    exact ⟨h', yfr_sm K_.2.2.2 hs K_.1 (ywa_s mcmLB_w List.mem_cons_self), ⟨fun a_ j_ => yfr_bp K_.2.2.2 (fun q_ hq => absurd hq List.not_mem_nil), G_⟩⟩
  · cases hq
-- mcmKB: 23 steps, 1 ends, 0 returns
def mcmKB_L : List (Nat × Nat × Nat) := []
def mcmKB_O : yO := [(338, .int 0, .index 339), (339, .int 3, .arg 300), (339, .add (.int 190) (.mul (.int 14) (.arg 2)), .arg 301), (339, .int 2, .arg 302)]
def mcmKB_A : yA := (yZ mcmKB_L, [(.add (.int 190) (.mul (.int 14) (.arg 2)), 768)], [], [], [])
def mcmKB_C : List xB := [(.le, .arg 301, .arg 302, false), (.lt, .arg 2, .arg 300, true)]
def mcmKB_ss : List yS := [(51, [(4, .int 0), (3, .add (.int 190) (.mul (.int 14) (.arg 2))), (2, .arg 2), (1, .arg 1), (0, .index 338)], [], [(338, .int 0, .index 339), (339, .int 3, .arg 300), (339, .add (.int 190) (.mul (.int 14) (.arg 2)), .arg 301), (339, .int 2, .arg 302)], [(.le, .arg 301, .arg 302, false), (.lt, .arg 2, .arg 300, true)], [])]
def mcmKB_rs : List yR := []
theorem mcmKB_w : ywa mcmKB_A mcmKB_ss mcmKB_rs = true := by decide +kernel
theorem mcmKB_k : yis (yev mcmKB_A 3000 60 210 [51] (4, [(2, .arg 2), (3, .arg 3), (1, .arg 1), (0, .index 338)], [], mcmKB_O, mcmKB_C, [])) mcmKB_ss mcmKB_rs = true := by decide +kernel
def mcmKB_r (v1_ v2 v3 v300 v301 v302 : Int32) (k_ : Nat) : Value := bif Nat.beq k_ 1 then .int v1_ else (bif Nat.beq k_ 2 then .int v2 else (bif Nat.beq k_ 3 then .int v3 else (bif Nat.beq k_ 300 then .int v300 else (bif Nat.beq k_ 301 then .int v301 else (bif Nat.beq k_ 302 then .int v302 else (.int 0))))))
def mcmKB_s (n_ : Nat) : Nat := 0
theorem mcmKB {h_ : xH} {v1_ v2 v3 v300 v301 v302 : Int32} (hs : sHp h_) (o0_ : bpat h_ 339 3 = some (.int v300)) (o1 : bpat h_ 339 (((190 : Int32) + ((14 : Int32) * v2))).toInt.toNat = some (.int v301)) (o2 : bpat h_ 339 2 = some (.int v302)) (b0 : 0 ≤ (((190 : Int32) + ((14 : Int32) * v2))).toInt ∧ (((190 : Int32) + ((14 : Int32) * v2))).toInt < 768) (c0_ : v302.toInt < v301.toInt) (c1_ : v2.toInt < v300.toInt) : ∃ h', ysm h_ h' ∧ (((∀ a_ j_ : Nat, bpat h' a_ j_ = bpat h_ a_ j_) ∧ (bldD 60 210 4 [(2, .int v2), (3, .int v3), (1, .int v1_), (0, .index 338)] [] h_ 51 [(4, .int (0 : Int32)), (3, .int ((190 : Int32) + ((14 : Int32) * v2))), (2, .int v2), (1, .int v1_), (0, .index 338)] [] h'))) := by
  have hA : yas mcmKB_A (mcmKB_r v1_ v2 v3 v300 v301 v302) (yg mcmKB_s) := ⟨List.forall_mem_cons.mpr ⟨b0, fun q_ hq => absurd hq List.not_mem_nil⟩, fun q_ hq => absurd hq List.not_mem_nil, fun q_ hq => absurd hq List.not_mem_nil, fun n_ hn => yg_lo hn, fun q_ hq => absurd hq List.not_mem_nil⟩
  have Hs : ysh mcmKB_A.1 (yg mcmKB_s) h_ := ysh_of2 hs (fun q_ hq => absurd hq List.not_mem_nil)
  have Ho : ymem (mcmKB_r v1_ v2 v3 v300 v301 v302) (yg mcmKB_s) mcmKB_O h_ := List.forall_mem_cons.mpr ⟨bpat_some (fxr_at hs.2 (show fxk fxl 338 0 = some 339 by decide +kernel)), List.forall_mem_cons.mpr ⟨bpat_some o0_, List.forall_mem_cons.mpr ⟨bpat_some o1, List.forall_mem_cons.mpr ⟨bpat_some o2, fun q_ hq => absurd hq List.not_mem_nil⟩⟩⟩⟩
  have HC : ∀ q_ ∈ mcmKB_C, xhold (mcmKB_r v1_ v2 v3 v300 v301 v302) q_ := List.forall_mem_cons.mpr ⟨xh_leF c0_, List.forall_mem_cons.mpr ⟨xh_ltT c1_, fun q_ hq => absurd hq List.not_mem_nil⟩⟩
  rcases yrun (yis_ok mcmKB_k) hA Hs Ho HC with ⟨q_, hq, h', K_, G_⟩ | ⟨q_, hq, h', K_, G_⟩
  · have e_ := List.mem_singleton.mp hq
    subst e_
    exact ⟨h', yfr_sm K_.2.2.2 hs K_.1 (ywa_s mcmKB_w List.mem_cons_self), ⟨fun a_ j_ => yfr_bp K_.2.2.2 (fun q_ hq => absurd hq List.not_mem_nil), G_⟩⟩
  · cases hq
-- mcmXC: 12 steps, 0 ends, 1 returns
def mcmXC_L : List (Nat × Nat × Nat) := []
def mcmXC_O : yO := [(338, .int 0, .index 339), (339, .int 3, .arg 300)]
def mcmXC_A : yA := (yZ mcmXC_L, [], [], [], [])
def mcmXC_C : List xB := [(.lt, .arg 2, .arg 300, false)]
def mcmXC_ss : List yS := []
def mcmXC_rs : List yR := [(none, [(339, .int 3, .arg 1), (338, .int 0, .index 339)], [(.lt, .arg 2, .arg 300, false)], [(339, .int 3)])]
theorem mcmXC_w : ywa mcmXC_A mcmXC_ss mcmXC_rs = true := by decide +kernel
theorem mcmXC_k : yis (yev mcmXC_A 3000 60 210 [] (4, [(2, .arg 2), (1, .arg 1), (4, .arg 4), (3, .arg 3), (0, .index 338)], [], mcmXC_O, mcmXC_C, [])) mcmXC_ss mcmXC_rs = true := by decide +kernel
def mcmXC_r (v1_ v2 v3 v4_ v300 : Int32) (k_ : Nat) : Value := bif Nat.beq k_ 1 then .int v1_ else (bif Nat.beq k_ 2 then .int v2 else (bif Nat.beq k_ 3 then .int v3 else (bif Nat.beq k_ 4 then .int v4_ else (bif Nat.beq k_ 300 then .int v300 else (.int 0)))))
def mcmXC_s (n_ : Nat) : Nat := 0
theorem mcmXC {h_ : xH} {v1_ v2 v3 v4_ v300 : Int32} (hs : sHp h_) (o0_ : bpat h_ 339 3 = some (.int v300)) (c0_ : v300.toInt ≤ v2.toInt) : ∃ h', ysm h_ h' ∧ (((bpat h' 339 3 = some (.int v1_)) ∧ (∀ a_ j_ : Nat, ¬ (a_ = 339 ∧ j_ = 3) → bpat h' a_ j_ = bpat h_ a_ j_) ∧ (∀ D_, 60 ≤ D_ → xrun D_ 210 4 [(2, .int v2), (1, .int v1_), (4, .int v4_), (3, .int v3), (0, .index 338)] [] h_ (none, h', [])))) := by
  have hA : yas mcmXC_A (mcmXC_r v1_ v2 v3 v4_ v300) (yg mcmXC_s) := ⟨fun q_ hq => absurd hq List.not_mem_nil, fun q_ hq => absurd hq List.not_mem_nil, fun q_ hq => absurd hq List.not_mem_nil, fun n_ hn => yg_lo hn, fun q_ hq => absurd hq List.not_mem_nil⟩
  have Hs : ysh mcmXC_A.1 (yg mcmXC_s) h_ := ysh_of2 hs (fun q_ hq => absurd hq List.not_mem_nil)
  have Ho : ymem (mcmXC_r v1_ v2 v3 v4_ v300) (yg mcmXC_s) mcmXC_O h_ := List.forall_mem_cons.mpr ⟨bpat_some (fxr_at hs.2 (show fxk fxl 338 0 = some 339 by decide +kernel)), List.forall_mem_cons.mpr ⟨bpat_some o0_, fun q_ hq => absurd hq List.not_mem_nil⟩⟩
  have HC : ∀ q_ ∈ mcmXC_C, xhold (mcmXC_r v1_ v2 v3 v4_ v300) q_ := List.forall_mem_cons.mpr ⟨xh_ltF c0_, fun q_ hq => absurd hq List.not_mem_nil⟩
  rcases yrun (yis_ok mcmXC_k) hA Hs Ho HC with ⟨q_, hq, h', K_, G_⟩ | ⟨q_, hq, h', K_, G_⟩
  · cases hq
  · have e_ := List.mem_singleton.mp hq
    subst e_
    exact ⟨h', yfr_sm K_.2.2.2 hs K_.1 (ywa_r mcmXC_w List.mem_cons_self), ⟨bpat_of (K_.2.1 _ List.mem_cons_self), fun a_ j_ n0_ => yfr_bp K_.2.2.2 (List.forall_mem_cons.mpr ⟨fun e_ => n0_ ⟨e_.1.symm, e_.2.symm⟩, fun q_ hq => absurd hq List.not_mem_nil⟩), G_⟩⟩
-- mcmLC: 25 steps, 1 ends, 0 returns
def mcmLC_L : List (Nat × Nat × Nat) := []
def mcmLC_O : yO := [(338, .int 0, .index 339), (339, .int 3, .arg 300), (339, .add (.int 190) (.mul (.int 14) (.arg 2)), .arg 301), (339, .int 2, .arg 302)]
def mcmLC_A : yA := (yZ mcmLC_L, [(.add (.int 190) (.mul (.int 14) (.arg 2)), 768)], [], [], [])
def mcmLC_C : List xB := [(.le, .arg 301, .arg 302, true), (.lt, .arg 2, .arg 300, true)]
def mcmLC_ss : List yS := [(42, [(3, .add (.int 190) (.mul (.int 14) (.arg 2))), (2, .arg 2), (1, .arg 1), (4, .arg 4), (0, .index 338)], [.add (.add (.int 190) (.mul (.int 14) (.arg 2))) (.int 1), .index 338], [(338, .int 0, .index 339), (339, .int 3, .arg 300), (339, .add (.int 190) (.mul (.int 14) (.arg 2)), .arg 301), (339, .int 2, .arg 302)], [(.le, .arg 301, .arg 302, true), (.lt, .arg 2, .arg 300, true)], [])]
def mcmLC_rs : List yR := []
theorem mcmLC_w : ywa mcmLC_A mcmLC_ss mcmLC_rs = true := by decide +kernel
theorem mcmLC_k : yis (yev mcmLC_A 3000 60 210 [42] (4, [(2, .arg 2), (1, .arg 1), (4, .arg 4), (3, .arg 3), (0, .index 338)], [], mcmLC_O, mcmLC_C, [])) mcmLC_ss mcmLC_rs = true := by decide +kernel
def mcmLC_r (v1_ v2 v3 v4_ v300 v301 v302 : Int32) (k_ : Nat) : Value := bif Nat.beq k_ 1 then .int v1_ else (bif Nat.beq k_ 2 then .int v2 else (bif Nat.beq k_ 3 then .int v3 else (bif Nat.beq k_ 4 then .int v4_ else (bif Nat.beq k_ 300 then .int v300 else (bif Nat.beq k_ 301 then .int v301 else (bif Nat.beq k_ 302 then .int v302 else (.int 0)))))))
def mcmLC_s (n_ : Nat) : Nat := 0
theorem mcmLC {h_ : xH} {v1_ v2 v3 v4_ v300 v301 v302 : Int32} (hs : sHp h_) (o0_ : bpat h_ 339 3 = some (.int v300)) (o1 : bpat h_ 339 (((190 : Int32) + ((14 : Int32) * v2))).toInt.toNat = some (.int v301)) (o2 : bpat h_ 339 2 = some (.int v302)) (b0 : 0 ≤ (((190 : Int32) + ((14 : Int32) * v2))).toInt ∧ (((190 : Int32) + ((14 : Int32) * v2))).toInt < 768) (c0_ : v301.toInt ≤ v302.toInt) (c1_ : v2.toInt < v300.toInt) : ∃ h', ysm h_ h' ∧ (((∀ a_ j_ : Nat, bpat h' a_ j_ = bpat h_ a_ j_) ∧ (bldD 60 210 4 [(2, .int v2), (1, .int v1_), (4, .int v4_), (3, .int v3), (0, .index 338)] [] h_ 42 [(3, .int ((190 : Int32) + ((14 : Int32) * v2))), (2, .int v2), (1, .int v1_), (4, .int v4_), (0, .index 338)] [.int (((190 : Int32) + ((14 : Int32) * v2)) + (1 : Int32)), .index 338] h'))) := by
  have hA : yas mcmLC_A (mcmLC_r v1_ v2 v3 v4_ v300 v301 v302) (yg mcmLC_s) := ⟨List.forall_mem_cons.mpr ⟨b0, fun q_ hq => absurd hq List.not_mem_nil⟩, fun q_ hq => absurd hq List.not_mem_nil, fun q_ hq => absurd hq List.not_mem_nil, fun n_ hn => yg_lo hn, fun q_ hq => absurd hq List.not_mem_nil⟩
  have Hs : ysh mcmLC_A.1 (yg mcmLC_s) h_ := ysh_of2 hs (fun q_ hq => absurd hq List.not_mem_nil)
  have Ho : ymem (mcmLC_r v1_ v2 v3 v4_ v300 v301 v302) (yg mcmLC_s) mcmLC_O h_ := List.forall_mem_cons.mpr ⟨bpat_some (fxr_at hs.2 (show fxk fxl 338 0 = some 339 by decide +kernel)), List.forall_mem_cons.mpr ⟨bpat_some o0_, List.forall_mem_cons.mpr ⟨bpat_some o1, List.forall_mem_cons.mpr ⟨bpat_some o2, fun q_ hq => absurd hq List.not_mem_nil⟩⟩⟩⟩
  have HC : ∀ q_ ∈ mcmLC_C, xhold (mcmLC_r v1_ v2 v3 v4_ v300 v301 v302) q_ := List.forall_mem_cons.mpr ⟨xh_leT c0_, List.forall_mem_cons.mpr ⟨xh_ltT c1_, fun q_ hq => absurd hq List.not_mem_nil⟩⟩
  rcases yrun (yis_ok mcmLC_k) hA Hs Ho HC with ⟨q_, hq, h', K_, G_⟩ | ⟨q_, hq, h', K_, G_⟩
  · have e_ := List.mem_singleton.mp hq
    subst e_
    exact ⟨h', yfr_sm K_.2.2.2 hs K_.1 (ywa_s mcmLC_w List.mem_cons_self), ⟨fun a_ j_ => yfr_bp K_.2.2.2 (fun q_ hq => absurd hq List.not_mem_nil), G_⟩⟩
  · cases hq
-- mcmKC: 23 steps, 1 ends, 0 returns
def mcmKC_L : List (Nat × Nat × Nat) := []
def mcmKC_O : yO := [(338, .int 0, .index 339), (339, .int 3, .arg 300), (339, .add (.int 190) (.mul (.int 14) (.arg 2)), .arg 301), (339, .int 2, .arg 302)]
def mcmKC_A : yA := (yZ mcmKC_L, [(.add (.int 190) (.mul (.int 14) (.arg 2)), 768)], [], [], [])
def mcmKC_C : List xB := [(.le, .arg 301, .arg 302, false), (.lt, .arg 2, .arg 300, true)]
def mcmKC_ss : List yS := [(51, [(4, .int 0), (3, .add (.int 190) (.mul (.int 14) (.arg 2))), (2, .arg 2), (1, .arg 1), (0, .index 338)], [], [(338, .int 0, .index 339), (339, .int 3, .arg 300), (339, .add (.int 190) (.mul (.int 14) (.arg 2)), .arg 301), (339, .int 2, .arg 302)], [(.le, .arg 301, .arg 302, false), (.lt, .arg 2, .arg 300, true)], [])]
def mcmKC_rs : List yR := []
theorem mcmKC_w : ywa mcmKC_A mcmKC_ss mcmKC_rs = true := by decide +kernel
theorem mcmKC_k : yis (yev mcmKC_A 3000 60 210 [51] (4, [(2, .arg 2), (1, .arg 1), (4, .arg 4), (3, .arg 3), (0, .index 338)], [], mcmKC_O, mcmKC_C, [])) mcmKC_ss mcmKC_rs = true := by decide +kernel
def mcmKC_r (v1_ v2 v3 v4_ v300 v301 v302 : Int32) (k_ : Nat) : Value := bif Nat.beq k_ 1 then .int v1_ else (bif Nat.beq k_ 2 then .int v2 else (bif Nat.beq k_ 3 then .int v3 else (bif Nat.beq k_ 4 then .int v4_ else (bif Nat.beq k_ 300 then .int v300 else (bif Nat.beq k_ 301 then .int v301 else (bif Nat.beq k_ 302 then .int v302 else (.int 0)))))))
def mcmKC_s (n_ : Nat) : Nat := 0
theorem mcmKC {h_ : xH} {v1_ v2 v3 v4_ v300 v301 v302 : Int32} (hs : sHp h_) (o0_ : bpat h_ 339 3 = some (.int v300)) (o1 : bpat h_ 339 (((190 : Int32) + ((14 : Int32) * v2))).toInt.toNat = some (.int v301)) (o2 : bpat h_ 339 2 = some (.int v302)) (b0 : 0 ≤ (((190 : Int32) + ((14 : Int32) * v2))).toInt ∧ (((190 : Int32) + ((14 : Int32) * v2))).toInt < 768) (c0_ : v302.toInt < v301.toInt) (c1_ : v2.toInt < v300.toInt) : ∃ h', ysm h_ h' ∧ (((∀ a_ j_ : Nat, bpat h' a_ j_ = bpat h_ a_ j_) ∧ (bldD 60 210 4 [(2, .int v2), (1, .int v1_), (4, .int v4_), (3, .int v3), (0, .index 338)] [] h_ 51 [(4, .int (0 : Int32)), (3, .int ((190 : Int32) + ((14 : Int32) * v2))), (2, .int v2), (1, .int v1_), (0, .index 338)] [] h'))) := by
  have hA : yas mcmKC_A (mcmKC_r v1_ v2 v3 v4_ v300 v301 v302) (yg mcmKC_s) := ⟨List.forall_mem_cons.mpr ⟨b0, fun q_ hq => absurd hq List.not_mem_nil⟩, fun q_ hq => absurd hq List.not_mem_nil, fun q_ hq => absurd hq List.not_mem_nil, fun n_ hn => yg_lo hn, fun q_ hq => absurd hq List.not_mem_nil⟩
  have Hs : ysh mcmKC_A.1 (yg mcmKC_s) h_ := ysh_of2 hs (fun q_ hq => absurd hq List.not_mem_nil)
  have Ho : ymem (mcmKC_r v1_ v2 v3 v4_ v300 v301 v302) (yg mcmKC_s) mcmKC_O h_ := List.forall_mem_cons.mpr ⟨bpat_some (fxr_at hs.2 (show fxk fxl 338 0 = some 339 by decide +kernel)), List.forall_mem_cons.mpr ⟨bpat_some o0_, List.forall_mem_cons.mpr ⟨bpat_some o1, List.forall_mem_cons.mpr ⟨bpat_some o2, fun q_ hq => absurd hq List.not_mem_nil⟩⟩⟩⟩
  have HC : ∀ q_ ∈ mcmKC_C, xhold (mcmKC_r v1_ v2 v3 v4_ v300 v301 v302) q_ := List.forall_mem_cons.mpr ⟨xh_leF c0_, List.forall_mem_cons.mpr ⟨xh_ltT c1_, fun q_ hq => absurd hq List.not_mem_nil⟩⟩
  rcases yrun (yis_ok mcmKC_k) hA Hs Ho HC with ⟨q_, hq, h', K_, G_⟩ | ⟨q_, hq, h', K_, G_⟩
  · have e_ := List.mem_singleton.mp hq
    subst e_
    exact ⟨h', yfr_sm K_.2.2.2 hs K_.1 (ywa_s mcmKC_w List.mem_cons_self), ⟨fun a_ j_ => yfr_bp K_.2.2.2 (fun q_ hq => absurd hq List.not_mem_nil), G_⟩⟩
  · cases hq
-- mcmXD: 12 steps, 0 ends, 1 returns
def mcmXD_L : List (Nat × Nat × Nat) := []
def mcmXD_O : yO := [(338, .int 0, .index 339), (339, .int 3, .arg 300)]
def mcmXD_A : yA := (yZ mcmXD_L, [], [], [], [])
def mcmXD_C : List xB := [(.lt, .arg 2, .arg 300, false)]
def mcmXD_ss : List yS := []
def mcmXD_rs : List yR := [(none, [(339, .int 3, .arg 1), (338, .int 0, .index 339)], [(.lt, .arg 2, .arg 300, false)], [(339, .int 3)])]
theorem mcmXD_w : ywa mcmXD_A mcmXD_ss mcmXD_rs = true := by decide +kernel
theorem mcmXD_k : yis (yev mcmXD_A 3000 60 210 [] (4, [(2, .arg 2), (3, .arg 3), (1, .arg 1), (4, .arg 4), (0, .index 338)], [], mcmXD_O, mcmXD_C, [])) mcmXD_ss mcmXD_rs = true := by decide +kernel
def mcmXD_r (v1_ v2 v3 v4_ v300 : Int32) (k_ : Nat) : Value := bif Nat.beq k_ 1 then .int v1_ else (bif Nat.beq k_ 2 then .int v2 else (bif Nat.beq k_ 3 then .int v3 else (bif Nat.beq k_ 4 then .int v4_ else (bif Nat.beq k_ 300 then .int v300 else (.int 0)))))
def mcmXD_s (n_ : Nat) : Nat := 0
theorem mcmXD {h_ : xH} {v1_ v2 v3 v4_ v300 : Int32} (hs : sHp h_) (o0_ : bpat h_ 339 3 = some (.int v300)) (c0_ : v300.toInt ≤ v2.toInt) : ∃ h', ysm h_ h' ∧ (((bpat h' 339 3 = some (.int v1_)) ∧ (∀ a_ j_ : Nat, ¬ (a_ = 339 ∧ j_ = 3) → bpat h' a_ j_ = bpat h_ a_ j_) ∧ (∀ D_, 60 ≤ D_ → xrun D_ 210 4 [(2, .int v2), (3, .int v3), (1, .int v1_), (4, .int v4_), (0, .index 338)] [] h_ (none, h', [])))) := by
  have hA : yas mcmXD_A (mcmXD_r v1_ v2 v3 v4_ v300) (yg mcmXD_s) := ⟨fun q_ hq => absurd hq List.not_mem_nil, fun q_ hq => absurd hq List.not_mem_nil, fun q_ hq => absurd hq List.not_mem_nil, fun n_ hn => yg_lo hn, fun q_ hq => absurd hq List.not_mem_nil⟩
  have Hs : ysh mcmXD_A.1 (yg mcmXD_s) h_ := ysh_of2 hs (fun q_ hq => absurd hq List.not_mem_nil)
  have Ho : ymem (mcmXD_r v1_ v2 v3 v4_ v300) (yg mcmXD_s) mcmXD_O h_ := List.forall_mem_cons.mpr ⟨bpat_some (fxr_at hs.2 (show fxk fxl 338 0 = some 339 by decide +kernel)), List.forall_mem_cons.mpr ⟨bpat_some o0_, fun q_ hq => absurd hq List.not_mem_nil⟩⟩
  have HC : ∀ q_ ∈ mcmXD_C, xhold (mcmXD_r v1_ v2 v3 v4_ v300) q_ := List.forall_mem_cons.mpr ⟨xh_ltF c0_, fun q_ hq => absurd hq List.not_mem_nil⟩
  rcases yrun (yis_ok mcmXD_k) hA Hs Ho HC with ⟨q_, hq, h', K_, G_⟩ | ⟨q_, hq, h', K_, G_⟩
  · cases hq
  · have e_ := List.mem_singleton.mp hq
    subst e_
    exact ⟨h', yfr_sm K_.2.2.2 hs K_.1 (ywa_r mcmXD_w List.mem_cons_self), ⟨bpat_of (K_.2.1 _ List.mem_cons_self), fun a_ j_ n0_ => yfr_bp K_.2.2.2 (List.forall_mem_cons.mpr ⟨fun e_ => n0_ ⟨e_.1.symm, e_.2.symm⟩, fun q_ hq => absurd hq List.not_mem_nil⟩), G_⟩⟩
-- mcmLD: 25 steps, 1 ends, 0 returns
def mcmLD_L : List (Nat × Nat × Nat) := []
def mcmLD_O : yO := [(338, .int 0, .index 339), (339, .int 3, .arg 300), (339, .add (.int 190) (.mul (.int 14) (.arg 2)), .arg 301), (339, .int 2, .arg 302)]
def mcmLD_A : yA := (yZ mcmLD_L, [(.add (.int 190) (.mul (.int 14) (.arg 2)), 768)], [], [], [])
def mcmLD_C : List xB := [(.le, .arg 301, .arg 302, true), (.lt, .arg 2, .arg 300, true)]
def mcmLD_ss : List yS := [(42, [(3, .add (.int 190) (.mul (.int 14) (.arg 2))), (2, .arg 2), (1, .arg 1), (4, .arg 4), (0, .index 338)], [.add (.add (.int 190) (.mul (.int 14) (.arg 2))) (.int 1), .index 338], [(338, .int 0, .index 339), (339, .int 3, .arg 300), (339, .add (.int 190) (.mul (.int 14) (.arg 2)), .arg 301), (339, .int 2, .arg 302)], [(.le, .arg 301, .arg 302, true), (.lt, .arg 2, .arg 300, true)], [])]
def mcmLD_rs : List yR := []
theorem mcmLD_w : ywa mcmLD_A mcmLD_ss mcmLD_rs = true := by decide +kernel
theorem mcmLD_k : yis (yev mcmLD_A 3000 60 210 [42] (4, [(2, .arg 2), (3, .arg 3), (1, .arg 1), (4, .arg 4), (0, .index 338)], [], mcmLD_O, mcmLD_C, [])) mcmLD_ss mcmLD_rs = true := by decide +kernel
def mcmLD_r (v1_ v2 v3 v4_ v300 v301 v302 : Int32) (k_ : Nat) : Value := bif Nat.beq k_ 1 then .int v1_ else (bif Nat.beq k_ 2 then .int v2 else (bif Nat.beq k_ 3 then .int v3 else (bif Nat.beq k_ 4 then .int v4_ else (bif Nat.beq k_ 300 then .int v300 else (bif Nat.beq k_ 301 then .int v301 else (bif Nat.beq k_ 302 then .int v302 else (.int 0)))))))
def mcmLD_s (n_ : Nat) : Nat := 0
theorem mcmLD {h_ : xH} {v1_ v2 v3 v4_ v300 v301 v302 : Int32} (hs : sHp h_) (o0_ : bpat h_ 339 3 = some (.int v300)) (o1 : bpat h_ 339 (((190 : Int32) + ((14 : Int32) * v2))).toInt.toNat = some (.int v301)) (o2 : bpat h_ 339 2 = some (.int v302)) (b0 : 0 ≤ (((190 : Int32) + ((14 : Int32) * v2))).toInt ∧ (((190 : Int32) + ((14 : Int32) * v2))).toInt < 768) (c0_ : v301.toInt ≤ v302.toInt) (c1_ : v2.toInt < v300.toInt) : ∃ h', ysm h_ h' ∧ (((∀ a_ j_ : Nat, bpat h' a_ j_ = bpat h_ a_ j_) ∧ (bldD 60 210 4 [(2, .int v2), (3, .int v3), (1, .int v1_), (4, .int v4_), (0, .index 338)] [] h_ 42 [(3, .int ((190 : Int32) + ((14 : Int32) * v2))), (2, .int v2), (1, .int v1_), (4, .int v4_), (0, .index 338)] [.int (((190 : Int32) + ((14 : Int32) * v2)) + (1 : Int32)), .index 338] h'))) := by
  have hA : yas mcmLD_A (mcmLD_r v1_ v2 v3 v4_ v300 v301 v302) (yg mcmLD_s) := ⟨List.forall_mem_cons.mpr ⟨b0, fun q_ hq => absurd hq List.not_mem_nil⟩, fun q_ hq => absurd hq List.not_mem_nil, fun q_ hq => absurd hq List.not_mem_nil, fun n_ hn => yg_lo hn, fun q_ hq => absurd hq List.not_mem_nil⟩
  have Hs : ysh mcmLD_A.1 (yg mcmLD_s) h_ := ysh_of2 hs (fun q_ hq => absurd hq List.not_mem_nil)
  have Ho : ymem (mcmLD_r v1_ v2 v3 v4_ v300 v301 v302) (yg mcmLD_s) mcmLD_O h_ := List.forall_mem_cons.mpr ⟨bpat_some (fxr_at hs.2 (show fxk fxl 338 0 = some 339 by decide +kernel)), List.forall_mem_cons.mpr ⟨bpat_some o0_, List.forall_mem_cons.mpr ⟨bpat_some o1, List.forall_mem_cons.mpr ⟨bpat_some o2, fun q_ hq => absurd hq List.not_mem_nil⟩⟩⟩⟩
  have HC : ∀ q_ ∈ mcmLD_C, xhold (mcmLD_r v1_ v2 v3 v4_ v300 v301 v302) q_ := List.forall_mem_cons.mpr ⟨xh_leT c0_, List.forall_mem_cons.mpr ⟨xh_ltT c1_, fun q_ hq => absurd hq List.not_mem_nil⟩⟩
  rcases yrun (yis_ok mcmLD_k) hA Hs Ho HC with ⟨q_, hq, h', K_, G_⟩ | ⟨q_, hq, h', K_, G_⟩
  · have e_ := List.mem_singleton.mp hq
    subst e_
    exact ⟨h', yfr_sm K_.2.2.2 hs K_.1 (ywa_s mcmLD_w List.mem_cons_self), ⟨fun a_ j_ => yfr_bp K_.2.2.2 (fun q_ hq => absurd hq List.not_mem_nil), G_⟩⟩
  · cases hq
-- mcmKD: 23 steps, 1 ends, 0 returns
def mcmKD_L : List (Nat × Nat × Nat) := []
def mcmKD_O : yO := [(338, .int 0, .index 339), (339, .int 3, .arg 300), (339, .add (.int 190) (.mul (.int 14) (.arg 2)), .arg 301), (339, .int 2, .arg 302)]
def mcmKD_A : yA := (yZ mcmKD_L, [(.add (.int 190) (.mul (.int 14) (.arg 2)), 768)], [], [], [])
def mcmKD_C : List xB := [(.le, .arg 301, .arg 302, false), (.lt, .arg 2, .arg 300, true)]
def mcmKD_ss : List yS := [(51, [(4, .int 0), (3, .add (.int 190) (.mul (.int 14) (.arg 2))), (2, .arg 2), (1, .arg 1), (0, .index 338)], [], [(338, .int 0, .index 339), (339, .int 3, .arg 300), (339, .add (.int 190) (.mul (.int 14) (.arg 2)), .arg 301), (339, .int 2, .arg 302)], [(.le, .arg 301, .arg 302, false), (.lt, .arg 2, .arg 300, true)], [])]
def mcmKD_rs : List yR := []
theorem mcmKD_w : ywa mcmKD_A mcmKD_ss mcmKD_rs = true := by decide +kernel
theorem mcmKD_k : yis (yev mcmKD_A 3000 60 210 [51] (4, [(2, .arg 2), (3, .arg 3), (1, .arg 1), (4, .arg 4), (0, .index 338)], [], mcmKD_O, mcmKD_C, [])) mcmKD_ss mcmKD_rs = true := by decide +kernel
def mcmKD_r (v1_ v2 v3 v4_ v300 v301 v302 : Int32) (k_ : Nat) : Value := bif Nat.beq k_ 1 then .int v1_ else (bif Nat.beq k_ 2 then .int v2 else (bif Nat.beq k_ 3 then .int v3 else (bif Nat.beq k_ 4 then .int v4_ else (bif Nat.beq k_ 300 then .int v300 else (bif Nat.beq k_ 301 then .int v301 else (bif Nat.beq k_ 302 then .int v302 else (.int 0)))))))
def mcmKD_s (n_ : Nat) : Nat := 0
theorem mcmKD {h_ : xH} {v1_ v2 v3 v4_ v300 v301 v302 : Int32} (hs : sHp h_) (o0_ : bpat h_ 339 3 = some (.int v300)) (o1 : bpat h_ 339 (((190 : Int32) + ((14 : Int32) * v2))).toInt.toNat = some (.int v301)) (o2 : bpat h_ 339 2 = some (.int v302)) (b0 : 0 ≤ (((190 : Int32) + ((14 : Int32) * v2))).toInt ∧ (((190 : Int32) + ((14 : Int32) * v2))).toInt < 768) (c0_ : v302.toInt < v301.toInt) (c1_ : v2.toInt < v300.toInt) : ∃ h', ysm h_ h' ∧ (((∀ a_ j_ : Nat, bpat h' a_ j_ = bpat h_ a_ j_) ∧ (bldD 60 210 4 [(2, .int v2), (3, .int v3), (1, .int v1_), (4, .int v4_), (0, .index 338)] [] h_ 51 [(4, .int (0 : Int32)), (3, .int ((190 : Int32) + ((14 : Int32) * v2))), (2, .int v2), (1, .int v1_), (0, .index 338)] [] h'))) := by
  have hA : yas mcmKD_A (mcmKD_r v1_ v2 v3 v4_ v300 v301 v302) (yg mcmKD_s) := ⟨List.forall_mem_cons.mpr ⟨b0, fun q_ hq => absurd hq List.not_mem_nil⟩, fun q_ hq => absurd hq List.not_mem_nil, fun q_ hq => absurd hq List.not_mem_nil, fun n_ hn => yg_lo hn, fun q_ hq => absurd hq List.not_mem_nil⟩
  have Hs : ysh mcmKD_A.1 (yg mcmKD_s) h_ := ysh_of2 hs (fun q_ hq => absurd hq List.not_mem_nil)
  have Ho : ymem (mcmKD_r v1_ v2 v3 v4_ v300 v301 v302) (yg mcmKD_s) mcmKD_O h_ := List.forall_mem_cons.mpr ⟨bpat_some (fxr_at hs.2 (show fxk fxl 338 0 = some 339 by decide +kernel)), List.forall_mem_cons.mpr ⟨bpat_some o0_, List.forall_mem_cons.mpr ⟨bpat_some o1, List.forall_mem_cons.mpr ⟨bpat_some o2, fun q_ hq => absurd hq List.not_mem_nil⟩⟩⟩⟩
  have HC : ∀ q_ ∈ mcmKD_C, xhold (mcmKD_r v1_ v2 v3 v4_ v300 v301 v302) q_ := List.forall_mem_cons.mpr ⟨xh_leF c0_, List.forall_mem_cons.mpr ⟨xh_ltT c1_, fun q_ hq => absurd hq List.not_mem_nil⟩⟩
  rcases yrun (yis_ok mcmKD_k) hA Hs Ho HC with ⟨q_, hq, h', K_, G_⟩ | ⟨q_, hq, h', K_, G_⟩
  · have e_ := List.mem_singleton.mp hq
    subst e_
    exact ⟨h', yfr_sm K_.2.2.2 hs K_.1 (ywa_s mcmKD_w List.mem_cons_self), ⟨fun a_ j_ => yfr_bp K_.2.2.2 (fun q_ hq => absurd hq List.not_mem_nil), G_⟩⟩
  · cases hq
-- mcmNA: 3 steps, 1 ends, 0 returns
def mcmNA_L : List (Nat × Nat × Nat) := []
def mcmNA_O : yO := []
def mcmNA_A : yA := (yZ mcmNA_L, [], [], [], [])
def mcmNA_C : List xB := []
def mcmNA_ss : List yS := [(4, [(2, .add (.arg 2) (.int 1)), (3, .arg 3), (1, .arg 1), (0, .index 338)], [], [], [], [])]
def mcmNA_rs : List yR := []
theorem mcmNA_w : ywa mcmNA_A mcmNA_ss mcmNA_rs = true := by decide +kernel
theorem mcmNA_k : yis (yev mcmNA_A 3000 60 210 [4] (45, [(3, .arg 3), (2, .arg 2), (1, .arg 1), (0, .index 338)], [], mcmNA_O, mcmNA_C, [])) mcmNA_ss mcmNA_rs = true := by decide +kernel
def mcmNA_r (v1_ v2 v3 : Int32) (k_ : Nat) : Value := bif Nat.beq k_ 1 then .int v1_ else (bif Nat.beq k_ 2 then .int v2 else (bif Nat.beq k_ 3 then .int v3 else (.int 0)))
def mcmNA_s (n_ : Nat) : Nat := 0
theorem mcmNA {h_ : xH} {v1_ v2 v3 : Int32} (hs : sHp h_) : ∃ h', ysm h_ h' ∧ (((∀ a_ j_ : Nat, bpat h' a_ j_ = bpat h_ a_ j_) ∧ (bldD 60 210 45 [(3, .int v3), (2, .int v2), (1, .int v1_), (0, .index 338)] [] h_ 4 [(2, .int (v2 + (1 : Int32))), (3, .int v3), (1, .int v1_), (0, .index 338)] [] h'))) := by
  have hA : yas mcmNA_A (mcmNA_r v1_ v2 v3) (yg mcmNA_s) := ⟨fun q_ hq => absurd hq List.not_mem_nil, fun q_ hq => absurd hq List.not_mem_nil, fun q_ hq => absurd hq List.not_mem_nil, fun n_ hn => yg_lo hn, fun q_ hq => absurd hq List.not_mem_nil⟩
  have Hs : ysh mcmNA_A.1 (yg mcmNA_s) h_ := ysh_of2 hs (fun q_ hq => absurd hq List.not_mem_nil)
  have Ho : ymem (mcmNA_r v1_ v2 v3) (yg mcmNA_s) mcmNA_O h_ := fun q_ hq => absurd hq List.not_mem_nil
  have HC : ∀ q_ ∈ mcmNA_C, xhold (mcmNA_r v1_ v2 v3) q_ := fun q_ hq => absurd hq List.not_mem_nil
  rcases yrun (yis_ok mcmNA_k) hA Hs Ho HC with ⟨q_, hq, h', K_, G_⟩ | ⟨q_, hq, h', K_, G_⟩
  · have e_ := List.mem_singleton.mp hq
    subst e_
    exact ⟨h', yfr_sm K_.2.2.2 hs K_.1 (ywa_s mcmNA_w List.mem_cons_self), ⟨fun a_ j_ => yfr_bp K_.2.2.2 (fun q_ hq => absurd hq List.not_mem_nil), G_⟩⟩
  · cases hq
-- mcmNC: 3 steps, 1 ends, 0 returns
def mcmNC_L : List (Nat × Nat × Nat) := []
def mcmNC_O : yO := []
def mcmNC_A : yA := (yZ mcmNC_L, [], [], [], [])
def mcmNC_C : List xB := []
def mcmNC_ss : List yS := [(4, [(2, .add (.arg 2) (.int 1)), (3, .arg 3), (1, .arg 1), (4, .arg 4), (0, .index 338)], [], [], [], [])]
def mcmNC_rs : List yR := []
theorem mcmNC_w : ywa mcmNC_A mcmNC_ss mcmNC_rs = true := by decide +kernel
theorem mcmNC_k : yis (yev mcmNC_A 3000 60 210 [4] (45, [(3, .arg 3), (2, .arg 2), (1, .arg 1), (4, .arg 4), (0, .index 338)], [], mcmNC_O, mcmNC_C, [])) mcmNC_ss mcmNC_rs = true := by decide +kernel
def mcmNC_r (v1_ v2 v3 v4_ : Int32) (k_ : Nat) : Value := bif Nat.beq k_ 1 then .int v1_ else (bif Nat.beq k_ 2 then .int v2 else (bif Nat.beq k_ 3 then .int v3 else (bif Nat.beq k_ 4 then .int v4_ else (.int 0))))
def mcmNC_s (n_ : Nat) : Nat := 0
theorem mcmNC {h_ : xH} {v1_ v2 v3 v4_ : Int32} (hs : sHp h_) : ∃ h', ysm h_ h' ∧ (((∀ a_ j_ : Nat, bpat h' a_ j_ = bpat h_ a_ j_) ∧ (bldD 60 210 45 [(3, .int v3), (2, .int v2), (1, .int v1_), (4, .int v4_), (0, .index 338)] [] h_ 4 [(2, .int (v2 + (1 : Int32))), (3, .int v3), (1, .int v1_), (4, .int v4_), (0, .index 338)] [] h'))) := by
  have hA : yas mcmNC_A (mcmNC_r v1_ v2 v3 v4_) (yg mcmNC_s) := ⟨fun q_ hq => absurd hq List.not_mem_nil, fun q_ hq => absurd hq List.not_mem_nil, fun q_ hq => absurd hq List.not_mem_nil, fun n_ hn => yg_lo hn, fun q_ hq => absurd hq List.not_mem_nil⟩
  have Hs : ysh mcmNC_A.1 (yg mcmNC_s) h_ := ysh_of2 hs (fun q_ hq => absurd hq List.not_mem_nil)
  have Ho : ymem (mcmNC_r v1_ v2 v3 v4_) (yg mcmNC_s) mcmNC_O h_ := fun q_ hq => absurd hq List.not_mem_nil
  have HC : ∀ q_ ∈ mcmNC_C, xhold (mcmNC_r v1_ v2 v3 v4_) q_ := fun q_ hq => absurd hq List.not_mem_nil
  rcases yrun (yis_ok mcmNC_k) hA Hs Ho HC with ⟨q_, hq, h', K_, G_⟩ | ⟨q_, hq, h', K_, G_⟩
  · have e_ := List.mem_singleton.mp hq
    subst e_
    exact ⟨h', yfr_sm K_.2.2.2 hs K_.1 (ywa_s mcmNC_w List.mem_cons_self), ⟨fun a_ j_ => yfr_bp K_.2.2.2 (fun q_ hq => absurd hq List.not_mem_nil), G_⟩⟩
  · cases hq
-- mcmI: 21 steps, 1 ends, 0 returns
def mcmI_L : List (Nat × Nat × Nat) := []
def mcmI_O : yO := [(338, .int 0, .index 339), (339, .add (.arg 3) (.arg 4), .arg 303)]
def mcmI_A : yA := (yZ mcmI_L, [(.add (.add (.int 190) (.mul (.int 14) (.arg 1))) (.arg 4), 768), (.add (.arg 3) (.arg 4), 768)], [], [], [])
def mcmI_C : List xB := [(.lt, .arg 4, .int 14, true)]
def mcmI_ss : List yS := [(51, [(4, .add (.arg 4) (.int 1)), (3, .arg 3), (2, .arg 2), (1, .arg 1), (0, .index 338)], [], [(339, .add (.add (.int 190) (.mul (.int 14) (.arg 1))) (.arg 4), .arg 303), (338, .int 0, .index 339)], [(.lt, .arg 4, .int 14, true)], [(339, .add (.add (.int 190) (.mul (.int 14) (.arg 1))) (.arg 4))])]
def mcmI_rs : List yR := []
theorem mcmI_w : ywa mcmI_A mcmI_ss mcmI_rs = true := by decide +kernel
theorem mcmI_k : yis (yev mcmI_A 3000 60 210 [51] (51, [(4, .arg 4), (3, .arg 3), (2, .arg 2), (1, .arg 1), (0, .index 338)], [], mcmI_O, mcmI_C, [])) mcmI_ss mcmI_rs = true := by decide +kernel
def mcmI_r (v1_ v2 v3 v4_ v303 : Int32) (k_ : Nat) : Value := bif Nat.beq k_ 1 then .int v1_ else (bif Nat.beq k_ 2 then .int v2 else (bif Nat.beq k_ 3 then .int v3 else (bif Nat.beq k_ 4 then .int v4_ else (bif Nat.beq k_ 303 then .int v303 else (.int 0)))))
def mcmI_s (n_ : Nat) : Nat := 0
theorem mcmI {h_ : xH} {v1_ v2 v3 v4_ v303 : Int32} (hs : sHp h_) (o0_ : bpat h_ 339 ((v3 + v4_)).toInt.toNat = some (.int v303)) (b0 : 0 ≤ ((((190 : Int32) + ((14 : Int32) * v1_)) + v4_)).toInt ∧ ((((190 : Int32) + ((14 : Int32) * v1_)) + v4_)).toInt < 768) (b1 : 0 ≤ ((v3 + v4_)).toInt ∧ ((v3 + v4_)).toInt < 768) (c0_ : v4_.toInt < (14 : Int32).toInt) : ∃ h', ysm h_ h' ∧ (((bpat h' 339 ((((190 : Int32) + ((14 : Int32) * v1_)) + v4_)).toInt.toNat = some (.int v303)) ∧ (∀ a_ j_ : Nat, ¬ (a_ = 339 ∧ j_ = ((((190 : Int32) + ((14 : Int32) * v1_)) + v4_)).toInt.toNat) → bpat h' a_ j_ = bpat h_ a_ j_) ∧ (bldD 60 210 51 [(4, .int v4_), (3, .int v3), (2, .int v2), (1, .int v1_), (0, .index 338)] [] h_ 51 [(4, .int (v4_ + (1 : Int32))), (3, .int v3), (2, .int v2), (1, .int v1_), (0, .index 338)] [] h'))) := by
  have hA : yas mcmI_A (mcmI_r v1_ v2 v3 v4_ v303) (yg mcmI_s) := ⟨List.forall_mem_cons.mpr ⟨b0, List.forall_mem_cons.mpr ⟨b1, fun q_ hq => absurd hq List.not_mem_nil⟩⟩, fun q_ hq => absurd hq List.not_mem_nil, fun q_ hq => absurd hq List.not_mem_nil, fun n_ hn => yg_lo hn, fun q_ hq => absurd hq List.not_mem_nil⟩
  have Hs : ysh mcmI_A.1 (yg mcmI_s) h_ := ysh_of2 hs (fun q_ hq => absurd hq List.not_mem_nil)
  have Ho : ymem (mcmI_r v1_ v2 v3 v4_ v303) (yg mcmI_s) mcmI_O h_ := List.forall_mem_cons.mpr ⟨bpat_some (fxr_at hs.2 (show fxk fxl 338 0 = some 339 by decide +kernel)), List.forall_mem_cons.mpr ⟨bpat_some o0_, fun q_ hq => absurd hq List.not_mem_nil⟩⟩
  have HC : ∀ q_ ∈ mcmI_C, xhold (mcmI_r v1_ v2 v3 v4_ v303) q_ := List.forall_mem_cons.mpr ⟨xh_ltT c0_, fun q_ hq => absurd hq List.not_mem_nil⟩
  rcases yrun (yis_ok mcmI_k) hA Hs Ho HC with ⟨q_, hq, h', K_, G_⟩ | ⟨q_, hq, h', K_, G_⟩
  · have e_ := List.mem_singleton.mp hq
    subst e_
    exact ⟨h', yfr_sm K_.2.2.2 hs K_.1 (ywa_s mcmI_w List.mem_cons_self), ⟨bpat_of (K_.2.1 _ List.mem_cons_self), fun a_ j_ n0_ => yfr_bp K_.2.2.2 (List.forall_mem_cons.mpr ⟨fun e_ => n0_ ⟨e_.1.symm, e_.2.symm⟩, fun q_ hq => absurd hq List.not_mem_nil⟩), G_⟩⟩
  · cases hq
-- mcmO: 6 steps, 1 ends, 0 returns
def mcmO_L : List (Nat × Nat × Nat) := []
def mcmO_O : yO := []
def mcmO_A : yA := (yZ mcmO_L, [], [], [], [])
def mcmO_C : List xB := [(.lt, .arg 4, .int 14, false)]
def mcmO_ss : List yS := [(4, [(2, .add (.arg 2) (.int 1)), (1, .add (.arg 1) (.int 1)), (4, .arg 4), (3, .arg 3), (0, .index 338)], [], [], [(.lt, .arg 4, .int 14, false)], [])]
def mcmO_rs : List yR := []
theorem mcmO_w : ywa mcmO_A mcmO_ss mcmO_rs = true := by decide +kernel
theorem mcmO_k : yis (yev mcmO_A 3000 60 210 [4] (51, [(4, .arg 4), (3, .arg 3), (2, .arg 2), (1, .arg 1), (0, .index 338)], [], mcmO_O, mcmO_C, [])) mcmO_ss mcmO_rs = true := by decide +kernel
def mcmO_r (v1_ v2 v3 v4_ : Int32) (k_ : Nat) : Value := bif Nat.beq k_ 1 then .int v1_ else (bif Nat.beq k_ 2 then .int v2 else (bif Nat.beq k_ 3 then .int v3 else (bif Nat.beq k_ 4 then .int v4_ else (.int 0))))
def mcmO_s (n_ : Nat) : Nat := 0
theorem mcmO {h_ : xH} {v1_ v2 v3 v4_ : Int32} (hs : sHp h_) (c0_ : (14 : Int32).toInt ≤ v4_.toInt) : ∃ h', ysm h_ h' ∧ (((∀ a_ j_ : Nat, bpat h' a_ j_ = bpat h_ a_ j_) ∧ (bldD 60 210 51 [(4, .int v4_), (3, .int v3), (2, .int v2), (1, .int v1_), (0, .index 338)] [] h_ 4 [(2, .int (v2 + (1 : Int32))), (1, .int (v1_ + (1 : Int32))), (4, .int v4_), (3, .int v3), (0, .index 338)] [] h'))) := by
  have hA : yas mcmO_A (mcmO_r v1_ v2 v3 v4_) (yg mcmO_s) := ⟨fun q_ hq => absurd hq List.not_mem_nil, fun q_ hq => absurd hq List.not_mem_nil, fun q_ hq => absurd hq List.not_mem_nil, fun n_ hn => yg_lo hn, fun q_ hq => absurd hq List.not_mem_nil⟩
  have Hs : ysh mcmO_A.1 (yg mcmO_s) h_ := ysh_of2 hs (fun q_ hq => absurd hq List.not_mem_nil)
  have Ho : ymem (mcmO_r v1_ v2 v3 v4_) (yg mcmO_s) mcmO_O h_ := fun q_ hq => absurd hq List.not_mem_nil
  have HC : ∀ q_ ∈ mcmO_C, xhold (mcmO_r v1_ v2 v3 v4_) q_ := List.forall_mem_cons.mpr ⟨xh_ltF c0_, fun q_ hq => absurd hq List.not_mem_nil⟩
  rcases yrun (yis_ok mcmO_k) hA Hs Ho HC with ⟨q_, hq, h', K_, G_⟩ | ⟨q_, hq, h', K_, G_⟩
  · have e_ := List.mem_singleton.mp hq
    subst e_
    exact ⟨h', yfr_sm K_.2.2.2 hs K_.1 (ywa_s mcmO_w List.mem_cons_self), ⟨fun a_ j_ => yfr_bp K_.2.2.2 (fun q_ hq => absurd hq List.not_mem_nil), G_⟩⟩
  · cases hq
-- mscE: 78 steps, 1 ends, 3 returns
def mscE_L : List (Nat × Nat × Nat) := []
def mscE_O : yO := [(338, .int 3, .index 341), (341, .int 1, .arg 400), (338, .int 0, .index 339), (339, .int 2, .arg 311), (341, .int 3, .arg 401)]
def mscE_A : yA := (yZ mscE_L, [], [], [], [])
def mscE_C : List xB := []
def mscE_ss : List yS := [(38, [(2, .int 0), (0, .index 338), (1, .arg 1)], [], [(338, .int 3, .index 341), (341, .int 1, .arg 400), (338, .int 0, .index 339), (339, .int 2, .arg 311), (341, .int 3, .arg 401)], [(.le, .add (.arg 311) (.arg 1), .int 9999, true), (.le, .arg 1, .int 60, true), (.lt, .arg 1, .int 1, false)], [])]
def mscE_rs : List yR := [(some (.int (Int32.ofInt (-1000001))), [(341, .int 1, .add (.arg 400) (.int 1)), (338, .int 3, .index 341), (338, .int 0, .index 339), (339, .int 2, .arg 311), (341, .int 3, .arg 401)], [(.lt, .arg 1, .int 1, true)], [(341, .int 1)]),
  (some (.int (Int32.ofInt (-1000001))), [(341, .int 1, .add (.arg 400) (.int 1)), (338, .int 3, .index 341), (338, .int 0, .index 339), (339, .int 2, .arg 311), (341, .int 3, .arg 401)], [(.le, .arg 1, .int 60, false), (.lt, .arg 1, .int 1, false)], [(341, .int 1)]),
  (some (.int (Int32.ofInt (-1000003))), [(341, .int 3, .add (.arg 401) (.int 1)), (338, .int 3, .index 341), (341, .int 1, .arg 400), (338, .int 0, .index 339), (339, .int 2, .arg 311)], [(.le, .add (.arg 311) (.arg 1), .int 9999, false), (.le, .arg 1, .int 60, true), (.lt, .arg 1, .int 1, false)], [(341, .int 3)])]
theorem mscE_w : ywa mscE_A mscE_ss mscE_rs = true := by decide +kernel
theorem mscE_k : yis (yev mscE_A 3000 60 212 [38] (0, [(0, .index 338), (1, .arg 1)], [], mscE_O, mscE_C, [])) mscE_ss mscE_rs = true := by decide +kernel
def mscE_r (v1_ v311 v400 v401 : Int32) (k_ : Nat) : Value := bif Nat.beq k_ 1 then .int v1_ else (bif Nat.beq k_ 311 then .int v311 else (bif Nat.beq k_ 400 then .int v400 else (bif Nat.beq k_ 401 then .int v401 else (.int 0))))
def mscE_s (n_ : Nat) : Nat := 0
theorem mscE {h_ : xH} {v1_ v311 v400 v401 : Int32} (hs : sHp h_) (o0_ : bpat h_ 341 1 = some (.int v400)) (o1 : bpat h_ 339 2 = some (.int v311)) (o2 : bpat h_ 341 3 = some (.int v401)) : ∃ h', ysm h_ h' ∧ ((((v311 + v1_).toInt ≤ (9999 : Int32).toInt) ∧ (v1_.toInt ≤ (60 : Int32).toInt) ∧ ((1 : Int32).toInt ≤ v1_.toInt) ∧ (∀ a_ j_ : Nat, bpat h' a_ j_ = bpat h_ a_ j_) ∧ (bldD 60 212 0 [(0, .index 338), (1, .int v1_)] [] h_ 38 [(2, .int (0 : Int32)), (0, .index 338), (1, .int v1_)] [] h'))
  ∨ ((v1_.toInt < (1 : Int32).toInt) ∧ (bpat h' 341 1 = some (.int (v400 + (1 : Int32)))) ∧ (∀ a_ j_ : Nat, ¬ (a_ = 341 ∧ j_ = 1) → bpat h' a_ j_ = bpat h_ a_ j_) ∧ (∀ D_, 60 ≤ D_ → xrun D_ 212 0 [(0, .index 338), (1, .int v1_)] [] h_ (some (.int (Int32.ofInt (-1000001))), h', [])))
  ∨ (((60 : Int32).toInt < v1_.toInt) ∧ ((1 : Int32).toInt ≤ v1_.toInt) ∧ (bpat h' 341 1 = some (.int (v400 + (1 : Int32)))) ∧ (∀ a_ j_ : Nat, ¬ (a_ = 341 ∧ j_ = 1) → bpat h' a_ j_ = bpat h_ a_ j_) ∧ (∀ D_, 60 ≤ D_ → xrun D_ 212 0 [(0, .index 338), (1, .int v1_)] [] h_ (some (.int (Int32.ofInt (-1000001))), h', [])))
  ∨ (((9999 : Int32).toInt < (v311 + v1_).toInt) ∧ (v1_.toInt ≤ (60 : Int32).toInt) ∧ ((1 : Int32).toInt ≤ v1_.toInt) ∧ (bpat h' 341 3 = some (.int (v401 + (1 : Int32)))) ∧ (∀ a_ j_ : Nat, ¬ (a_ = 341 ∧ j_ = 3) → bpat h' a_ j_ = bpat h_ a_ j_) ∧ (∀ D_, 60 ≤ D_ → xrun D_ 212 0 [(0, .index 338), (1, .int v1_)] [] h_ (some (.int (Int32.ofInt (-1000003))), h', [])))) := by
  have hA : yas mscE_A (mscE_r v1_ v311 v400 v401) (yg mscE_s) := ⟨fun q_ hq => absurd hq List.not_mem_nil, fun q_ hq => absurd hq List.not_mem_nil, fun q_ hq => absurd hq List.not_mem_nil, fun n_ hn => yg_lo hn, fun q_ hq => absurd hq List.not_mem_nil⟩
  have Hs : ysh mscE_A.1 (yg mscE_s) h_ := ysh_of2 hs (fun q_ hq => absurd hq List.not_mem_nil)
  have Ho : ymem (mscE_r v1_ v311 v400 v401) (yg mscE_s) mscE_O h_ := List.forall_mem_cons.mpr ⟨bpat_some (fxr_at hs.2 (show fxk fxl 338 3 = some 341 by decide +kernel)), List.forall_mem_cons.mpr ⟨bpat_some o0_, List.forall_mem_cons.mpr ⟨bpat_some (fxr_at hs.2 (show fxk fxl 338 0 = some 339 by decide +kernel)), List.forall_mem_cons.mpr ⟨bpat_some o1, List.forall_mem_cons.mpr ⟨bpat_some o2, fun q_ hq => absurd hq List.not_mem_nil⟩⟩⟩⟩⟩
  have HC : ∀ q_ ∈ mscE_C, xhold (mscE_r v1_ v311 v400 v401) q_ := fun q_ hq => absurd hq List.not_mem_nil
  rcases yrun (yis_ok mscE_k) hA Hs Ho HC with ⟨q_, hq, h', K_, G_⟩ | ⟨q_, hq, h', K_, G_⟩
  · have e_ := List.mem_singleton.mp hq
    subst e_
    exact ⟨h', yfr_sm K_.2.2.2 hs K_.1 (ywa_s mscE_w List.mem_cons_self), Or.inl (⟨xq_leT (yv_add2 rfl rfl) rfl (K_.2.2.1 _ List.mem_cons_self), xq_leT rfl rfl (K_.2.2.1 _ (List.mem_cons_of_mem _ List.mem_cons_self)), xq_ltF rfl rfl (K_.2.2.1 _ (List.mem_cons_of_mem _ (List.mem_cons_of_mem _ List.mem_cons_self))), fun a_ j_ => yfr_bp K_.2.2.2 (fun q_ hq => absurd hq List.not_mem_nil), G_⟩)⟩
  · rcases List.mem_cons.mp hq with e_ | hq
    · subst e_
      exact ⟨h', yfr_sm K_.2.2.2 hs K_.1 (ywa_r mscE_w List.mem_cons_self), Or.inr (Or.inl (⟨xq_ltT rfl rfl (K_.2.2.1 _ List.mem_cons_self), bpat_of (K_.2.1 _ List.mem_cons_self), fun a_ j_ n0_ => yfr_bp K_.2.2.2 (List.forall_mem_cons.mpr ⟨fun e_ => n0_ ⟨e_.1.symm, e_.2.symm⟩, fun q_ hq => absurd hq List.not_mem_nil⟩), G_⟩))⟩
    rcases List.mem_cons.mp hq with e_ | hq
    · subst e_
      exact ⟨h', yfr_sm K_.2.2.2 hs K_.1 (ywa_r mscE_w (List.mem_cons_of_mem _ List.mem_cons_self)), Or.inr (Or.inr (Or.inl (⟨xq_leF rfl rfl (K_.2.2.1 _ List.mem_cons_self), xq_ltF rfl rfl (K_.2.2.1 _ (List.mem_cons_of_mem _ List.mem_cons_self)), bpat_of (K_.2.1 _ List.mem_cons_self), fun a_ j_ n0_ => yfr_bp K_.2.2.2 (List.forall_mem_cons.mpr ⟨fun e_ => n0_ ⟨e_.1.symm, e_.2.symm⟩, fun q_ hq => absurd hq List.not_mem_nil⟩), G_⟩)))⟩
    have e_ := List.mem_singleton.mp hq
    subst e_
    exact ⟨h', yfr_sm K_.2.2.2 hs K_.1 (ywa_r mscE_w (List.mem_cons_of_mem _ (List.mem_cons_of_mem _ List.mem_cons_self))), Or.inr (Or.inr (Or.inr (⟨xq_leF (yv_add2 rfl rfl) rfl (K_.2.2.1 _ List.mem_cons_self), xq_leT rfl rfl (K_.2.2.1 _ (List.mem_cons_of_mem _ List.mem_cons_self)), xq_ltF rfl rfl (K_.2.2.1 _ (List.mem_cons_of_mem _ (List.mem_cons_of_mem _ List.mem_cons_self))), bpat_of (K_.2.1 _ List.mem_cons_self), fun a_ j_ n0_ => yfr_bp K_.2.2.2 (List.forall_mem_cons.mpr ⟨fun e_ => n0_ ⟨e_.1.symm, e_.2.symm⟩, fun q_ hq => absurd hq List.not_mem_nil⟩), G_⟩)))⟩
-- mscX: 8 steps, 0 ends, 1 returns
def mscX_L : List (Nat × Nat × Nat) := []
def mscX_O : yO := [(338, .int 0, .index 339), (339, .int 2, .arg 311)]
def mscX_A : yA := (yZ mscX_L, [], [], [], [])
def mscX_C : List xB := [(.lt, .arg 2, .arg 1, false)]
def mscX_ss : List yS := []
def mscX_rs : List yR := [(some (.arg 311), [(338, .int 0, .index 339), (339, .int 2, .arg 311)], [(.lt, .arg 2, .arg 1, false)], [])]
theorem mscX_w : ywa mscX_A mscX_ss mscX_rs = true := by decide +kernel
theorem mscX_k : yis (yev mscX_A 3000 60 212 [] (38, [(2, .arg 2), (0, .index 338), (1, .arg 1)], [], mscX_O, mscX_C, [])) mscX_ss mscX_rs = true := by decide +kernel
def mscX_r (v1_ v2 v311 : Int32) (k_ : Nat) : Value := bif Nat.beq k_ 1 then .int v1_ else (bif Nat.beq k_ 2 then .int v2 else (bif Nat.beq k_ 311 then .int v311 else (.int 0)))
def mscX_s (n_ : Nat) : Nat := 0
theorem mscX {h_ : xH} {v1_ v2 v311 : Int32} (hs : sHp h_) (o0_ : bpat h_ 339 2 = some (.int v311)) (c0_ : v1_.toInt ≤ v2.toInt) : ∃ h', ysm h_ h' ∧ (((∀ a_ j_ : Nat, bpat h' a_ j_ = bpat h_ a_ j_) ∧ (∀ D_, 60 ≤ D_ → xrun D_ 212 38 [(2, .int v2), (0, .index 338), (1, .int v1_)] [] h_ (some (.int v311), h', [])))) := by
  have hA : yas mscX_A (mscX_r v1_ v2 v311) (yg mscX_s) := ⟨fun q_ hq => absurd hq List.not_mem_nil, fun q_ hq => absurd hq List.not_mem_nil, fun q_ hq => absurd hq List.not_mem_nil, fun n_ hn => yg_lo hn, fun q_ hq => absurd hq List.not_mem_nil⟩
  have Hs : ysh mscX_A.1 (yg mscX_s) h_ := ysh_of2 hs (fun q_ hq => absurd hq List.not_mem_nil)
  have Ho : ymem (mscX_r v1_ v2 v311) (yg mscX_s) mscX_O h_ := List.forall_mem_cons.mpr ⟨bpat_some (fxr_at hs.2 (show fxk fxl 338 0 = some 339 by decide +kernel)), List.forall_mem_cons.mpr ⟨bpat_some o0_, fun q_ hq => absurd hq List.not_mem_nil⟩⟩
  have HC : ∀ q_ ∈ mscX_C, xhold (mscX_r v1_ v2 v311) q_ := List.forall_mem_cons.mpr ⟨xh_ltF c0_, fun q_ hq => absurd hq List.not_mem_nil⟩
  rcases yrun (yis_ok mscX_k) hA Hs Ho HC with ⟨q_, hq, h', K_, G_⟩ | ⟨q_, hq, h', K_, G_⟩
  · cases hq
  · have e_ := List.mem_singleton.mp hq
    subst e_
    exact ⟨h', yfr_sm K_.2.2.2 hs K_.1 (ywa_r mscX_w List.mem_cons_self), ⟨fun a_ j_ => yfr_bp K_.2.2.2 (fun q_ hq => absurd hq List.not_mem_nil), G_⟩⟩
-- mscT: 12 steps, 1 ends, 0 returns
def mscT_L : List (Nat × Nat × Nat) := []
def mscT_O : yO := [(338, .int 0, .index 339), (339, .int 2, .arg 311)]
def mscT_A : yA := (yZ mscT_L, [], [], [], [])
def mscT_C : List xB := [(.lt, .arg 2, .arg 1, true)]
def mscT_ss : List yS := [(54, [(2, .arg 2), (0, .index 338), (1, .arg 1)], [.index 338], [(339, .int 2, .add (.arg 311) (.int 1)), (338, .int 0, .index 339)], [(.lt, .arg 2, .arg 1, true)], [(339, .int 2)])]
def mscT_rs : List yR := []
theorem mscT_w : ywa mscT_A mscT_ss mscT_rs = true := by decide +kernel
theorem mscT_k : yis (yev mscT_A 3000 60 212 [54] (38, [(2, .arg 2), (0, .index 338), (1, .arg 1)], [], mscT_O, mscT_C, [])) mscT_ss mscT_rs = true := by decide +kernel
def mscT_r (v1_ v2 v311 : Int32) (k_ : Nat) : Value := bif Nat.beq k_ 1 then .int v1_ else (bif Nat.beq k_ 2 then .int v2 else (bif Nat.beq k_ 311 then .int v311 else (.int 0)))
def mscT_s (n_ : Nat) : Nat := 0
theorem mscT {h_ : xH} {v1_ v2 v311 : Int32} (hs : sHp h_) (o0_ : bpat h_ 339 2 = some (.int v311)) (c0_ : v2.toInt < v1_.toInt) : ∃ h', ysm h_ h' ∧ (((bpat h' 339 2 = some (.int (v311 + (1 : Int32)))) ∧ (∀ a_ j_ : Nat, ¬ (a_ = 339 ∧ j_ = 2) → bpat h' a_ j_ = bpat h_ a_ j_) ∧ (bldD 60 212 38 [(2, .int v2), (0, .index 338), (1, .int v1_)] [] h_ 54 [(2, .int v2), (0, .index 338), (1, .int v1_)] [.index 338] h'))) := by
  have hA : yas mscT_A (mscT_r v1_ v2 v311) (yg mscT_s) := ⟨fun q_ hq => absurd hq List.not_mem_nil, fun q_ hq => absurd hq List.not_mem_nil, fun q_ hq => absurd hq List.not_mem_nil, fun n_ hn => yg_lo hn, fun q_ hq => absurd hq List.not_mem_nil⟩
  have Hs : ysh mscT_A.1 (yg mscT_s) h_ := ysh_of2 hs (fun q_ hq => absurd hq List.not_mem_nil)
  have Ho : ymem (mscT_r v1_ v2 v311) (yg mscT_s) mscT_O h_ := List.forall_mem_cons.mpr ⟨bpat_some (fxr_at hs.2 (show fxk fxl 338 0 = some 339 by decide +kernel)), List.forall_mem_cons.mpr ⟨bpat_some o0_, fun q_ hq => absurd hq List.not_mem_nil⟩⟩
  have HC : ∀ q_ ∈ mscT_C, xhold (mscT_r v1_ v2 v311) q_ := List.forall_mem_cons.mpr ⟨xh_ltT c0_, fun q_ hq => absurd hq List.not_mem_nil⟩
  rcases yrun (yis_ok mscT_k) hA Hs Ho HC with ⟨q_, hq, h', K_, G_⟩ | ⟨q_, hq, h', K_, G_⟩
  · have e_ := List.mem_singleton.mp hq
    subst e_
    exact ⟨h', yfr_sm K_.2.2.2 hs K_.1 (ywa_s mscT_w List.mem_cons_self), ⟨bpat_of (K_.2.1 _ List.mem_cons_self), fun a_ j_ n0_ => yfr_bp K_.2.2.2 (List.forall_mem_cons.mpr ⟨fun e_ => n0_ ⟨e_.1.symm, e_.2.symm⟩, fun q_ hq => absurd hq List.not_mem_nil⟩), G_⟩⟩
  · cases hq
-- mscN: 2 steps, 1 ends, 0 returns
def mscN_L : List (Nat × Nat × Nat) := []
def mscN_O : yO := []
def mscN_A : yA := (yZ mscN_L, [], [], [], [])
def mscN_C : List xB := []
def mscN_ss : List yS := [(38, [(2, .add (.arg 2) (.int 1)), (0, .index 338), (1, .arg 1)], [], [], [], [])]
def mscN_rs : List yR := []
theorem mscN_w : ywa mscN_A mscN_ss mscN_rs = true := by decide +kernel
theorem mscN_k : yis (yev mscN_A 3000 60 212 [38] (57, [(2, .arg 2), (0, .index 338), (1, .arg 1)], [], mscN_O, mscN_C, [])) mscN_ss mscN_rs = true := by decide +kernel
def mscN_r (v1_ v2 : Int32) (k_ : Nat) : Value := bif Nat.beq k_ 1 then .int v1_ else (bif Nat.beq k_ 2 then .int v2 else (.int 0))
def mscN_s (n_ : Nat) : Nat := 0
theorem mscN {h_ : xH} {v1_ v2 : Int32} (hs : sHp h_) : ∃ h', ysm h_ h' ∧ (((∀ a_ j_ : Nat, bpat h' a_ j_ = bpat h_ a_ j_) ∧ (bldD 60 212 57 [(2, .int v2), (0, .index 338), (1, .int v1_)] [] h_ 38 [(2, .int (v2 + (1 : Int32))), (0, .index 338), (1, .int v1_)] [] h'))) := by
  have hA : yas mscN_A (mscN_r v1_ v2) (yg mscN_s) := ⟨fun q_ hq => absurd hq List.not_mem_nil, fun q_ hq => absurd hq List.not_mem_nil, fun q_ hq => absurd hq List.not_mem_nil, fun n_ hn => yg_lo hn, fun q_ hq => absurd hq List.not_mem_nil⟩
  have Hs : ysh mscN_A.1 (yg mscN_s) h_ := ysh_of2 hs (fun q_ hq => absurd hq List.not_mem_nil)
  have Ho : ymem (mscN_r v1_ v2) (yg mscN_s) mscN_O h_ := fun q_ hq => absurd hq List.not_mem_nil
  have HC : ∀ q_ ∈ mscN_C, xhold (mscN_r v1_ v2) q_ := fun q_ hq => absurd hq List.not_mem_nil
  rcases yrun (yis_ok mscN_k) hA Hs Ho HC with ⟨q_, hq, h', K_, G_⟩ | ⟨q_, hq, h', K_, G_⟩
  · have e_ := List.mem_singleton.mp hq
    subst e_
    exact ⟨h', yfr_sm K_.2.2.2 hs K_.1 (ywa_s mscN_w List.mem_cons_self), ⟨fun a_ j_ => yfr_bp K_.2.2.2 (fun q_ hq => absurd hq List.not_mem_nil), G_⟩⟩
  · cases hq
-- mshE_: 165 steps, 1 ends, 5 returns
def mshE__L : List (Nat × Nat × Nat) := []
def mshE__O : yO := [(338, .int 0, .index 339), (339, .int 0, .arg 310), (338, .int 3, .index 341), (341, .int 1, .arg 400), (339, .int 1, .arg 320), (339, .int 3, .arg 300), (338, .int 4, .index 342), (341, .int 4, .arg 401)]
def mshE__A : yA := (yZ mshE__L, [], [], [], [])
def mshE__C : List xB := []
def mshE__ss : List yS := [(65, [(3, .add (.int 190) (.mul (.int 14) (.arg 300))), (0, .index 338), (1, .arg 1), (2, .arg 2)], [.index 342, .add (.int 34) (.mul (.int 13) (.arg 1)), .index 338], [(338, .int 0, .index 339), (339, .int 0, .arg 310), (338, .int 3, .index 341), (341, .int 1, .arg 400), (339, .int 1, .arg 320), (339, .int 3, .arg 300), (338, .int 4, .index 342), (341, .int 4, .arg 401)], [(.eq, .arg 300, .int 10, false), (.le, .arg 2, .sub (.arg 320) (.int 1), true), (.lt, .arg 2, .int 0, false), (.le, .arg 1, .sub (.arg 310) (.int 1), true), (.lt, .arg 1, .int 0, false)], [])]
def mshE__rs : List yR := [(some (.int (Int32.ofInt (-1000001))), [(341, .int 1, .add (.arg 400) (.int 1)), (338, .int 0, .index 339), (339, .int 0, .arg 310), (338, .int 3, .index 341), (339, .int 1, .arg 320), (339, .int 3, .arg 300), (338, .int 4, .index 342), (341, .int 4, .arg 401)], [(.lt, .arg 1, .int 0, true)], [(341, .int 1)]),
  (some (.int (Int32.ofInt (-1000001))), [(341, .int 1, .add (.arg 400) (.int 1)), (338, .int 0, .index 339), (339, .int 0, .arg 310), (338, .int 3, .index 341), (339, .int 1, .arg 320), (339, .int 3, .arg 300), (338, .int 4, .index 342), (341, .int 4, .arg 401)], [(.le, .arg 1, .sub (.arg 310) (.int 1), false), (.lt, .arg 1, .int 0, false)], [(341, .int 1)]),
  (some (.int (Int32.ofInt (-1000001))), [(341, .int 1, .add (.arg 400) (.int 1)), (338, .int 0, .index 339), (339, .int 0, .arg 310), (338, .int 3, .index 341), (339, .int 1, .arg 320), (339, .int 3, .arg 300), (338, .int 4, .index 342), (341, .int 4, .arg 401)], [(.lt, .arg 2, .int 0, true), (.le, .arg 1, .sub (.arg 310) (.int 1), true), (.lt, .arg 1, .int 0, false)], [(341, .int 1)]),
  (some (.int (Int32.ofInt (-1000001))), [(341, .int 1, .add (.arg 400) (.int 1)), (338, .int 0, .index 339), (339, .int 0, .arg 310), (338, .int 3, .index 341), (339, .int 1, .arg 320), (339, .int 3, .arg 300), (338, .int 4, .index 342), (341, .int 4, .arg 401)], [(.le, .arg 2, .sub (.arg 320) (.int 1), false), (.lt, .arg 2, .int 0, false), (.le, .arg 1, .sub (.arg 310) (.int 1), true), (.lt, .arg 1, .int 0, false)], [(341, .int 1)]),
  (some (.int (Int32.ofInt (-1000004))), [(341, .int 4, .add (.arg 401) (.int 1)), (338, .int 0, .index 339), (339, .int 0, .arg 310), (338, .int 3, .index 341), (341, .int 1, .arg 400), (339, .int 1, .arg 320), (339, .int 3, .arg 300), (338, .int 4, .index 342)], [(.eq, .arg 300, .int 10, true), (.le, .arg 2, .sub (.arg 320) (.int 1), true), (.lt, .arg 2, .int 0, false), (.le, .arg 1, .sub (.arg 310) (.int 1), true), (.lt, .arg 1, .int 0, false)], [(341, .int 4)])]
theorem mshE__w : ywa mshE__A mshE__ss mshE__rs = true := by decide +kernel
theorem mshE__k : yis (yev mshE__A 3000 60 211 [65] (0, [(0, .index 338), (1, .arg 1), (2, .arg 2)], [], mshE__O, mshE__C, [])) mshE__ss mshE__rs = true := by decide +kernel
def mshE__r (v1_ v2 v300 v310 v320 v400 v401 : Int32) (k_ : Nat) : Value := bif Nat.beq k_ 1 then .int v1_ else (bif Nat.beq k_ 2 then .int v2 else (bif Nat.beq k_ 300 then .int v300 else (bif Nat.beq k_ 310 then .int v310 else (bif Nat.beq k_ 320 then .int v320 else (bif Nat.beq k_ 400 then .int v400 else (bif Nat.beq k_ 401 then .int v401 else (.int 0)))))))
def mshE__s (n_ : Nat) : Nat := 0
theorem mshE_ {h_ : xH} {v1_ v2 v300 v310 v320 v400 v401 : Int32} (hs : sHp h_) (o0_ : bpat h_ 339 0 = some (.int v310)) (o1 : bpat h_ 341 1 = some (.int v400)) (o2 : bpat h_ 339 1 = some (.int v320)) (o3_ : bpat h_ 339 3 = some (.int v300)) (o4_ : bpat h_ 341 4 = some (.int v401)) : ∃ h', ysm h_ h' ∧ (((¬ v300 = (10 : Int32)) ∧ (v2.toInt ≤ (v320 - (1 : Int32)).toInt) ∧ ((0 : Int32).toInt ≤ v2.toInt) ∧ (v1_.toInt ≤ (v310 - (1 : Int32)).toInt) ∧ ((0 : Int32).toInt ≤ v1_.toInt) ∧ (∀ a_ j_ : Nat, bpat h' a_ j_ = bpat h_ a_ j_) ∧ (bldD 60 211 0 [(0, .index 338), (1, .int v1_), (2, .int v2)] [] h_ 65 [(3, .int ((190 : Int32) + ((14 : Int32) * v300))), (0, .index 338), (1, .int v1_), (2, .int v2)] [.index 342, .int ((34 : Int32) + ((13 : Int32) * v1_)), .index 338] h'))
  ∨ ((v1_.toInt < (0 : Int32).toInt) ∧ (bpat h' 341 1 = some (.int (v400 + (1 : Int32)))) ∧ (∀ a_ j_ : Nat, ¬ (a_ = 341 ∧ j_ = 1) → bpat h' a_ j_ = bpat h_ a_ j_) ∧ (∀ D_, 60 ≤ D_ → xrun D_ 211 0 [(0, .index 338), (1, .int v1_), (2, .int v2)] [] h_ (some (.int (Int32.ofInt (-1000001))), h', [])))
  ∨ (((v310 - (1 : Int32)).toInt < v1_.toInt) ∧ ((0 : Int32).toInt ≤ v1_.toInt) ∧ (bpat h' 341 1 = some (.int (v400 + (1 : Int32)))) ∧ (∀ a_ j_ : Nat, ¬ (a_ = 341 ∧ j_ = 1) → bpat h' a_ j_ = bpat h_ a_ j_) ∧ (∀ D_, 60 ≤ D_ → xrun D_ 211 0 [(0, .index 338), (1, .int v1_), (2, .int v2)] [] h_ (some (.int (Int32.ofInt (-1000001))), h', [])))
  ∨ ((v2.toInt < (0 : Int32).toInt) ∧ (v1_.toInt ≤ (v310 - (1 : Int32)).toInt) ∧ ((0 : Int32).toInt ≤ v1_.toInt) ∧ (bpat h' 341 1 = some (.int (v400 + (1 : Int32)))) ∧ (∀ a_ j_ : Nat, ¬ (a_ = 341 ∧ j_ = 1) → bpat h' a_ j_ = bpat h_ a_ j_) ∧ (∀ D_, 60 ≤ D_ → xrun D_ 211 0 [(0, .index 338), (1, .int v1_), (2, .int v2)] [] h_ (some (.int (Int32.ofInt (-1000001))), h', [])))
  ∨ (((v320 - (1 : Int32)).toInt < v2.toInt) ∧ ((0 : Int32).toInt ≤ v2.toInt) ∧ (v1_.toInt ≤ (v310 - (1 : Int32)).toInt) ∧ ((0 : Int32).toInt ≤ v1_.toInt) ∧ (bpat h' 341 1 = some (.int (v400 + (1 : Int32)))) ∧ (∀ a_ j_ : Nat, ¬ (a_ = 341 ∧ j_ = 1) → bpat h' a_ j_ = bpat h_ a_ j_) ∧ (∀ D_, 60 ≤ D_ → xrun D_ 211 0 [(0, .index 338), (1, .int v1_), (2, .int v2)] [] h_ (some (.int (Int32.ofInt (-1000001))), h', [])))
  ∨ ((v300 = (10 : Int32)) ∧ (v2.toInt ≤ (v320 - (1 : Int32)).toInt) ∧ ((0 : Int32).toInt ≤ v2.toInt) ∧ (v1_.toInt ≤ (v310 - (1 : Int32)).toInt) ∧ ((0 : Int32).toInt ≤ v1_.toInt) ∧ (bpat h' 341 4 = some (.int (v401 + (1 : Int32)))) ∧ (∀ a_ j_ : Nat, ¬ (a_ = 341 ∧ j_ = 4) → bpat h' a_ j_ = bpat h_ a_ j_) ∧ (∀ D_, 60 ≤ D_ → xrun D_ 211 0 [(0, .index 338), (1, .int v1_), (2, .int v2)] [] h_ (some (.int (Int32.ofInt (-1000004))), h', [])))) := by
  have hA : yas mshE__A (mshE__r v1_ v2 v300 v310 v320 v400 v401) (yg mshE__s) := ⟨fun q_ hq => absurd hq List.not_mem_nil, fun q_ hq => absurd hq List.not_mem_nil, fun q_ hq => absurd hq List.not_mem_nil, fun n_ hn => yg_lo hn, fun q_ hq => absurd hq List.not_mem_nil⟩
  have Hs : ysh mshE__A.1 (yg mshE__s) h_ := ysh_of2 hs (fun q_ hq => absurd hq List.not_mem_nil)
  have Ho : ymem (mshE__r v1_ v2 v300 v310 v320 v400 v401) (yg mshE__s) mshE__O h_ := List.forall_mem_cons.mpr ⟨bpat_some (fxr_at hs.2 (show fxk fxl 338 0 = some 339 by decide +kernel)), List.forall_mem_cons.mpr ⟨bpat_some o0_, List.forall_mem_cons.mpr ⟨bpat_some (fxr_at hs.2 (show fxk fxl 338 3 = some 341 by decide +kernel)), List.forall_mem_cons.mpr ⟨bpat_some o1, List.forall_mem_cons.mpr ⟨bpat_some o2, List.forall_mem_cons.mpr ⟨bpat_some o3_, List.forall_mem_cons.mpr ⟨bpat_some (fxr_at hs.2 (show fxk fxl 338 4 = some 342 by decide +kernel)), List.forall_mem_cons.mpr ⟨bpat_some o4_, fun q_ hq => absurd hq List.not_mem_nil⟩⟩⟩⟩⟩⟩⟩⟩
  have HC : ∀ q_ ∈ mshE__C, xhold (mshE__r v1_ v2 v300 v310 v320 v400 v401) q_ := fun q_ hq => absurd hq List.not_mem_nil
  rcases yrun (yis_ok mshE__k) hA Hs Ho HC with ⟨q_, hq, h', K_, G_⟩ | ⟨q_, hq, h', K_, G_⟩
  · have e_ := List.mem_singleton.mp hq
    subst e_
    exact ⟨h', yfr_sm K_.2.2.2 hs K_.1 (ywa_s mshE__w List.mem_cons_self), Or.inl (⟨xq_eqF rfl rfl (K_.2.2.1 _ List.mem_cons_self), xq_leT rfl (yv_sub2 rfl rfl) (K_.2.2.1 _ (List.mem_cons_of_mem _ List.mem_cons_self)), xq_ltF rfl rfl (K_.2.2.1 _ (List.mem_cons_of_mem _ (List.mem_cons_of_mem _ List.mem_cons_self))), xq_leT rfl (yv_sub2 rfl rfl) (K_.2.2.1 _ (List.mem_cons_of_mem _ (List.mem_cons_of_mem _ (List.mem_cons_of_mem _ List.mem_cons_self)))), xq_ltF rfl rfl (K_.2.2.1 _ (List.mem_cons_of_mem _ (List.mem_cons_of_mem _ (List.mem_cons_of_mem _ (List.mem_cons_of_mem _ List.mem_cons_self))))), fun a_ j_ => yfr_bp K_.2.2.2 (fun q_ hq => absurd hq List.not_mem_nil), G_⟩)⟩
  · rcases List.mem_cons.mp hq with e_ | hq
    · subst e_
      exact ⟨h', yfr_sm K_.2.2.2 hs K_.1 (ywa_r mshE__w List.mem_cons_self), Or.inr (Or.inl (⟨xq_ltT rfl rfl (K_.2.2.1 _ List.mem_cons_self), bpat_of (K_.2.1 _ List.mem_cons_self), fun a_ j_ n0_ => yfr_bp K_.2.2.2 (List.forall_mem_cons.mpr ⟨fun e_ => n0_ ⟨e_.1.symm, e_.2.symm⟩, fun q_ hq => absurd hq List.not_mem_nil⟩), G_⟩))⟩
    rcases List.mem_cons.mp hq with e_ | hq
    · subst e_
      exact ⟨h', yfr_sm K_.2.2.2 hs K_.1 (ywa_r mshE__w (List.mem_cons_of_mem _ List.mem_cons_self)), Or.inr (Or.inr (Or.inl (⟨xq_leF rfl (yv_sub2 rfl rfl) (K_.2.2.1 _ List.mem_cons_self), xq_ltF rfl rfl (K_.2.2.1 _ (List.mem_cons_of_mem _ List.mem_cons_self)), bpat_of (K_.2.1 _ List.mem_cons_self), fun a_ j_ n0_ => yfr_bp K_.2.2.2 (List.forall_mem_cons.mpr ⟨fun e_ => n0_ ⟨e_.1.symm, e_.2.symm⟩, fun q_ hq => absurd hq List.not_mem_nil⟩), G_⟩)))⟩
    rcases List.mem_cons.mp hq with e_ | hq
    · subst e_
      exact ⟨h', yfr_sm K_.2.2.2 hs K_.1 (ywa_r mshE__w (List.mem_cons_of_mem _ (List.mem_cons_of_mem _ List.mem_cons_self))), Or.inr (Or.inr (Or.inr (Or.inl (⟨xq_ltT rfl rfl (K_.2.2.1 _ List.mem_cons_self), xq_leT rfl (yv_sub2 rfl rfl) (K_.2.2.1 _ (List.mem_cons_of_mem _ List.mem_cons_self)), xq_ltF rfl rfl (K_.2.2.1 _ (List.mem_cons_of_mem _ (List.mem_cons_of_mem _ List.mem_cons_self))), bpat_of (K_.2.1 _ List.mem_cons_self), fun a_ j_ n0_ => yfr_bp K_.2.2.2 (List.forall_mem_cons.mpr ⟨fun e_ => n0_ ⟨e_.1.symm, e_.2.symm⟩, fun q_ hq => absurd hq List.not_mem_nil⟩), G_⟩))))⟩
    rcases List.mem_cons.mp hq with e_ | hq
    · subst e_
      exact ⟨h', yfr_sm K_.2.2.2 hs K_.1 (ywa_r mshE__w (List.mem_cons_of_mem _ (List.mem_cons_of_mem _ (List.mem_cons_of_mem _ List.mem_cons_self)))), Or.inr (Or.inr (Or.inr (Or.inr (Or.inl (⟨xq_leF rfl (yv_sub2 rfl rfl) (K_.2.2.1 _ List.mem_cons_self), xq_ltF rfl rfl (K_.2.2.1 _ (List.mem_cons_of_mem _ List.mem_cons_self)), xq_leT rfl (yv_sub2 rfl rfl) (K_.2.2.1 _ (List.mem_cons_of_mem _ (List.mem_cons_of_mem _ List.mem_cons_self))), xq_ltF rfl rfl (K_.2.2.1 _ (List.mem_cons_of_mem _ (List.mem_cons_of_mem _ (List.mem_cons_of_mem _ List.mem_cons_self)))), bpat_of (K_.2.1 _ List.mem_cons_self), fun a_ j_ n0_ => yfr_bp K_.2.2.2 (List.forall_mem_cons.mpr ⟨fun e_ => n0_ ⟨e_.1.symm, e_.2.symm⟩, fun q_ hq => absurd hq List.not_mem_nil⟩), G_⟩)))))⟩
    have e_ := List.mem_singleton.mp hq
    subst e_
    exact ⟨h', yfr_sm K_.2.2.2 hs K_.1 (ywa_r mshE__w (List.mem_cons_of_mem _ (List.mem_cons_of_mem _ (List.mem_cons_of_mem _ (List.mem_cons_of_mem _ List.mem_cons_self))))), Or.inr (Or.inr (Or.inr (Or.inr (Or.inr (⟨xq_eqT rfl rfl (K_.2.2.1 _ List.mem_cons_self), xq_leT rfl (yv_sub2 rfl rfl) (K_.2.2.1 _ (List.mem_cons_of_mem _ List.mem_cons_self)), xq_ltF rfl rfl (K_.2.2.1 _ (List.mem_cons_of_mem _ (List.mem_cons_of_mem _ List.mem_cons_self))), xq_leT rfl (yv_sub2 rfl rfl) (K_.2.2.1 _ (List.mem_cons_of_mem _ (List.mem_cons_of_mem _ (List.mem_cons_of_mem _ List.mem_cons_self)))), xq_ltF rfl rfl (K_.2.2.1 _ (List.mem_cons_of_mem _ (List.mem_cons_of_mem _ (List.mem_cons_of_mem _ (List.mem_cons_of_mem _ List.mem_cons_self))))), bpat_of (K_.2.1 _ List.mem_cons_self), fun a_ j_ n0_ => yfr_bp K_.2.2.2 (List.forall_mem_cons.mpr ⟨fun e_ => n0_ ⟨e_.1.symm, e_.2.symm⟩, fun q_ hq => absurd hq List.not_mem_nil⟩), G_⟩)))))⟩
-- mshA: 4 steps, 1 ends, 0 returns
def mshA_L : List (Nat × Nat × Nat) := []
def mshA_O : yO := [(338, .int 4, .index 342)]
def mshA_A : yA := (yZ mshA_L, [], [], [], [])
def mshA_C : List xB := []
def mshA_ss : List yS := [(74, [(3, .arg 3), (0, .index 338), (1, .arg 1), (2, .arg 2)], [.index 342, .arg 2, .index 338], [(338, .int 4, .index 342)], [], [])]
def mshA_rs : List yR := []
theorem mshA_w : ywa mshA_A mshA_ss mshA_rs = true := by decide +kernel
theorem mshA_k : yis (yev mshA_A 3000 60 211 [74] (68, [(3, .arg 3), (0, .index 338), (1, .arg 1), (2, .arg 2)], [], mshA_O, mshA_C, [])) mshA_ss mshA_rs = true := by decide +kernel
def mshA_r (v1_ v2 v3 : Int32) (k_ : Nat) : Value := bif Nat.beq k_ 1 then .int v1_ else (bif Nat.beq k_ 2 then .int v2 else (bif Nat.beq k_ 3 then .int v3 else (.int 0)))
def mshA_s (n_ : Nat) : Nat := 0
theorem mshA {h_ : xH} {v1_ v2 v3 : Int32} (hs : sHp h_) : ∃ h', ysm h_ h' ∧ (((∀ a_ j_ : Nat, bpat h' a_ j_ = bpat h_ a_ j_) ∧ (bldD 60 211 68 [(3, .int v3), (0, .index 338), (1, .int v1_), (2, .int v2)] [] h_ 74 [(3, .int v3), (0, .index 338), (1, .int v1_), (2, .int v2)] [.index 342, .int v2, .index 338] h'))) := by
  have hA : yas mshA_A (mshA_r v1_ v2 v3) (yg mshA_s) := ⟨fun q_ hq => absurd hq List.not_mem_nil, fun q_ hq => absurd hq List.not_mem_nil, fun q_ hq => absurd hq List.not_mem_nil, fun n_ hn => yg_lo hn, fun q_ hq => absurd hq List.not_mem_nil⟩
  have Hs : ysh mshA_A.1 (yg mshA_s) h_ := ysh_of2 hs (fun q_ hq => absurd hq List.not_mem_nil)
  have Ho : ymem (mshA_r v1_ v2 v3) (yg mshA_s) mshA_O h_ := List.forall_mem_cons.mpr ⟨bpat_some (fxr_at hs.2 (show fxk fxl 338 4 = some 342 by decide +kernel)), fun q_ hq => absurd hq List.not_mem_nil⟩
  have HC : ∀ q_ ∈ mshA_C, xhold (mshA_r v1_ v2 v3) q_ := fun q_ hq => absurd hq List.not_mem_nil
  rcases yrun (yis_ok mshA_k) hA Hs Ho HC with ⟨q_, hq, h', K_, G_⟩ | ⟨q_, hq, h', K_, G_⟩
  · have e_ := List.mem_singleton.mp hq
    subst e_
    exact ⟨h', yfr_sm K_.2.2.2 hs K_.1 (ywa_s mshA_w List.mem_cons_self), ⟨fun a_ j_ => yfr_bp K_.2.2.2 (fun q_ hq => absurd hq List.not_mem_nil), G_⟩⟩
  · cases hq
-- mshB: 32 steps, 1 ends, 0 returns
def mshB_L : List (Nat × Nat × Nat) := []
def mshB_O : yO := [(338, .int 0, .index 339), (339, .int 2, .arg 311), (339, .add (.add (.int 10) (.mul (.int 3) (.arg 2))) (.int 2), .arg 312), (338, .int 4, .index 342)]
def mshB_A : yA := (yZ mshB_L, [(.add (.add (.int 10) (.mul (.int 3) (.arg 2))) (.int 2), 768), (.arg 3, 768)], [], [], [])
def mshB_C : List xB := []
def mshB_ss : List yS := [(108, [(4, .add (.arg 311) (.arg 312)), (3, .arg 3), (0, .index 338), (1, .arg 1), (2, .arg 2)], [.add (.arg 3) (.int 1), .index 342, .index 338], [(339, .arg 3, .add (.arg 311) (.arg 312)), (338, .int 0, .index 339), (338, .int 4, .index 342)], [], [(339, .arg 3)])]
def mshB_rs : List yR := []
theorem mshB_w : ywa mshB_A mshB_ss mshB_rs = true := by decide +kernel
theorem mshB_k : yis (yev mshB_A 3000 60 211 [108] (77, [(3, .arg 3), (0, .index 338), (1, .arg 1), (2, .arg 2)], [], mshB_O, mshB_C, [])) mshB_ss mshB_rs = true := by decide +kernel
def mshB_r (v1_ v2 v3 v311 v312 : Int32) (k_ : Nat) : Value := bif Nat.beq k_ 1 then .int v1_ else (bif Nat.beq k_ 2 then .int v2 else (bif Nat.beq k_ 3 then .int v3 else (bif Nat.beq k_ 311 then .int v311 else (bif Nat.beq k_ 312 then .int v312 else (.int 0)))))
def mshB_s (n_ : Nat) : Nat := 0
theorem mshB {h_ : xH} {v1_ v2 v3 v311 v312 : Int32} (hs : sHp h_) (o0_ : bpat h_ 339 2 = some (.int v311)) (o1 : bpat h_ 339 ((((10 : Int32) + ((3 : Int32) * v2)) + (2 : Int32))).toInt.toNat = some (.int v312)) (b0 : 0 ≤ ((((10 : Int32) + ((3 : Int32) * v2)) + (2 : Int32))).toInt ∧ ((((10 : Int32) + ((3 : Int32) * v2)) + (2 : Int32))).toInt < 768) (b1 : 0 ≤ (v3).toInt ∧ (v3).toInt < 768) : ∃ h', ysm h_ h' ∧ (((bpat h' 339 (v3).toInt.toNat = some (.int (v311 + v312))) ∧ (∀ a_ j_ : Nat, ¬ (a_ = 339 ∧ j_ = (v3).toInt.toNat) → bpat h' a_ j_ = bpat h_ a_ j_) ∧ (bldD 60 211 77 [(3, .int v3), (0, .index 338), (1, .int v1_), (2, .int v2)] [] h_ 108 [(4, .int (v311 + v312)), (3, .int v3), (0, .index 338), (1, .int v1_), (2, .int v2)] [.int (v3 + (1 : Int32)), .index 342, .index 338] h'))) := by
  have hA : yas mshB_A (mshB_r v1_ v2 v3 v311 v312) (yg mshB_s) := ⟨List.forall_mem_cons.mpr ⟨b0, List.forall_mem_cons.mpr ⟨b1, fun q_ hq => absurd hq List.not_mem_nil⟩⟩, fun q_ hq => absurd hq List.not_mem_nil, fun q_ hq => absurd hq List.not_mem_nil, fun n_ hn => yg_lo hn, fun q_ hq => absurd hq List.not_mem_nil⟩
  have Hs : ysh mshB_A.1 (yg mshB_s) h_ := ysh_of2 hs (fun q_ hq => absurd hq List.not_mem_nil)
  have Ho : ymem (mshB_r v1_ v2 v3 v311 v312) (yg mshB_s) mshB_O h_ := List.forall_mem_cons.mpr ⟨bpat_some (fxr_at hs.2 (show fxk fxl 338 0 = some 339 by decide +kernel)), List.forall_mem_cons.mpr ⟨bpat_some o0_, List.forall_mem_cons.mpr ⟨bpat_some o1, List.forall_mem_cons.mpr ⟨bpat_some (fxr_at hs.2 (show fxk fxl 338 4 = some 342 by decide +kernel)), fun q_ hq => absurd hq List.not_mem_nil⟩⟩⟩⟩
  have HC : ∀ q_ ∈ mshB_C, xhold (mshB_r v1_ v2 v3 v311 v312) q_ := fun q_ hq => absurd hq List.not_mem_nil
  rcases yrun (yis_ok mshB_k) hA Hs Ho HC with ⟨q_, hq, h', K_, G_⟩ | ⟨q_, hq, h', K_, G_⟩
  · have e_ := List.mem_singleton.mp hq
    subst e_
    exact ⟨h', yfr_sm K_.2.2.2 hs K_.1 (ywa_s mshB_w List.mem_cons_self), ⟨bpat_of (K_.2.1 _ List.mem_cons_self), fun a_ j_ n0_ => yfr_bp K_.2.2.2 (List.forall_mem_cons.mpr ⟨fun e_ => n0_ ⟨e_.1.symm, e_.2.symm⟩, fun q_ hq => absurd hq List.not_mem_nil⟩), G_⟩⟩
  · cases hq
-- mshC: 9 steps, 1 ends, 0 returns
def mshC_L : List (Nat × Nat × Nat) := []
def mshC_O : yO := [(338, .int 0, .index 339), (339, .int 3, .arg 300)]
def mshC_A : yA := (yZ mshC_L, [], [], [], [])
def mshC_C : List xB := []
def mshC_ss : List yS := [(122, [(4, .arg 4), (3, .arg 3), (0, .index 338), (1, .arg 1), (2, .arg 2)], [.index 338], [(339, .int 3, .add (.arg 300) (.int 1)), (338, .int 0, .index 339)], [], [(339, .int 3)])]
def mshC_rs : List yR := []
theorem mshC_w : ywa mshC_A mshC_ss mshC_rs = true := by decide +kernel
theorem mshC_k : yis (yev mshC_A 3000 60 211 [122] (111, [(4, .arg 4), (3, .arg 3), (0, .index 338), (1, .arg 1), (2, .arg 2)], [], mshC_O, mshC_C, [])) mshC_ss mshC_rs = true := by decide +kernel
def mshC_r (v1_ v2 v3 v4_ v300 : Int32) (k_ : Nat) : Value := bif Nat.beq k_ 1 then .int v1_ else (bif Nat.beq k_ 2 then .int v2 else (bif Nat.beq k_ 3 then .int v3 else (bif Nat.beq k_ 4 then .int v4_ else (bif Nat.beq k_ 300 then .int v300 else (.int 0)))))
def mshC_s (n_ : Nat) : Nat := 0
theorem mshC {h_ : xH} {v1_ v2 v3 v4_ v300 : Int32} (hs : sHp h_) (o0_ : bpat h_ 339 3 = some (.int v300)) : ∃ h', ysm h_ h' ∧ (((bpat h' 339 3 = some (.int (v300 + (1 : Int32)))) ∧ (∀ a_ j_ : Nat, ¬ (a_ = 339 ∧ j_ = 3) → bpat h' a_ j_ = bpat h_ a_ j_) ∧ (bldD 60 211 111 [(4, .int v4_), (3, .int v3), (0, .index 338), (1, .int v1_), (2, .int v2)] [] h_ 122 [(4, .int v4_), (3, .int v3), (0, .index 338), (1, .int v1_), (2, .int v2)] [.index 338] h'))) := by
  have hA : yas mshC_A (mshC_r v1_ v2 v3 v4_ v300) (yg mshC_s) := ⟨fun q_ hq => absurd hq List.not_mem_nil, fun q_ hq => absurd hq List.not_mem_nil, fun q_ hq => absurd hq List.not_mem_nil, fun n_ hn => yg_lo hn, fun q_ hq => absurd hq List.not_mem_nil⟩
  have Hs : ysh mshC_A.1 (yg mshC_s) h_ := ysh_of2 hs (fun q_ hq => absurd hq List.not_mem_nil)
  have Ho : ymem (mshC_r v1_ v2 v3 v4_ v300) (yg mshC_s) mshC_O h_ := List.forall_mem_cons.mpr ⟨bpat_some (fxr_at hs.2 (show fxk fxl 338 0 = some 339 by decide +kernel)), List.forall_mem_cons.mpr ⟨bpat_some o0_, fun q_ hq => absurd hq List.not_mem_nil⟩⟩
  have HC : ∀ q_ ∈ mshC_C, xhold (mshC_r v1_ v2 v3 v4_ v300) q_ := fun q_ hq => absurd hq List.not_mem_nil
  rcases yrun (yis_ok mshC_k) hA Hs Ho HC with ⟨q_, hq, h', K_, G_⟩ | ⟨q_, hq, h', K_, G_⟩
  · have e_ := List.mem_singleton.mp hq
    subst e_
    exact ⟨h', yfr_sm K_.2.2.2 hs K_.1 (ywa_s mshC_w List.mem_cons_self), ⟨bpat_of (K_.2.1 _ List.mem_cons_self), fun a_ j_ n0_ => yfr_bp K_.2.2.2 (List.forall_mem_cons.mpr ⟨fun e_ => n0_ ⟨e_.1.symm, e_.2.symm⟩, fun q_ hq => absurd hq List.not_mem_nil⟩), G_⟩⟩
  · cases hq
-- mshD: 2 steps, 0 ends, 1 returns
def mshD_L : List (Nat × Nat × Nat) := []
def mshD_O : yO := []
def mshD_A : yA := (yZ mshD_L, [], [], [], [])
def mshD_C : List xB := []
def mshD_ss : List yS := []
def mshD_rs : List yR := [(some (.arg 4), [], [], [])]
theorem mshD_w : ywa mshD_A mshD_ss mshD_rs = true := by decide +kernel
theorem mshD_k : yis (yev mshD_A 3000 60 211 [] (125, [(4, .arg 4), (3, .arg 3), (0, .index 338), (1, .arg 1), (2, .arg 2)], [], mshD_O, mshD_C, [])) mshD_ss mshD_rs = true := by decide +kernel
def mshD_r (v1_ v2 v3 v4_ : Int32) (k_ : Nat) : Value := bif Nat.beq k_ 1 then .int v1_ else (bif Nat.beq k_ 2 then .int v2 else (bif Nat.beq k_ 3 then .int v3 else (bif Nat.beq k_ 4 then .int v4_ else (.int 0))))
def mshD_s (n_ : Nat) : Nat := 0
theorem mshD {h_ : xH} {v1_ v2 v3 v4_ : Int32} (hs : sHp h_) : ∃ h', ysm h_ h' ∧ (((∀ a_ j_ : Nat, bpat h' a_ j_ = bpat h_ a_ j_) ∧ (∀ D_, 60 ≤ D_ → xrun D_ 211 125 [(4, .int v4_), (3, .int v3), (0, .index 338), (1, .int v1_), (2, .int v2)] [] h_ (some (.int v4_), h', [])))) := by
  have hA : yas mshD_A (mshD_r v1_ v2 v3 v4_) (yg mshD_s) := ⟨fun q_ hq => absurd hq List.not_mem_nil, fun q_ hq => absurd hq List.not_mem_nil, fun q_ hq => absurd hq List.not_mem_nil, fun n_ hn => yg_lo hn, fun q_ hq => absurd hq List.not_mem_nil⟩
  have Hs : ysh mshD_A.1 (yg mshD_s) h_ := ysh_of2 hs (fun q_ hq => absurd hq List.not_mem_nil)
  have Ho : ymem (mshD_r v1_ v2 v3 v4_) (yg mshD_s) mshD_O h_ := fun q_ hq => absurd hq List.not_mem_nil
  have HC : ∀ q_ ∈ mshD_C, xhold (mshD_r v1_ v2 v3 v4_) q_ := fun q_ hq => absurd hq List.not_mem_nil
  rcases yrun (yis_ok mshD_k) hA Hs Ho HC with ⟨q_, hq, h', K_, G_⟩ | ⟨q_, hq, h', K_, G_⟩
  · cases hq
  · have e_ := List.mem_singleton.mp hq
    subst e_
    exact ⟨h', yfr_sm K_.2.2.2 hs K_.1 (ywa_r mshD_w List.mem_cons_self), ⟨fun a_ j_ => yfr_bp K_.2.2.2 (fun q_ hq => absurd hq List.not_mem_nil), G_⟩⟩
/-- the reference's numbers are ints -/
def mI (h_ : xH) : Prop := ∀ j_, j_ < 768 → ∃ y_ : Int32, bpat h_ 339 j_ = some (.int y_)
theorem mI_k {h_ h' : xH} (I_ : mI h_) (f_ : ∀ j_, bpat h' 339 j_ = bpat h_ 339 j_) : mI h' := fun j_ hj => by rw [f_]; exact I_ j_ hj
theorem mI_w {h_ h' : xH} {k_ : Nat} {y_ : Int32} (I_ : mI h_) (e_ : bpat h' 339 k_ = some (.int y_)) (f_ : ∀ j_, ¬ j_ = k_ → bpat h' 339 j_ = bpat h_ 339 j_) : mI h' := fun j_ hj => by
  by_cases g_ : j_ = k_
  · exact ⟨y_, by rw [g_]; exact e_⟩
  · rw [f_ j_ g_]; exact I_ j_ hj
theorem ixq {g_ i_ : Nat} (hg : g_ < 8) (hi_ : i_ < 13) : (((330 : Int32) + (13 : Int32) * Int32.ofNat g_) + Int32.ofNat i_).toInt = ((330 + 13 * g_ + i_ : Nat) : Int) := by
  have k_ : (List.range 8).all (fun g_ => (List.range 13).all (fun i_ => decide ((((330 : Int32) + (13 : Int32) * Int32.ofNat g_) + Int32.ofNat i_).toInt = ((330 + 13 * g_ + i_ : Nat) : Int)))) = true := by decide +kernel
  exact of_decide_eq_true (List.all_eq_true.mp (List.all_eq_true.mp k_ g_ (List.mem_range.mpr hg)) i_ (List.mem_range.mpr hi_))
theorem ixe {e_ : Nat} (he : e_ < 11) : (190 : Int32) + (14 : Int32) * Int32.ofNat e_ = Int32.ofNat (190 + 14 * e_) := by
  have k_ : (List.range 11).all (fun e_ => decide ((190 : Int32) + (14 : Int32) * Int32.ofNat e_ = Int32.ofNat (190 + 14 * e_))) = true := by decide +kernel
  exact of_decide_eq_true (List.all_eq_true.mp k_ e_ (List.mem_range.mpr he))
theorem lg1 {q_ : Nat} : ∀ (n_ i_ : Nat) (h_ : xH), i_ + n_ = 91 → sHp h_ → mI h_ → bpat h_ 339 4 = some (.int 8) → ∃ h', ((ysm h_ h' ∧ mI h') ∧ ∀ c_ j_, ¬ (c_ = 339 ∧ (j_ = 4 ∨ (330 ≤ j_ ∧ j_ < 434))) → bpat h' c_ j_ = bpat h_ c_ j_) ∧ (bpat h' 339 4 = some (.int 7) ∧ bldD 60 209 13 [(2, .int (Int32.ofNat i_)), (0, .index 338), (1, .int (Int32.ofNat q_))] [] h_ 57 [(2, .int (Int32.ofNat 0)), (0, .index 338), (1, .int (Int32.ofNat q_))] [] h') := by
  intro n_
  have z91 : (91 : Int32).toInt = 91 := rfl
  induction n_ with
  | zero =>
    intro i_ h_ hi_ S_ I_ o
    have ii := i32n (i_ := i_) (by omega)
    obtain ⟨h1, m1_, w0_, f1_, ld1⟩ := mlgO (v1_ := Int32.ofNat q_) (v2 := Int32.ofNat i_) S_ o (by omega)
    exact ⟨h1, ⟨⟨m1_, mI_w I_ w0_ (fun j_ hj => f1_ _ _ (by omega))⟩, fun c_ j_ n1_ => f1_ c_ j_ (by omega)⟩, w0_, ld1⟩
  | succ n_ ih_ =>
    intro i_ h_ hi_ S_ I_ o
    have ii := i32n (i_ := i_) (by omega)
    have ea : (330 : Int32) + Int32.ofNat i_ = Int32.ofNat (330 + i_) := i32p 330 i_
    have eb : (343 : Int32) + Int32.ofNat i_ = Int32.ofNat (343 + i_) := i32p 343 i_
    have ta : (Int32.ofNat (330 + i_)).toInt = ((330 + i_ : Nat) : Int) := i32n (by omega)
    have tb_ : (Int32.ofNat (343 + i_)).toInt = ((343 + i_ : Nat) : Int) := i32n (by omega)
    obtain ⟨y_, ey⟩ := I_ (343 + i_) (by omega)
    obtain ⟨h1, m1_, w0_, f1_, ld1⟩ := mlgM (v1_ := Int32.ofNat q_) (v2 := Int32.ofNat i_) S_ (by rw [eb, tb_, Int.toNat_natCast]; exact ey) ⟨by rw [ea]; omega, by rw [ea]; omega⟩ ⟨by rw [eb]; omega, by rw [eb]; omega⟩ (by omega)
    rw [ea, ta, Int.toNat_natCast] at w0_ f1_
    rw [i32s] at ld1
    obtain ⟨h2, ⟨⟨m2_, I2_⟩, f2_⟩, w2_, ld2⟩ := ih_ (i_ + 1) h1 (by omega) m1_.1 (mI_w I_ w0_ (fun j_ hj => f1_ _ _ (by omega))) ((f1_ _ _ (by omega)).trans o)
    exact ⟨h2, ⟨⟨ysm_tr m1_ m2_, I2_⟩, fun c_ j_ n1_ => (f2_ c_ j_ n1_).trans (f1_ c_ j_ (by omega))⟩, w2_, fun D_ hD oo z_ => ld1 D_ hD oo (ld2 D_ hD oo z_)⟩
theorem lg2 {q_ g_ : Nat} (hq : 190 ≤ q_ ∧ q_ + 13 ≤ 330) (hg : g_ < 8) : ∀ (n_ i_ : Nat) (h_ : xH), i_ + n_ = 13 → sHp h_ → mI h_ → bpat h_ 339 4 = some (.int (Int32.ofNat g_)) → ∃ h', ((ysm h_ h' ∧ mI h') ∧ ∀ c_ j_, ¬ (c_ = 339 ∧ (j_ = 4 ∨ (330 ≤ j_ ∧ j_ < 434))) → bpat h' c_ j_ = bpat h_ c_ j_) ∧ (bpat h' 339 4 = some (.int (Int32.ofNat (g_ + 1))) ∧ ∀ D_, 60 ≤ D_ → xrun D_ 209 57 [(2, .int (Int32.ofNat i_)), (0, .index 338), (1, .int (Int32.ofNat q_))] [] h_ (none, h', [])) := by
  intro n_
  have z13_ : (13 : Int32).toInt = 13 := rfl
  induction n_ with
  | zero =>
    intro i_ h_ hi_ S_ I_ o
    have ii := i32n (i_ := i_) (by omega)
    obtain ⟨h1, m1_, w0_, f1_, r1_⟩ := mlgX (v1_ := Int32.ofNat q_) (v2 := Int32.ofNat i_) S_ o (by omega)
    rw [i32s] at w0_
    exact ⟨h1, ⟨⟨m1_, mI_w I_ w0_ (fun j_ hj => f1_ _ _ (by omega))⟩, fun c_ j_ n1_ => f1_ c_ j_ (by omega)⟩, w0_, r1_⟩
  | succ n_ ih_ =>
    intro i_ h_ hi_ S_ I_ o
    have ii := i32n (i_ := i_) (by omega)
    have ec := ixq hg (show i_ < 13 by omega)
    have ed : Int32.ofNat q_ + Int32.ofNat i_ = Int32.ofNat (q_ + i_) := i32p q_ i_
    have td : (Int32.ofNat (q_ + i_)).toInt = ((q_ + i_ : Nat) : Int) := i32n (by omega)
    obtain ⟨y_, ey⟩ := I_ (q_ + i_) (by omega)
    obtain ⟨h1, m1_, w0_, f1_, ld1⟩ := mlgC (v1_ := Int32.ofNat q_) (v2 := Int32.ofNat i_) S_ o (by rw [ed, td, Int.toNat_natCast]; exact ey) ⟨by omega, by omega⟩ ⟨by rw [ed]; omega, by rw [ed]; omega⟩ (by omega)
    rw [ec, Int.toNat_natCast] at w0_ f1_
    rw [i32s] at ld1
    obtain ⟨h2, ⟨⟨m2_, I2_⟩, f2_⟩, w2_, r2⟩ := ih_ (i_ + 1) h1 (by omega) m1_.1 (mI_w I_ w0_ (fun j_ hj => f1_ _ _ (by omega))) ((f1_ _ _ (by omega)).trans o)
    exact ⟨h2, ⟨⟨ysm_tr m1_ m2_, I2_⟩, fun c_ j_ n1_ => (f2_ c_ j_ n1_).trans (f1_ c_ j_ (by omega))⟩, w2_, fun D_ hD => ld1 D_ hD _ (r2 D_ hD)⟩
/-- logs -/
theorem lgM {q_ g_ : Nat} {h_ : xH} (hq : 190 ≤ q_ ∧ q_ + 13 ≤ 330) (hg : g_ ≤ 8) (S_ : sHp h_) (I_ : mI h_) (o : bpat h_ 339 4 = some (.int (Int32.ofNat g_))) : ∃ h', ((ysm h_ h' ∧ mI h') ∧ ∀ c_ j_, ¬ (c_ = 339 ∧ (j_ = 4 ∨ (330 ≤ j_ ∧ j_ < 434))) → bpat h' c_ j_ = bpat h_ c_ j_) ∧ (bpat h' 339 4 = some (.int (Int32.ofNat (lgF g_))) ∧ ∀ D_, 60 ≤ D_ → xrun D_ 209 0 [(0, .index 338), (1, .int (Int32.ofNat q_))] [] h_ (none, h', [])) := by
  by_cases g8 : g_ = 8
  · subst g8
    obtain ⟨h1, m1_, f1_, ld1⟩ := mlgE1 (v1_ := Int32.ofNat q_) S_ o rfl
    obtain ⟨h2, ⟨⟨m2_, I2_⟩, f2_⟩, w2_, ld2⟩ := lg1 (q_ := q_) 91 0 h1 (by omega) m1_.1 (mI_k I_ (fun j_ => f1_ _ _)) ((f1_ _ _).trans o)
    obtain ⟨h3, ⟨⟨m3_, I3⟩, f3_⟩, w3_, r3⟩ := lg2 (g_ := 7) hq (by omega) 13 0 h2 (by omega) m2_.1 I2_ w2_
    exact ⟨h3, ⟨⟨ysm_tr m1_ (ysm_tr m2_ m3_), I3⟩, fun c_ j_ n1_ => (f3_ c_ j_ n1_).trans ((f2_ c_ j_ n1_).trans (f1_ c_ j_))⟩, w3_, fun D_ hD => ld1 D_ hD _ (ld2 D_ hD _ (r3 D_ hD))⟩
  · have ne_ : ¬ Int32.ofNat g_ = 8 := fun z_ => g8 (by have z2 := congrArg Int32.toInt z_; rw [i32n (by omega), show (8 : Int32).toInt = 8 from rfl] at z2; omega)
    obtain ⟨h1, m1_, f1_, ld1⟩ := mlgE0 (v1_ := Int32.ofNat q_) S_ o ne_
    obtain ⟨h3, ⟨⟨m3_, I3⟩, f3_⟩, w3_, r3⟩ := lg2 (g_ := g_) hq (by omega) 13 0 h1 (by omega) m1_.1 (mI_k I_ (fun j_ => f1_ _ _)) ((f1_ _ _).trans o)
    have el : lgF g_ = g_ + 1 := by
      unfold lgF
      split <;> omega
    rw [el]
    exact ⟨h3, ⟨⟨ysm_tr m1_ m3_, I3⟩, fun c_ j_ n1_ => (f3_ c_ j_ n1_).trans (f1_ c_ j_)⟩, w3_, fun D_ hD => ld1 D_ hD _ (r3 D_ hD)⟩
def hdCm (e_ p_ : Nat) (lo_ : xL) : Prop := lo_ = [(2, .int (Int32.ofNat e_)), (1, .int (Int32.ofNat p_)), (0, .index 338)] ∨ ((∃ y3 : Int32, lo_ = [(2, .int (Int32.ofNat e_)), (3, .int y3), (1, .int (Int32.ofNat p_)), (0, .index 338)]) ∨ ((∃ y4 y3 : Int32, lo_ = [(2, .int (Int32.ofNat e_)), (1, .int (Int32.ofNat p_)), (4, .int y4), (3, .int y3), (0, .index 338)]) ∨ ∃ y3 y4 : Int32, lo_ = [(2, .int (Int32.ofNat e_)), (3, .int y3), (1, .int (Int32.ofNat p_)), (4, .int y4), (0, .index 338)]))
def mdCm (e_ p_ : Nat) (y3 : Int32) (lo_ : xL) : Prop := lo_ = [(3, .int y3), (2, .int (Int32.ofNat e_)), (1, .int (Int32.ofNat p_)), (0, .index 338)] ∨ ∃ y4 : Int32, lo_ = [(3, .int y3), (2, .int (Int32.ofNat e_)), (1, .int (Int32.ofNat p_)), (4, .int y4), (0, .index 338)]
section
variable {h_ : xH} {e_ p_ : Nat} {lo_ : xL} {nw : Int32}
theorem hC_X {n_ : Nat} (S_ : sHp h_) (hn : n_ ≤ 10) (he : e_ ≤ 10) (o3_ : bpat h_ 339 3 = some (.int (Int32.ofNat n_))) (g_ : n_ ≤ e_) (H_ : hdCm e_ p_ lo_) : ∃ h1, (ysm h_ h1 ∧ (bpat h1 339 3 = some (.int (Int32.ofNat p_)) ∧ ∀ c_ j_, ¬ (c_ = 339 ∧ j_ = 3) → bpat h1 c_ j_ = bpat h_ c_ j_)) ∧ ∀ D_, 60 ≤ D_ → xrun D_ 210 4 lo_ [] h_ (none, h1, []) := by
  rcases H_ with rfl | ⟨y3, rfl⟩ | ⟨y4, y3, rfl⟩ | ⟨y3, y4, rfl⟩
  · have ie := i32n (i_ := e_) (by omega)
    have inn := i32n (i_ := n_) (by omega)
    obtain ⟨h1, m1_, w0_, f1_, r1_⟩ := mcmXA (v1_ := Int32.ofNat p_) (v2 := Int32.ofNat e_) S_ o3_ (by omega)
    exact ⟨h1, ⟨m1_, w0_, f1_⟩, r1_⟩
  · have ie := i32n (i_ := e_) (by omega)
    have inn := i32n (i_ := n_) (by omega)
    obtain ⟨h1, m1_, w0_, f1_, r1_⟩ := mcmXB (v1_ := Int32.ofNat p_) (v2 := Int32.ofNat e_) (v3 := y3) S_ o3_ (by omega)
    exact ⟨h1, ⟨m1_, w0_, f1_⟩, r1_⟩
  · have ie := i32n (i_ := e_) (by omega)
    have inn := i32n (i_ := n_) (by omega)
    obtain ⟨h1, m1_, w0_, f1_, r1_⟩ := mcmXC (v1_ := Int32.ofNat p_) (v2 := Int32.ofNat e_) (v4_ := y4) (v3 := y3) S_ o3_ (by omega)
    exact ⟨h1, ⟨m1_, w0_, f1_⟩, r1_⟩
  · have ie := i32n (i_ := e_) (by omega)
    have inn := i32n (i_ := n_) (by omega)
    obtain ⟨h1, m1_, w0_, f1_, r1_⟩ := mcmXD (v1_ := Int32.ofNat p_) (v2 := Int32.ofNat e_) (v3 := y3) (v4_ := y4) S_ o3_ (by omega)
    exact ⟨h1, ⟨m1_, w0_, f1_⟩, r1_⟩
theorem hC_L {n_ : Nat} {t_ : Int32} (S_ : sHp h_) (hn : n_ ≤ 10) (he : e_ < n_) (o3_ : bpat h_ 339 3 = some (.int (Int32.ofNat n_))) (o2 : bpat h_ 339 2 = some (.int nw)) (ot : bpat h_ 339 (190 + 14 * e_) = some (.int t_)) (g_ : t_.toInt ≤ nw.toInt) (H_ : hdCm e_ p_ lo_) : ∃ h1, (ysm h_ h1 ∧ ∀ c_ j_, bpat h1 c_ j_ = bpat h_ c_ j_) ∧ ∃ lo', mdCm e_ p_ (Int32.ofNat (190 + 14 * e_)) lo' ∧ bldD 60 210 4 lo_ [] h_ 42 lo' [.int (Int32.ofNat (190 + 14 * e_ + 1)), .index 338] h1 := by
  rcases H_ with rfl | ⟨y3, rfl⟩ | ⟨y4, y3, rfl⟩ | ⟨y3, y4, rfl⟩
  · have ie := i32n (i_ := e_) (by omega)
    have inn := i32n (i_ := n_) (by omega)
    have ee := ixe (show e_ < 11 by omega)
    have te : (Int32.ofNat (190 + 14 * e_)).toInt = ((190 + 14 * e_ : Nat) : Int) := i32n (by omega)
    obtain ⟨h1, m1_, f1_, ld1⟩ := mcmLA (v1_ := Int32.ofNat p_) (v2 := Int32.ofNat e_) S_ o3_ (by rw [ee, te, Int.toNat_natCast]; exact ot) o2 ⟨by rw [ee]; omega, by rw [ee]; omega⟩ g_ (by omega)
    rw [ee, i32s] at ld1
    exact ⟨h1, ⟨m1_, f1_⟩, _, Or.inl rfl, ld1⟩
  · have ie := i32n (i_ := e_) (by omega)
    have inn := i32n (i_ := n_) (by omega)
    have ee := ixe (show e_ < 11 by omega)
    have te : (Int32.ofNat (190 + 14 * e_)).toInt = ((190 + 14 * e_ : Nat) : Int) := i32n (by omega)
    obtain ⟨h1, m1_, f1_, ld1⟩ := mcmLB (v1_ := Int32.ofNat p_) (v2 := Int32.ofNat e_) (v3 := y3) S_ o3_ (by rw [ee, te, Int.toNat_natCast]; exact ot) o2 ⟨by rw [ee]; omega, by rw [ee]; omega⟩ g_ (by omega)
    rw [ee, i32s] at ld1
    exact ⟨h1, ⟨m1_, f1_⟩, _, Or.inl rfl, ld1⟩
  · have ie := i32n (i_ := e_) (by omega)
    have inn := i32n (i_ := n_) (by omega)
    have ee := ixe (show e_ < 11 by omega)
    have te : (Int32.ofNat (190 + 14 * e_)).toInt = ((190 + 14 * e_ : Nat) : Int) := i32n (by omega)
    obtain ⟨h1, m1_, f1_, ld1⟩ := mcmLC (v1_ := Int32.ofNat p_) (v2 := Int32.ofNat e_) (v4_ := y4) (v3 := y3) S_ o3_ (by rw [ee, te, Int.toNat_natCast]; exact ot) o2 ⟨by rw [ee]; omega, by rw [ee]; omega⟩ g_ (by omega)
    rw [ee, i32s] at ld1
    exact ⟨h1, ⟨m1_, f1_⟩, _, Or.inr ⟨_, rfl⟩, ld1⟩
  · have ie := i32n (i_ := e_) (by omega)
    have inn := i32n (i_ := n_) (by omega)
    have ee := ixe (show e_ < 11 by omega)
    have te : (Int32.ofNat (190 + 14 * e_)).toInt = ((190 + 14 * e_ : Nat) : Int) := i32n (by omega)
    obtain ⟨h1, m1_, f1_, ld1⟩ := mcmLD (v1_ := Int32.ofNat p_) (v2 := Int32.ofNat e_) (v3 := y3) (v4_ := y4) S_ o3_ (by rw [ee, te, Int.toNat_natCast]; exact ot) o2 ⟨by rw [ee]; omega, by rw [ee]; omega⟩ g_ (by omega)
    rw [ee, i32s] at ld1
    exact ⟨h1, ⟨m1_, f1_⟩, _, Or.inr ⟨_, rfl⟩, ld1⟩
theorem hC_K {n_ : Nat} {t_ : Int32} (S_ : sHp h_) (hn : n_ ≤ 10) (he : e_ < n_) (o3_ : bpat h_ 339 3 = some (.int (Int32.ofNat n_))) (o2 : bpat h_ 339 2 = some (.int nw)) (ot : bpat h_ 339 (190 + 14 * e_) = some (.int t_)) (g_ : nw.toInt < t_.toInt) (H_ : hdCm e_ p_ lo_) : ∃ h1, (ysm h_ h1 ∧ ∀ c_ j_, bpat h1 c_ j_ = bpat h_ c_ j_) ∧ bldD 60 210 4 lo_ [] h_ 51 [(4, .int 0), (3, .int (Int32.ofNat (190 + 14 * e_))), (2, .int (Int32.ofNat e_)), (1, .int (Int32.ofNat p_)), (0, .index 338)] [] h1 := by
  rcases H_ with rfl | ⟨y3, rfl⟩ | ⟨y4, y3, rfl⟩ | ⟨y3, y4, rfl⟩
  · have ie := i32n (i_ := e_) (by omega)
    have inn := i32n (i_ := n_) (by omega)
    have ee := ixe (show e_ < 11 by omega)
    have te : (Int32.ofNat (190 + 14 * e_)).toInt = ((190 + 14 * e_ : Nat) : Int) := i32n (by omega)
    obtain ⟨h1, m1_, f1_, ld1⟩ := mcmKA (v1_ := Int32.ofNat p_) (v2 := Int32.ofNat e_) S_ o3_ (by rw [ee, te, Int.toNat_natCast]; exact ot) o2 ⟨by rw [ee]; omega, by rw [ee]; omega⟩ g_ (by omega)
    rw [ee] at ld1
    exact ⟨h1, ⟨m1_, f1_⟩, ld1⟩
  · have ie := i32n (i_ := e_) (by omega)
    have inn := i32n (i_ := n_) (by omega)
    have ee := ixe (show e_ < 11 by omega)
    have te : (Int32.ofNat (190 + 14 * e_)).toInt = ((190 + 14 * e_ : Nat) : Int) := i32n (by omega)
    obtain ⟨h1, m1_, f1_, ld1⟩ := mcmKB (v1_ := Int32.ofNat p_) (v2 := Int32.ofNat e_) (v3 := y3) S_ o3_ (by rw [ee, te, Int.toNat_natCast]; exact ot) o2 ⟨by rw [ee]; omega, by rw [ee]; omega⟩ g_ (by omega)
    rw [ee] at ld1
    exact ⟨h1, ⟨m1_, f1_⟩, ld1⟩
  · have ie := i32n (i_ := e_) (by omega)
    have inn := i32n (i_ := n_) (by omega)
    have ee := ixe (show e_ < 11 by omega)
    have te : (Int32.ofNat (190 + 14 * e_)).toInt = ((190 + 14 * e_ : Nat) : Int) := i32n (by omega)
    obtain ⟨h1, m1_, f1_, ld1⟩ := mcmKC (v1_ := Int32.ofNat p_) (v2 := Int32.ofNat e_) (v4_ := y4) (v3 := y3) S_ o3_ (by rw [ee, te, Int.toNat_natCast]; exact ot) o2 ⟨by rw [ee]; omega, by rw [ee]; omega⟩ g_ (by omega)
    rw [ee] at ld1
    exact ⟨h1, ⟨m1_, f1_⟩, ld1⟩
  · have ie := i32n (i_ := e_) (by omega)
    have inn := i32n (i_ := n_) (by omega)
    have ee := ixe (show e_ < 11 by omega)
    have te : (Int32.ofNat (190 + 14 * e_)).toInt = ((190 + 14 * e_ : Nat) : Int) := i32n (by omega)
    obtain ⟨h1, m1_, f1_, ld1⟩ := mcmKD (v1_ := Int32.ofNat p_) (v2 := Int32.ofNat e_) (v3 := y3) (v4_ := y4) S_ o3_ (by rw [ee, te, Int.toNat_natCast]; exact ot) o2 ⟨by rw [ee]; omega, by rw [ee]; omega⟩ g_ (by omega)
    rw [ee] at ld1
    exact ⟨h1, ⟨m1_, f1_⟩, ld1⟩
theorem hC_N {y3 : Int32} (S_ : sHp h_) (H_ : mdCm e_ p_ y3 lo_) : ∃ h1, (ysm h_ h1 ∧ ∀ c_ j_, bpat h1 c_ j_ = bpat h_ c_ j_) ∧ ∃ lo', hdCm (e_ + 1) p_ lo' ∧ bldD 60 210 45 lo_ [] h_ 4 lo' [] h1 := by
  rcases H_ with rfl | ⟨y4, rfl⟩
  · obtain ⟨h1, m1_, f1_, ld1⟩ := mcmNA (v1_ := Int32.ofNat p_) (v2 := Int32.ofNat e_) (v3 := y3) S_
    rw [i32s] at ld1
    exact ⟨h1, ⟨m1_, f1_⟩, _, Or.inr (Or.inl ⟨_, rfl⟩), ld1⟩
  · obtain ⟨h1, m1_, f1_, ld1⟩ := mcmNC (v1_ := Int32.ofNat p_) (v2 := Int32.ofNat e_) (v3 := y3) (v4_ := y4) S_
    rw [i32s] at ld1
    exact ⟨h1, ⟨m1_, f1_⟩, _, Or.inr (Or.inr (Or.inr ⟨_, _, rfl⟩)), ld1⟩
theorem mC_cc {y3 : Int32} {n_ : Nat} (hn : 338 < n_) (H_ : mdCm e_ p_ y3 lo_) : xcc n_ lo_ [] = true := by
  rcases H_ with rfl | ⟨y4, rfl⟩
  · exact (xcc_l (List.forall_mem_cons.mpr ⟨rfl, List.forall_mem_cons.mpr ⟨rfl, List.forall_mem_cons.mpr ⟨rfl, List.forall_mem_cons.mpr ⟨xidx_i hn, fun q_ hq => absurd hq List.not_mem_nil⟩⟩⟩⟩) (fun t_ ht => absurd ht List.not_mem_nil) (Nat.le_of_ble_eq_true rfl))
  · exact (xcc_l (List.forall_mem_cons.mpr ⟨rfl, List.forall_mem_cons.mpr ⟨rfl, List.forall_mem_cons.mpr ⟨rfl, List.forall_mem_cons.mpr ⟨rfl, List.forall_mem_cons.mpr ⟨xidx_i hn, fun q_ hq => absurd hq List.not_mem_nil⟩⟩⟩⟩⟩) (fun t_ ht => absurd ht List.not_mem_nil) (Nat.le_of_ble_eq_true rfl))
end
/-- an ECHO moves -/
theorem ci_lp {e_ p_ : Nat} {t_ : Int32} (he : e_ < 10) (hp : p_ ≤ e_) : ∀ (n_ i_ : Nat) (h_ : xH), i_ + n_ = 14 → sHp h_ → mI h_ → (i_ = 0 → bpat h_ 339 (190 + 14 * e_) = some (.int t_)) → (1 ≤ i_ → bpat h_ 339 (190 + 14 * p_) = some (.int t_)) → ∃ h' lo', ((ysm h_ h' ∧ mI h') ∧ ((∀ c_ j_, ¬ (c_ = 339 ∧ (190 + 14 * p_ ≤ j_ ∧ j_ < 204 + 14 * p_)) → bpat h' c_ j_ = bpat h_ c_ j_) ∧ bpat h' 339 (190 + 14 * p_) = some (.int t_))) ∧ (hdCm (e_ + 1) (p_ + 1) lo' ∧ bldD 60 210 51 [(4, .int (Int32.ofNat i_)), (3, .int (Int32.ofNat (190 + 14 * e_))), (2, .int (Int32.ofNat e_)), (1, .int (Int32.ofNat p_)), (0, .index 338)] [] h_ 4 lo' [] h') := by
  intro n_
  have z14_ : (14 : Int32).toInt = 14 := rfl
  induction n_ with
  | zero =>
    intro i_ h_ hi_ S_ I_ s0_ s1_
    have ii := i32n (i_ := i_) (by omega)
    obtain ⟨h1, m1_, f1_, ld1⟩ := mcmO (v1_ := Int32.ofNat p_) (v2 := Int32.ofNat e_) (v3 := Int32.ofNat (190 + 14 * e_)) (v4_ := Int32.ofNat i_) S_ (by omega)
    rw [i32s, i32s] at ld1
    exact ⟨h1, _, ⟨⟨m1_, mI_k I_ (fun j_ => f1_ _ _)⟩, fun c_ j_ _ => f1_ c_ j_, (f1_ _ _).trans (s1_ (by omega))⟩, Or.inr (Or.inr (Or.inl ⟨_, _, rfl⟩)), ld1⟩
  | succ n_ ih_ =>
    intro i_ h_ hi_ S_ I_ s0_ s1_
    have ii := i32n (i_ := i_) (by omega)
    have ep := ixe (show p_ < 11 by omega)
    have ef : ((190 : Int32) + (14 : Int32) * Int32.ofNat p_) + Int32.ofNat i_ = Int32.ofNat (190 + 14 * p_ + i_) := by rw [ep]; exact i32p _ _
    have eg : Int32.ofNat (190 + 14 * e_) + Int32.ofNat i_ = Int32.ofNat (190 + 14 * e_ + i_) := i32p _ _
    have tf : (Int32.ofNat (190 + 14 * p_ + i_)).toInt = ((190 + 14 * p_ + i_ : Nat) : Int) := i32n (by omega)
    have tg : (Int32.ofNat (190 + 14 * e_ + i_)).toInt = ((190 + 14 * e_ + i_ : Nat) : Int) := i32n (by omega)
    obtain ⟨y_, ey⟩ := I_ (190 + 14 * e_ + i_) (by omega)
    obtain ⟨h1, m1_, w0_, f1_, ld1⟩ := mcmI (v1_ := Int32.ofNat p_) (v2 := Int32.ofNat e_) (v3 := Int32.ofNat (190 + 14 * e_)) (v4_ := Int32.ofNat i_) S_ (by rw [eg, tg, Int.toNat_natCast]; exact ey) ⟨by rw [ef]; omega, by rw [ef]; omega⟩ ⟨by rw [eg]; omega, by rw [eg]; omega⟩ (by omega)
    rw [ef, tf, Int.toNat_natCast] at w0_ f1_
    rw [i32s] at ld1
    obtain ⟨h2, lo2, ⟨⟨m2_, I2_⟩, f2_, w2_⟩, H2_, ld2⟩ := ih_ (i_ + 1) h1 (by omega) m1_.1 (mI_w I_ w0_ (fun j_ hj => f1_ _ _ (by omega))) (fun z_ => by omega) (fun _ => by
      by_cases z_ : i_ = 0
      · subst z_
        have q_ := s0_ rfl
        rw [Nat.add_zero] at ey w0_
        rw [q_] at ey
        rw [w0_]
        exact ey.symm
      · exact (f1_ _ _ (by omega)).trans (s1_ (by omega)))
    exact ⟨h2, lo2, ⟨⟨ysm_tr m1_ m2_, I2_⟩, fun c_ j_ n1_ => (f2_ c_ j_ n1_).trans (f1_ c_ j_ (by omega)), w2_⟩, H2_, fun D_ hD oo z_ => ld1 D_ hD oo (ld2 D_ hD oo z_)⟩
/-- NOW, ECHOES on their way, how many rows THE LOG has: the reference -/
def EMr (T : List Int32) (nw : Int32) (g_ : Nat) (h_ : xH) : Prop := (bpat h_ 339 2 = some (.int nw) ∧ bpat h_ 339 3 = some (.int (Int32.ofNat T.length))) ∧ (bpat h_ 339 4 = some (.int (Int32.ofNat g_)) ∧ ∀ k_ t_, T[k_]? = some t_ → bpat h_ 339 (190 + 14 * k_) = some (.int t_))
theorem EMr_k {T : List Int32} {nw : Int32} {g_ : Nat} {h_ h' : xH} (X_ : EMr T nw g_ h_) (hT_ : T.length ≤ 10) (f_ : ∀ j_, (2 ≤ j_ ∧ j_ ≤ 4) ∨ (190 ≤ j_ ∧ j_ < 330) → bpat h' 339 j_ = bpat h_ 339 j_) : EMr T nw g_ h' := ⟨⟨(f_ _ (by omega)).trans X_.1.1, (f_ _ (by omega)).trans X_.1.2⟩, (f_ _ (by omega)).trans X_.2.1, fun k_ t_ hk => by
  have lk_ := (List.getElem?_eq_some_iff.mp hk).1
  exact (f_ _ (by omega)).trans (X_.2.2 k_ t_ hk)⟩
def kpM (nw : Int32) (T : List Int32) : List Int32 := T.filter (fun t_ => decide (¬ t_.toInt ≤ nw.toInt))
def lgT (nw : Int32) (g_ : Nat) (T : List Int32) : Nat := match T with
  | [] => g_
  | t_ :: u_ => lgT nw (if t_.toInt ≤ nw.toInt then lgF g_ else g_) u_
theorem cm_lp {u_ : Nat} {nw : Int32} (hu : u_ ≤ 10) : ∀ (l : List Int32) (e_ : Nat) (P_ : List Int32) (g_ : Nat) (h_ : xH) (lo_ : xL), e_ + l.length = u_ → P_.length ≤ e_ → g_ ≤ 8 → sHp h_ → mI h_ → (bpat h_ 339 2 = some (.int nw) ∧ (bpat h_ 339 3 = some (.int (Int32.ofNat u_)) ∧ bpat h_ 339 4 = some (.int (Int32.ofNat g_)))) → (∀ k_ t_, P_[k_]? = some t_ → bpat h_ 339 (190 + 14 * k_) = some (.int t_)) → (∀ j_ t_, l[j_]? = some t_ → bpat h_ 339 (190 + 14 * (e_ + j_)) = some (.int t_)) → hdCm e_ P_.length lo_ → ∃ h', (((ysm h_ h' ∧ mI h') ∧ ∀ c_ j_, ¬ (c_ = 339 ∧ ((3 ≤ j_ ∧ j_ ≤ 4) ∨ (190 ≤ j_ ∧ j_ < 434))) → bpat h' c_ j_ = bpat h_ c_ j_) ∧ EMr (P_ ++ kpM nw l) nw (lgT nw g_ l) h') ∧ ∀ D_, 62 ≤ D_ → xrun D_ 210 4 lo_ [] h_ (none, h', []) := by
  intro l
  induction l with
  | nil =>
    intro e_ P_ g_ h_ lo_ he hP hg S_ I_ ⟨o2, o3_, o4_⟩ QP_ QL_ H_
    rw [List.length_nil] at he
    obtain ⟨h1, ⟨m1_, w0_, f1_⟩, r1_⟩ := hC_X S_ hu (by omega) o3_ (by omega) H_
    refine ⟨h1, ⟨⟨⟨m1_, mI_w I_ w0_ (fun j_ hj => f1_ _ _ (by omega))⟩, fun c_ j_ n1_ => f1_ c_ j_ (by omega)⟩, ?_⟩, fun D_ hD => r1_ D_ (by omega)⟩
    show EMr (P_ ++ []) nw g_ h1
    rw [List.append_nil]
    exact ⟨⟨(f1_ _ _ (by omega)).trans o2, w0_⟩, (f1_ _ _ (by omega)).trans o4_, fun k_ t_ hk => (f1_ _ _ (by omega)).trans (QP_ k_ t_ hk)⟩
  | cons t_ l ih_ =>
    intro e_ P_ g_ h_ lo_ he hP hg S_ I_ ⟨o2, o3_, o4_⟩ QP_ QL_ H_
    rw [List.length_cons] at he
    have ot := QL_ 0 t_ rfl
    rw [Nat.add_zero] at ot
    by_cases gt : t_.toInt ≤ nw.toInt
    · have ek : kpM nw (t_ :: l) = kpM nw l := List.filter_cons_of_neg (by rw [decide_eq_true_eq]; exact fun q_ => q_ gt)
      have el : lgT nw g_ (t_ :: l) = lgT nw (lgF g_) l := by show lgT nw (if t_.toInt ≤ nw.toInt then lgF g_ else g_) l = _; rw [if_pos gt]
      rw [ek, el]
      obtain ⟨h1, ⟨m1_, f1_⟩, lo1, H1_, ld1⟩ := hC_L S_ hu (by omega) o3_ o2 ot gt H_
      have T1 : bcq h1 338 12 26 := bcq_of (n_ := 338) (z_ := (12, 26)) m1_.1 rfl
      obtain ⟨h2, ⟨⟨m2_, I2_⟩, f2_⟩, w2_, r2⟩ := lgM (q_ := 190 + 14 * e_ + 1) (g_ := g_) ⟨by omega, by omega⟩ hg m1_.1 (mI_k I_ (fun j_ => f1_ _ _)) ((f1_ _ _).trans o4_)
      have ld2 := ycv (d_ := 60) (mi := 210) (pc := 42) (cm := 209) (lo_ := lo1) (st_ := [.int (Int32.ofNat (190 + 14 * e_ + 1)), .index 338]) (as_ := [.int (Int32.ofNat (190 + 14 * e_ + 1))]) (s' := []) rfl rfl T1 rfl (mC_cc (bcq_lt T1) H1_) r2
      obtain ⟨h3, ⟨m3_, f3_⟩, lo3, H3, ld3⟩ := hC_N m2_.1 H1_
      have F3 : ∀ c_ j_, ¬ (c_ = 339 ∧ (j_ = 4 ∨ (330 ≤ j_ ∧ j_ < 434))) → bpat h3 c_ j_ = bpat h_ c_ j_ := fun c_ j_ n1_ => (f3_ c_ j_).trans ((f2_ c_ j_ n1_).trans (f1_ c_ j_))
      obtain ⟨h4, ⟨⟨⟨m4_, I4⟩, f4_⟩, X4⟩, r4⟩ := ih_ (e_ + 1) P_ (lgF g_) h3 lo3 (by omega) (by omega) lgF_8 m3_.1 (mI_k I2_ (fun j_ => f3_ _ _)) ⟨(F3 _ _ (by omega)).trans o2, (F3 _ _ (by omega)).trans o3_, (f3_ _ _).trans w2_⟩ (fun k_ t' hk => by
        have lk_ := (List.getElem?_eq_some_iff.mp hk).1
        exact (F3 _ _ (by omega)).trans (QP_ k_ t' hk)) (fun j_ t' hj => by
        have lj := (List.getElem?_eq_some_iff.mp hj).1
        have q_ := QL_ (j_ + 1) t' hj
        rw [show e_ + (j_ + 1) = e_ + 1 + j_ by omega] at q_
        exact (F3 _ _ (by omega)).trans q_) H3
      exact ⟨h4, ⟨⟨⟨ysm_tr m1_ (ysm_tr m2_ (ysm_tr m3_ m4_)), I4⟩, fun c_ j_ n1_ => (f4_ c_ j_ n1_).trans (F3 c_ j_ (by omega))⟩, X4⟩, fun D_ hD => ld1 D_ (by omega) _ (ld2 D_ (by omega) _ (ld3 D_ (by omega) _ (r4 D_ hD)))⟩
    · have ek : kpM nw (t_ :: l) = t_ :: kpM nw l := List.filter_cons_of_pos (by rw [decide_eq_true_eq]; exact gt)
      have el : lgT nw g_ (t_ :: l) = lgT nw g_ l := by show lgT nw (if t_.toInt ≤ nw.toInt then lgF g_ else g_) l = _; rw [if_neg gt]
      rw [ek, el, show P_ ++ t_ :: kpM nw l = (P_ ++ [t_]) ++ kpM nw l by rw [List.append_assoc]; rfl]
      obtain ⟨h1, ⟨m1_, f1_⟩, ld1⟩ := hC_K S_ hu (by omega) o3_ o2 ot (by omega) H_
      obtain ⟨h2, lo2, ⟨⟨m2_, I2_⟩, f2_, w2_⟩, H2_, ld2⟩ := ci_lp (e_ := e_) (p_ := P_.length) (t_ := t_) (by omega) hP 14 0 h1 (by omega) m1_.1 (mI_k I_ (fun j_ => f1_ _ _)) (fun _ => (f1_ _ _).trans ot) (fun z_ => by omega)
      have F2 : ∀ c_ j_, ¬ (c_ = 339 ∧ (190 + 14 * P_.length ≤ j_ ∧ j_ < 204 + 14 * P_.length)) → bpat h2 c_ j_ = bpat h_ c_ j_ := fun c_ j_ n1_ => (f2_ c_ j_ n1_).trans (f1_ c_ j_)
      have la : (P_ ++ [t_]).length = P_.length + 1 := List.length_append
      obtain ⟨h4, ⟨⟨⟨m4_, I4⟩, f4_⟩, X4⟩, r4⟩ := ih_ (e_ + 1) (P_ ++ [t_]) g_ h2 lo2 (by omega) (by rw [la]; omega) hg m2_.1 I2_ ⟨(F2 _ _ (by omega)).trans o2, (F2 _ _ (by omega)).trans o3_, (F2 _ _ (by omega)).trans o4_⟩ (fun k_ t' hk => by
        have lk_ := (List.getElem?_eq_some_iff.mp hk).1
        by_cases z_ : k_ < P_.length
        · rw [List.getElem?_append_left z_] at hk
          exact (F2 _ _ (by omega)).trans (QP_ k_ t' hk)
        · have ek2 : k_ = P_.length := by omega
          subst ek2
          rw [List.getElem?_append_right (Nat.le_refl _), Nat.sub_self] at hk
          have et : t_ = t' := Option.some.inj hk
          rw [← et]
          exact w2_) (fun j_ t' hj => by
        have q_ := QL_ (j_ + 1) t' hj
        rw [show e_ + (j_ + 1) = e_ + 1 + j_ by omega] at q_
        exact (F2 _ _ (by omega)).trans q_) (by rw [la]; exact H2_)
      exact ⟨h4, ⟨⟨⟨ysm_tr m1_ (ysm_tr m2_ m4_), I4⟩, fun c_ j_ n1_ => (f4_ c_ j_ n1_).trans (F2 c_ j_ (by omega))⟩, X4⟩, fun D_ hD => ld1 D_ (by omega) _ (ld2 D_ (by omega) _ (r4 D_ hD))⟩
/-- comes -/
theorem cmM {T : List Int32} {nw : Int32} {g_ : Nat} {h_ : xH} (hT_ : T.length ≤ 10) (hg : g_ ≤ 8) (S_ : sHp h_) (I_ : mI h_) (X_ : EMr T nw g_ h_) : ∃ h', (((ysm h_ h' ∧ mI h') ∧ ∀ c_ j_, ¬ (c_ = 339 ∧ ((3 ≤ j_ ∧ j_ ≤ 4) ∨ (190 ≤ j_ ∧ j_ < 434))) → bpat h' c_ j_ = bpat h_ c_ j_) ∧ EMr (kpM nw T) nw (lgT nw g_ T) h') ∧ ∀ D_, 62 ≤ D_ → xrun D_ 210 0 [(0, .index 338)] [] h_ (none, h', []) := by
  obtain ⟨h1, m1_, f1_, ld1⟩ := mcmE S_
  obtain ⟨h2, ⟨⟨⟨m2_, I2_⟩, f2_⟩, X2⟩, r2⟩ := cm_lp (u_ := T.length) (nw := nw) hT_ T 0 [] g_ h1 _ (by omega) (Nat.le_refl _) hg m1_.1 (mI_k I_ (fun j_ => f1_ _ _)) ⟨(f1_ _ _).trans X_.1.1, (f1_ _ _).trans X_.1.2, (f1_ _ _).trans X_.2.1⟩ (fun k_ t_ hk => by cases hk) (fun j_ t_ hj => by rw [Nat.zero_add]; exact (f1_ _ _).trans (X_.2.2 j_ t_ hj)) (Or.inl rfl)
  exact ⟨h2, ⟨⟨⟨ysm_tr m1_ m2_, I2_⟩, fun c_ j_ n1_ => (f2_ c_ j_ n1_).trans (f1_ c_ j_)⟩, X2⟩, fun D_ hD => ld1 D_ (by omega) _ (r2 D_ hD)⟩
