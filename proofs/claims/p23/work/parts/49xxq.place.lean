-- ===== place, the reference
-- mulE: 4 steps, 1 ends, 0 returns
def mulE_L : List (Nat × Nat × Nat) := []
def mulE_O : yO := []
def mulE_A : yA := (yZ mulE_L, [], [], [], [])
def mulE_C : List xB := []
def mulE_ss : List yS := [(4, [(3, .int 0), (2, .int 0), (0, .index 338), (1, .arg 1)], [], [], [], [])]
def mulE_rs : List yR := []
theorem mulE_w : ywa mulE_A mulE_ss mulE_rs = true := by decide +kernel
theorem mulE_k : yis (yev mulE_A 3000 60 198 [4] (0, [(0, .index 338), (1, .arg 1)], [], mulE_O, mulE_C, [])) mulE_ss mulE_rs = true := by decide +kernel
def mulE_r (v1_ : Int32) (k_ : Nat) : Value := bif Nat.beq k_ 1 then .int v1_ else (.int 0)
def mulE_s (n_ : Nat) : Nat := 0
theorem mulE {h_ : xH} {v1_ : Int32} (hs : sHp h_) : ∃ h', ysm h_ h' ∧ (((∀ a_ j_ : Nat, bpat h' a_ j_ = bpat h_ a_ j_) ∧ (bldD 60 198 0 [(0, .index 338), (1, .int v1_)] [] h_ 4 [(3, .int (0 : Int32)), (2, .int (0 : Int32)), (0, .index 338), (1, .int v1_)] [] h'))) := by
  have hA : yas mulE_A (mulE_r v1_) (yg mulE_s) := ⟨fun q_ hq => absurd hq List.not_mem_nil, fun q_ hq => absurd hq List.not_mem_nil, fun q_ hq => absurd hq List.not_mem_nil, fun n_ hn => yg_lo hn, fun q_ hq => absurd hq List.not_mem_nil⟩
  have Hs : ysh mulE_A.1 (yg mulE_s) h_ := ysh_of2 hs (fun q_ hq => absurd hq List.not_mem_nil)
  have Ho : ymem (mulE_r v1_) (yg mulE_s) mulE_O h_ := fun q_ hq => absurd hq List.not_mem_nil
  have HC : ∀ q_ ∈ mulE_C, xhold (mulE_r v1_) q_ := fun q_ hq => absurd hq List.not_mem_nil
  rcases yrun (yis_ok mulE_k) hA Hs Ho HC with ⟨q_, hq, h', K_, G_⟩ | ⟨q_, hq, h', K_, G_⟩
  · have e_ := List.mem_singleton.mp hq
    subst e_
    exact ⟨h', yfr_sm K_.2.2.2 hs K_.1 (ywa_s mulE_w List.mem_cons_self), ⟨fun a_ j_ => yfr_bp K_.2.2.2 (fun q_ hq => absurd hq List.not_mem_nil), G_⟩⟩
  · cases hq
-- mulXA: 5 steps, 0 ends, 1 returns
def mulXA_L : List (Nat × Nat × Nat) := []
def mulXA_O : yO := []
def mulXA_A : yA := (yZ mulXA_L, [], [], [], [])
def mulXA_C : List xB := [(.lt, .arg 3, .int 100, false)]
def mulXA_ss : List yS := []
def mulXA_rs : List yR := [(some (.arg 2), [], [(.lt, .arg 3, .int 100, false)], [])]
theorem mulXA_w : ywa mulXA_A mulXA_ss mulXA_rs = true := by decide +kernel
theorem mulXA_k : yis (yev mulXA_A 3000 60 198 [] (4, [(3, .arg 3), (2, .arg 2), (0, .index 338), (1, .arg 1)], [], mulXA_O, mulXA_C, [])) mulXA_ss mulXA_rs = true := by decide +kernel
def mulXA_r (v1_ v2 v3 : Int32) (k_ : Nat) : Value := bif Nat.beq k_ 1 then .int v1_ else (bif Nat.beq k_ 2 then .int v2 else (bif Nat.beq k_ 3 then .int v3 else (.int 0)))
def mulXA_s (n_ : Nat) : Nat := 0
theorem mulXA {h_ : xH} {v1_ v2 v3 : Int32} (hs : sHp h_) (c0_ : (100 : Int32).toInt ≤ v3.toInt) : ∃ h', ysm h_ h' ∧ (((∀ a_ j_ : Nat, bpat h' a_ j_ = bpat h_ a_ j_) ∧ (∀ D_, 60 ≤ D_ → xrun D_ 198 4 [(3, .int v3), (2, .int v2), (0, .index 338), (1, .int v1_)] [] h_ (some (.int v2), h', [])))) := by
  have hA : yas mulXA_A (mulXA_r v1_ v2 v3) (yg mulXA_s) := ⟨fun q_ hq => absurd hq List.not_mem_nil, fun q_ hq => absurd hq List.not_mem_nil, fun q_ hq => absurd hq List.not_mem_nil, fun n_ hn => yg_lo hn, fun q_ hq => absurd hq List.not_mem_nil⟩
  have Hs : ysh mulXA_A.1 (yg mulXA_s) h_ := ysh_of2 hs (fun q_ hq => absurd hq List.not_mem_nil)
  have Ho : ymem (mulXA_r v1_ v2 v3) (yg mulXA_s) mulXA_O h_ := fun q_ hq => absurd hq List.not_mem_nil
  have HC : ∀ q_ ∈ mulXA_C, xhold (mulXA_r v1_ v2 v3) q_ := List.forall_mem_cons.mpr ⟨xh_ltF c0_, fun q_ hq => absurd hq List.not_mem_nil⟩
  rcases yrun (yis_ok mulXA_k) hA Hs Ho HC with ⟨q_, hq, h', K_, G_⟩ | ⟨q_, hq, h', K_, G_⟩
  · cases hq
  · have e_ := List.mem_singleton.mp hq
    subst e_
    exact ⟨h', yfr_sm K_.2.2.2 hs K_.1 (ywa_r mulXA_w List.mem_cons_self), ⟨fun a_ j_ => yfr_bp K_.2.2.2 (fun q_ hq => absurd hq List.not_mem_nil), G_⟩⟩
-- mulOA: 7 steps, 1 ends, 0 returns
def mulOA_L : List (Nat × Nat × Nat) := []
def mulOA_O : yO := []
def mulOA_A : yA := (yZ mulOA_L, [], [], [], [])
def mulOA_C : List xB := [(.lt, .arg 3, .int 100, true)]
def mulOA_ss : List yS := [(16, [(5, .int 0), (4, .int 0), (3, .arg 3), (2, .arg 2), (0, .index 338), (1, .arg 1)], [], [], [(.lt, .arg 3, .int 100, true)], [])]
def mulOA_rs : List yR := []
theorem mulOA_w : ywa mulOA_A mulOA_ss mulOA_rs = true := by decide +kernel
theorem mulOA_k : yis (yev mulOA_A 3000 60 198 [16] (4, [(3, .arg 3), (2, .arg 2), (0, .index 338), (1, .arg 1)], [], mulOA_O, mulOA_C, [])) mulOA_ss mulOA_rs = true := by decide +kernel
def mulOA_r (v1_ v2 v3 : Int32) (k_ : Nat) : Value := bif Nat.beq k_ 1 then .int v1_ else (bif Nat.beq k_ 2 then .int v2 else (bif Nat.beq k_ 3 then .int v3 else (.int 0)))
def mulOA_s (n_ : Nat) : Nat := 0
theorem mulOA {h_ : xH} {v1_ v2 v3 : Int32} (hs : sHp h_) (c0_ : v3.toInt < (100 : Int32).toInt) : ∃ h', ysm h_ h' ∧ (((∀ a_ j_ : Nat, bpat h' a_ j_ = bpat h_ a_ j_) ∧ (bldD 60 198 4 [(3, .int v3), (2, .int v2), (0, .index 338), (1, .int v1_)] [] h_ 16 [(5, .int (0 : Int32)), (4, .int (0 : Int32)), (3, .int v3), (2, .int v2), (0, .index 338), (1, .int v1_)] [] h'))) := by
  have hA : yas mulOA_A (mulOA_r v1_ v2 v3) (yg mulOA_s) := ⟨fun q_ hq => absurd hq List.not_mem_nil, fun q_ hq => absurd hq List.not_mem_nil, fun q_ hq => absurd hq List.not_mem_nil, fun n_ hn => yg_lo hn, fun q_ hq => absurd hq List.not_mem_nil⟩
  have Hs : ysh mulOA_A.1 (yg mulOA_s) h_ := ysh_of2 hs (fun q_ hq => absurd hq List.not_mem_nil)
  have Ho : ymem (mulOA_r v1_ v2 v3) (yg mulOA_s) mulOA_O h_ := fun q_ hq => absurd hq List.not_mem_nil
  have HC : ∀ q_ ∈ mulOA_C, xhold (mulOA_r v1_ v2 v3) q_ := List.forall_mem_cons.mpr ⟨xh_ltT c0_, fun q_ hq => absurd hq List.not_mem_nil⟩
  rcases yrun (yis_ok mulOA_k) hA Hs Ho HC with ⟨q_, hq, h', K_, G_⟩ | ⟨q_, hq, h', K_, G_⟩
  · have e_ := List.mem_singleton.mp hq
    subst e_
    exact ⟨h', yfr_sm K_.2.2.2 hs K_.1 (ywa_s mulOA_w List.mem_cons_self), ⟨fun a_ j_ => yfr_bp K_.2.2.2 (fun q_ hq => absurd hq List.not_mem_nil), G_⟩⟩
  · cases hq
-- mulXB: 5 steps, 0 ends, 1 returns
def mulXB_L : List (Nat × Nat × Nat) := []
def mulXB_O : yO := []
def mulXB_A : yA := (yZ mulXB_L, [], [], [], [])
def mulXB_C : List xB := [(.lt, .arg 3, .int 100, false)]
def mulXB_ss : List yS := []
def mulXB_rs : List yR := [(some (.arg 2), [], [(.lt, .arg 3, .int 100, false)], [])]
theorem mulXB_w : ywa mulXB_A mulXB_ss mulXB_rs = true := by decide +kernel
theorem mulXB_k : yis (yev mulXB_A 3000 60 198 [] (4, [(3, .arg 3), (2, .arg 2), (5, .arg 5), (4, .arg 4), (0, .index 338), (1, .arg 1)], [], mulXB_O, mulXB_C, [])) mulXB_ss mulXB_rs = true := by decide +kernel
def mulXB_r (v1_ v2 v3 v4_ v5 : Int32) (k_ : Nat) : Value := bif Nat.beq k_ 1 then .int v1_ else (bif Nat.beq k_ 2 then .int v2 else (bif Nat.beq k_ 3 then .int v3 else (bif Nat.beq k_ 4 then .int v4_ else (bif Nat.beq k_ 5 then .int v5 else (.int 0)))))
def mulXB_s (n_ : Nat) : Nat := 0
theorem mulXB {h_ : xH} {v1_ v2 v3 v4_ v5 : Int32} (hs : sHp h_) (c0_ : (100 : Int32).toInt ≤ v3.toInt) : ∃ h', ysm h_ h' ∧ (((∀ a_ j_ : Nat, bpat h' a_ j_ = bpat h_ a_ j_) ∧ (∀ D_, 60 ≤ D_ → xrun D_ 198 4 [(3, .int v3), (2, .int v2), (5, .int v5), (4, .int v4_), (0, .index 338), (1, .int v1_)] [] h_ (some (.int v2), h', [])))) := by
  have hA : yas mulXB_A (mulXB_r v1_ v2 v3 v4_ v5) (yg mulXB_s) := ⟨fun q_ hq => absurd hq List.not_mem_nil, fun q_ hq => absurd hq List.not_mem_nil, fun q_ hq => absurd hq List.not_mem_nil, fun n_ hn => yg_lo hn, fun q_ hq => absurd hq List.not_mem_nil⟩
  have Hs : ysh mulXB_A.1 (yg mulXB_s) h_ := ysh_of2 hs (fun q_ hq => absurd hq List.not_mem_nil)
  have Ho : ymem (mulXB_r v1_ v2 v3 v4_ v5) (yg mulXB_s) mulXB_O h_ := fun q_ hq => absurd hq List.not_mem_nil
  have HC : ∀ q_ ∈ mulXB_C, xhold (mulXB_r v1_ v2 v3 v4_ v5) q_ := List.forall_mem_cons.mpr ⟨xh_ltF c0_, fun q_ hq => absurd hq List.not_mem_nil⟩
  rcases yrun (yis_ok mulXB_k) hA Hs Ho HC with ⟨q_, hq, h', K_, G_⟩ | ⟨q_, hq, h', K_, G_⟩
  · cases hq
  · have e_ := List.mem_singleton.mp hq
    subst e_
    exact ⟨h', yfr_sm K_.2.2.2 hs K_.1 (ywa_r mulXB_w List.mem_cons_self), ⟨fun a_ j_ => yfr_bp K_.2.2.2 (fun q_ hq => absurd hq List.not_mem_nil), G_⟩⟩
-- mulOB: 7 steps, 1 ends, 0 returns
def mulOB_L : List (Nat × Nat × Nat) := []
def mulOB_O : yO := []
def mulOB_A : yA := (yZ mulOB_L, [], [], [], [])
def mulOB_C : List xB := [(.lt, .arg 3, .int 100, true)]
def mulOB_ss : List yS := [(16, [(5, .int 0), (4, .int 0), (3, .arg 3), (2, .arg 2), (0, .index 338), (1, .arg 1)], [], [], [(.lt, .arg 3, .int 100, true)], [])]
def mulOB_rs : List yR := []
theorem mulOB_w : ywa mulOB_A mulOB_ss mulOB_rs = true := by decide +kernel
theorem mulOB_k : yis (yev mulOB_A 3000 60 198 [16] (4, [(3, .arg 3), (2, .arg 2), (5, .arg 5), (4, .arg 4), (0, .index 338), (1, .arg 1)], [], mulOB_O, mulOB_C, [])) mulOB_ss mulOB_rs = true := by decide +kernel
def mulOB_r (v1_ v2 v3 v4_ v5 : Int32) (k_ : Nat) : Value := bif Nat.beq k_ 1 then .int v1_ else (bif Nat.beq k_ 2 then .int v2 else (bif Nat.beq k_ 3 then .int v3 else (bif Nat.beq k_ 4 then .int v4_ else (bif Nat.beq k_ 5 then .int v5 else (.int 0)))))
def mulOB_s (n_ : Nat) : Nat := 0
theorem mulOB {h_ : xH} {v1_ v2 v3 v4_ v5 : Int32} (hs : sHp h_) (c0_ : v3.toInt < (100 : Int32).toInt) : ∃ h', ysm h_ h' ∧ (((∀ a_ j_ : Nat, bpat h' a_ j_ = bpat h_ a_ j_) ∧ (bldD 60 198 4 [(3, .int v3), (2, .int v2), (5, .int v5), (4, .int v4_), (0, .index 338), (1, .int v1_)] [] h_ 16 [(5, .int (0 : Int32)), (4, .int (0 : Int32)), (3, .int v3), (2, .int v2), (0, .index 338), (1, .int v1_)] [] h'))) := by
  have hA : yas mulOB_A (mulOB_r v1_ v2 v3 v4_ v5) (yg mulOB_s) := ⟨fun q_ hq => absurd hq List.not_mem_nil, fun q_ hq => absurd hq List.not_mem_nil, fun q_ hq => absurd hq List.not_mem_nil, fun n_ hn => yg_lo hn, fun q_ hq => absurd hq List.not_mem_nil⟩
  have Hs : ysh mulOB_A.1 (yg mulOB_s) h_ := ysh_of2 hs (fun q_ hq => absurd hq List.not_mem_nil)
  have Ho : ymem (mulOB_r v1_ v2 v3 v4_ v5) (yg mulOB_s) mulOB_O h_ := fun q_ hq => absurd hq List.not_mem_nil
  have HC : ∀ q_ ∈ mulOB_C, xhold (mulOB_r v1_ v2 v3 v4_ v5) q_ := List.forall_mem_cons.mpr ⟨xh_ltT c0_, fun q_ hq => absurd hq List.not_mem_nil⟩
  rcases yrun (yis_ok mulOB_k) hA Hs Ho HC with ⟨q_, hq, h', K_, G_⟩ | ⟨q_, hq, h', K_, G_⟩
  · have e_ := List.mem_singleton.mp hq
    subst e_
    exact ⟨h', yfr_sm K_.2.2.2 hs K_.1 (ywa_s mulOB_w List.mem_cons_self), ⟨fun a_ j_ => yfr_bp K_.2.2.2 (fun q_ hq => absurd hq List.not_mem_nil), G_⟩⟩
  · cases hq
-- mulY0: 12 steps, 1 ends, 0 returns
def mulY0_L : List (Nat × Nat × Nat) := []
def mulY0_O : yO := [(338, .int 15, .arg 300)]
def mulY0_A : yA := (yZ mulY0_L, [], [], [], [])
def mulY0_C : List xB := [(.lt, .arg 5, .arg 300, false)]
def mulY0_ss : List yS := [(4, [(3, .add (.arg 3) (.int 1)), (2, .add (.arg 2) (.int 0)), (5, .arg 5), (4, .int 0), (0, .index 338), (1, .arg 1)], [], [(338, .int 15, .arg 300)], [(.lt, .arg 5, .arg 300, false)], [])]
def mulY0_rs : List yR := []
theorem mulY0_w : ywa mulY0_A mulY0_ss mulY0_rs = true := by decide +kernel
theorem mulY0_k : yis (yev mulY0_A 3000 60 198 [4] (16, [(5, .arg 5), (4, .int 0), (3, .arg 3), (2, .arg 2), (0, .index 338), (1, .arg 1)], [], mulY0_O, mulY0_C, [])) mulY0_ss mulY0_rs = true := by decide +kernel
def mulY0_r (v1_ v2 v3 v5 v300 : Int32) (k_ : Nat) : Value := bif Nat.beq k_ 1 then .int v1_ else (bif Nat.beq k_ 2 then .int v2 else (bif Nat.beq k_ 3 then .int v3 else (bif Nat.beq k_ 5 then .int v5 else (bif Nat.beq k_ 300 then .int v300 else (.int 0)))))
def mulY0_s (n_ : Nat) : Nat := 0
theorem mulY0 {h_ : xH} {v1_ v2 v3 v5 v300 : Int32} (hs : sHp h_) (o0_ : bpat h_ 338 15 = some (.int v300)) (c0_ : v300.toInt ≤ v5.toInt) : ∃ h', ysm h_ h' ∧ (((∀ a_ j_ : Nat, bpat h' a_ j_ = bpat h_ a_ j_) ∧ (bldD 60 198 16 [(5, .int v5), (4, .int (0 : Int32)), (3, .int v3), (2, .int v2), (0, .index 338), (1, .int v1_)] [] h_ 4 [(3, .int (v3 + (1 : Int32))), (2, .int (v2 + (0 : Int32))), (5, .int v5), (4, .int (0 : Int32)), (0, .index 338), (1, .int v1_)] [] h'))) := by
  have hA : yas mulY0_A (mulY0_r v1_ v2 v3 v5 v300) (yg mulY0_s) := ⟨fun q_ hq => absurd hq List.not_mem_nil, fun q_ hq => absurd hq List.not_mem_nil, fun q_ hq => absurd hq List.not_mem_nil, fun n_ hn => yg_lo hn, fun q_ hq => absurd hq List.not_mem_nil⟩
  have Hs : ysh mulY0_A.1 (yg mulY0_s) h_ := ysh_of2 hs (fun q_ hq => absurd hq List.not_mem_nil)
  have Ho : ymem (mulY0_r v1_ v2 v3 v5 v300) (yg mulY0_s) mulY0_O h_ := List.forall_mem_cons.mpr ⟨bpat_some o0_, fun q_ hq => absurd hq List.not_mem_nil⟩
  have HC : ∀ q_ ∈ mulY0_C, xhold (mulY0_r v1_ v2 v3 v5 v300) q_ := List.forall_mem_cons.mpr ⟨xh_ltF c0_, fun q_ hq => absurd hq List.not_mem_nil⟩
  rcases yrun (yis_ok mulY0_k) hA Hs Ho HC with ⟨q_, hq, h', K_, G_⟩ | ⟨q_, hq, h', K_, G_⟩
  · have e_ := List.mem_singleton.mp hq
    subst e_
    exact ⟨h', yfr_sm K_.2.2.2 hs K_.1 (ywa_s mulY0_w List.mem_cons_self), ⟨fun a_ j_ => yfr_bp K_.2.2.2 (fun q_ hq => absurd hq List.not_mem_nil), G_⟩⟩
  · cases hq
-- mulY1: 13 steps, 1 ends, 0 returns
def mulY1_L : List (Nat × Nat × Nat) := []
def mulY1_O : yO := [(338, .int 15, .arg 300)]
def mulY1_A : yA := (yZ mulY1_L, [], [], [], [])
def mulY1_C : List xB := [(.lt, .arg 5, .arg 300, false)]
def mulY1_ss : List yS := [(4, [(3, .add (.arg 3) (.int 1)), (2, .add (.arg 2) (.int 1)), (5, .arg 5), (4, .int 1), (0, .index 338), (1, .arg 1)], [], [(338, .int 15, .arg 300)], [(.lt, .arg 5, .arg 300, false)], [])]
def mulY1_rs : List yR := []
theorem mulY1_w : ywa mulY1_A mulY1_ss mulY1_rs = true := by decide +kernel
theorem mulY1_k : yis (yev mulY1_A 3000 60 198 [4] (16, [(5, .arg 5), (4, .int 1), (3, .arg 3), (2, .arg 2), (0, .index 338), (1, .arg 1)], [], mulY1_O, mulY1_C, [])) mulY1_ss mulY1_rs = true := by decide +kernel
def mulY1_r (v1_ v2 v3 v5 v300 : Int32) (k_ : Nat) : Value := bif Nat.beq k_ 1 then .int v1_ else (bif Nat.beq k_ 2 then .int v2 else (bif Nat.beq k_ 3 then .int v3 else (bif Nat.beq k_ 5 then .int v5 else (bif Nat.beq k_ 300 then .int v300 else (.int 0)))))
def mulY1_s (n_ : Nat) : Nat := 0
theorem mulY1 {h_ : xH} {v1_ v2 v3 v5 v300 : Int32} (hs : sHp h_) (o0_ : bpat h_ 338 15 = some (.int v300)) (c0_ : v300.toInt ≤ v5.toInt) : ∃ h', ysm h_ h' ∧ (((∀ a_ j_ : Nat, bpat h' a_ j_ = bpat h_ a_ j_) ∧ (bldD 60 198 16 [(5, .int v5), (4, .int (1 : Int32)), (3, .int v3), (2, .int v2), (0, .index 338), (1, .int v1_)] [] h_ 4 [(3, .int (v3 + (1 : Int32))), (2, .int (v2 + (1 : Int32))), (5, .int v5), (4, .int (1 : Int32)), (0, .index 338), (1, .int v1_)] [] h'))) := by
  have hA : yas mulY1_A (mulY1_r v1_ v2 v3 v5 v300) (yg mulY1_s) := ⟨fun q_ hq => absurd hq List.not_mem_nil, fun q_ hq => absurd hq List.not_mem_nil, fun q_ hq => absurd hq List.not_mem_nil, fun n_ hn => yg_lo hn, fun q_ hq => absurd hq List.not_mem_nil⟩
  have Hs : ysh mulY1_A.1 (yg mulY1_s) h_ := ysh_of2 hs (fun q_ hq => absurd hq List.not_mem_nil)
  have Ho : ymem (mulY1_r v1_ v2 v3 v5 v300) (yg mulY1_s) mulY1_O h_ := List.forall_mem_cons.mpr ⟨bpat_some o0_, fun q_ hq => absurd hq List.not_mem_nil⟩
  have HC : ∀ q_ ∈ mulY1_C, xhold (mulY1_r v1_ v2 v3 v5 v300) q_ := List.forall_mem_cons.mpr ⟨xh_ltF c0_, fun q_ hq => absurd hq List.not_mem_nil⟩
  rcases yrun (yis_ok mulY1_k) hA Hs Ho HC with ⟨q_, hq, h', K_, G_⟩ | ⟨q_, hq, h', K_, G_⟩
  · have e_ := List.mem_singleton.mp hq
    subst e_
    exact ⟨h', yfr_sm K_.2.2.2 hs K_.1 (ywa_s mulY1_w List.mem_cons_self), ⟨fun a_ j_ => yfr_bp K_.2.2.2 (fun q_ hq => absurd hq List.not_mem_nil), G_⟩⟩
  · cases hq
-- mulZ: 15 steps, 1 ends, 0 returns
def mulZ_L : List (Nat × Nat × Nat) := []
def mulZ_O : yO := [(338, .int 15, .arg 300)]
def mulZ_A : yA := (yZ mulZ_L, [], [], [], [])
def mulZ_C : List xB := [(.lt, .arg 5, .arg 300, true)]
def mulZ_ss : List yS := [(4, [(3, .add (.arg 3) (.int 1)), (2, .add (.arg 2) (.int 1)), (5, .arg 5), (4, .int 1), (0, .index 338), (1, .arg 1)], [], [(338, .int 15, .arg 300)], [(.lt, .arg 5, .arg 300, true)], [])]
def mulZ_rs : List yR := []
theorem mulZ_w : ywa mulZ_A mulZ_ss mulZ_rs = true := by decide +kernel
theorem mulZ_k : yis (yev mulZ_A 3000 60 198 [4] (16, [(5, .arg 5), (4, .int 1), (3, .arg 3), (2, .arg 2), (0, .index 338), (1, .arg 1)], [], mulZ_O, mulZ_C, [])) mulZ_ss mulZ_rs = true := by decide +kernel
def mulZ_r (v1_ v2 v3 v5 v300 : Int32) (k_ : Nat) : Value := bif Nat.beq k_ 1 then .int v1_ else (bif Nat.beq k_ 2 then .int v2 else (bif Nat.beq k_ 3 then .int v3 else (bif Nat.beq k_ 5 then .int v5 else (bif Nat.beq k_ 300 then .int v300 else (.int 0)))))
def mulZ_s (n_ : Nat) : Nat := 0
theorem mulZ {h_ : xH} {v1_ v2 v3 v5 v300 : Int32} (hs : sHp h_) (o0_ : bpat h_ 338 15 = some (.int v300)) (c0_ : v5.toInt < v300.toInt) : ∃ h', ysm h_ h' ∧ (((∀ a_ j_ : Nat, bpat h' a_ j_ = bpat h_ a_ j_) ∧ (bldD 60 198 16 [(5, .int v5), (4, .int (1 : Int32)), (3, .int v3), (2, .int v2), (0, .index 338), (1, .int v1_)] [] h_ 4 [(3, .int (v3 + (1 : Int32))), (2, .int (v2 + (1 : Int32))), (5, .int v5), (4, .int (1 : Int32)), (0, .index 338), (1, .int v1_)] [] h'))) := by
  have hA : yas mulZ_A (mulZ_r v1_ v2 v3 v5 v300) (yg mulZ_s) := ⟨fun q_ hq => absurd hq List.not_mem_nil, fun q_ hq => absurd hq List.not_mem_nil, fun q_ hq => absurd hq List.not_mem_nil, fun n_ hn => yg_lo hn, fun q_ hq => absurd hq List.not_mem_nil⟩
  have Hs : ysh mulZ_A.1 (yg mulZ_s) h_ := ysh_of2 hs (fun q_ hq => absurd hq List.not_mem_nil)
  have Ho : ymem (mulZ_r v1_ v2 v3 v5 v300) (yg mulZ_s) mulZ_O h_ := List.forall_mem_cons.mpr ⟨bpat_some o0_, fun q_ hq => absurd hq List.not_mem_nil⟩
  have HC : ∀ q_ ∈ mulZ_C, xhold (mulZ_r v1_ v2 v3 v5 v300) q_ := List.forall_mem_cons.mpr ⟨xh_ltT c0_, fun q_ hq => absurd hq List.not_mem_nil⟩
  rcases yrun (yis_ok mulZ_k) hA Hs Ho HC with ⟨q_, hq, h', K_, G_⟩ | ⟨q_, hq, h', K_, G_⟩
  · have e_ := List.mem_singleton.mp hq
    subst e_
    exact ⟨h', yfr_sm K_.2.2.2 hs K_.1 (ywa_s mulZ_w List.mem_cons_self), ⟨fun a_ j_ => yfr_bp K_.2.2.2 (fun q_ hq => absurd hq List.not_mem_nil), G_⟩⟩
  · cases hq
-- mulS: 18 steps, 1 ends, 0 returns
def mulS_L : List (Nat × Nat × Nat) := []
def mulS_O : yO := [(338, .int 15, .arg 300), (338, .int 14, .index 348), (348, .mul (.int 13) (.arg 5), .arg 301)]
def mulS_A : yA := (yZ mulS_L, [(.mul (.int 13) (.arg 5), 1040)], [], [], [])
def mulS_C : List xB := [(.lt, .arg 1, .arg 301, false), (.lt, .arg 5, .arg 300, true)]
def mulS_ss : List yS := [(16, [(5, .add (.arg 5) (.int 1)), (4, .int 0), (3, .arg 3), (2, .arg 2), (0, .index 338), (1, .arg 1)], [], [(338, .int 15, .arg 300), (338, .int 14, .index 348), (348, .mul (.int 13) (.arg 5), .arg 301)], [(.lt, .arg 1, .arg 301, false), (.lt, .arg 5, .arg 300, true)], [])]
def mulS_rs : List yR := []
theorem mulS_w : ywa mulS_A mulS_ss mulS_rs = true := by decide +kernel
theorem mulS_k : yis (yev mulS_A 3000 60 198 [16] (16, [(5, .arg 5), (4, .int 0), (3, .arg 3), (2, .arg 2), (0, .index 338), (1, .arg 1)], [], mulS_O, mulS_C, [])) mulS_ss mulS_rs = true := by decide +kernel
def mulS_r (v1_ v2 v3 v5 v300 v301 : Int32) (k_ : Nat) : Value := bif Nat.beq k_ 1 then .int v1_ else (bif Nat.beq k_ 2 then .int v2 else (bif Nat.beq k_ 3 then .int v3 else (bif Nat.beq k_ 5 then .int v5 else (bif Nat.beq k_ 300 then .int v300 else (bif Nat.beq k_ 301 then .int v301 else (.int 0))))))
def mulS_s (n_ : Nat) : Nat := 0
theorem mulS {h_ : xH} {v1_ v2 v3 v5 v300 v301 : Int32} (hs : sHp h_) (o0_ : bpat h_ 338 15 = some (.int v300)) (o1 : bpat h_ 348 (((13 : Int32) * v5)).toInt.toNat = some (.int v301)) (b0 : 0 ≤ (((13 : Int32) * v5)).toInt ∧ (((13 : Int32) * v5)).toInt < 1040) (c0_ : v301.toInt ≤ v1_.toInt) (c1_ : v5.toInt < v300.toInt) : ∃ h', ysm h_ h' ∧ (((∀ a_ j_ : Nat, bpat h' a_ j_ = bpat h_ a_ j_) ∧ (bldD 60 198 16 [(5, .int v5), (4, .int (0 : Int32)), (3, .int v3), (2, .int v2), (0, .index 338), (1, .int v1_)] [] h_ 16 [(5, .int (v5 + (1 : Int32))), (4, .int (0 : Int32)), (3, .int v3), (2, .int v2), (0, .index 338), (1, .int v1_)] [] h'))) := by
  have hA : yas mulS_A (mulS_r v1_ v2 v3 v5 v300 v301) (yg mulS_s) := ⟨List.forall_mem_cons.mpr ⟨b0, fun q_ hq => absurd hq List.not_mem_nil⟩, fun q_ hq => absurd hq List.not_mem_nil, fun q_ hq => absurd hq List.not_mem_nil, fun n_ hn => yg_lo hn, fun q_ hq => absurd hq List.not_mem_nil⟩
  have Hs : ysh mulS_A.1 (yg mulS_s) h_ := ysh_of2 hs (fun q_ hq => absurd hq List.not_mem_nil)
  have Ho : ymem (mulS_r v1_ v2 v3 v5 v300 v301) (yg mulS_s) mulS_O h_ := List.forall_mem_cons.mpr ⟨bpat_some o0_, List.forall_mem_cons.mpr ⟨bpat_some (fxr_at hs.2 (show fxk fxl 338 14 = some 348 by decide +kernel)), List.forall_mem_cons.mpr ⟨bpat_some o1, fun q_ hq => absurd hq List.not_mem_nil⟩⟩⟩
  have HC : ∀ q_ ∈ mulS_C, xhold (mulS_r v1_ v2 v3 v5 v300 v301) q_ := List.forall_mem_cons.mpr ⟨xh_ltF c0_, List.forall_mem_cons.mpr ⟨xh_ltT c1_, fun q_ hq => absurd hq List.not_mem_nil⟩⟩
  rcases yrun (yis_ok mulS_k) hA Hs Ho HC with ⟨q_, hq, h', K_, G_⟩ | ⟨q_, hq, h', K_, G_⟩
  · have e_ := List.mem_singleton.mp hq
    subst e_
    exact ⟨h', yfr_sm K_.2.2.2 hs K_.1 (ywa_s mulS_w List.mem_cons_self), ⟨fun a_ j_ => yfr_bp K_.2.2.2 (fun q_ hq => absurd hq List.not_mem_nil), G_⟩⟩
  · cases hq
-- mulT1: 31 steps, 1 ends, 0 returns
def mulT1_L : List (Nat × Nat × Nat) := []
def mulT1_O : yO := [(338, .int 15, .arg 300), (338, .int 14, .index 348), (348, .mul (.int 13) (.arg 5), .arg 301), (348, .add (.add (.mul (.int 13) (.arg 5)) (.int 1)) (.arg 1), .arg 302)]
def mulT1_A : yA := (yZ mulT1_L, [(.mul (.int 13) (.arg 5), 1040), (.add (.add (.mul (.int 13) (.arg 5)) (.int 1)) (.arg 1), 1040)], [], [], [])
def mulT1_C : List xB := [(.eq, .arg 302, .arg 3, true), (.lt, .arg 1, .arg 301, true), (.lt, .arg 5, .arg 300, true)]
def mulT1_ss : List yS := [(16, [(5, .add (.arg 5) (.int 1)), (4, .int 1), (3, .arg 3), (2, .arg 2), (0, .index 338), (1, .arg 1)], [], [(338, .int 15, .arg 300), (338, .int 14, .index 348), (348, .mul (.int 13) (.arg 5), .arg 301), (348, .add (.add (.mul (.int 13) (.arg 5)) (.int 1)) (.arg 1), .arg 302)], [(.eq, .arg 302, .arg 3, true), (.lt, .arg 1, .arg 301, true), (.lt, .arg 5, .arg 300, true)], [])]
def mulT1_rs : List yR := []
theorem mulT1_w : ywa mulT1_A mulT1_ss mulT1_rs = true := by decide +kernel
theorem mulT1_k : yis (yev mulT1_A 3000 60 198 [16] (16, [(5, .arg 5), (4, .int 0), (3, .arg 3), (2, .arg 2), (0, .index 338), (1, .arg 1)], [], mulT1_O, mulT1_C, [])) mulT1_ss mulT1_rs = true := by decide +kernel
def mulT1_r (v1_ v2 v3 v5 v300 v301 v302 : Int32) (k_ : Nat) : Value := bif Nat.beq k_ 1 then .int v1_ else (bif Nat.beq k_ 2 then .int v2 else (bif Nat.beq k_ 3 then .int v3 else (bif Nat.beq k_ 5 then .int v5 else (bif Nat.beq k_ 300 then .int v300 else (bif Nat.beq k_ 301 then .int v301 else (bif Nat.beq k_ 302 then .int v302 else (.int 0)))))))
def mulT1_s (n_ : Nat) : Nat := 0
theorem mulT1 {h_ : xH} {v1_ v2 v3 v5 v300 v301 v302 : Int32} (hs : sHp h_) (o0_ : bpat h_ 338 15 = some (.int v300)) (o1 : bpat h_ 348 (((13 : Int32) * v5)).toInt.toNat = some (.int v301)) (o2 : bpat h_ 348 (((((13 : Int32) * v5) + (1 : Int32)) + v1_)).toInt.toNat = some (.int v302)) (b0 : 0 ≤ (((13 : Int32) * v5)).toInt ∧ (((13 : Int32) * v5)).toInt < 1040) (b1 : 0 ≤ (((((13 : Int32) * v5) + (1 : Int32)) + v1_)).toInt ∧ (((((13 : Int32) * v5) + (1 : Int32)) + v1_)).toInt < 1040) (c0_ : v302 = v3) (c1_ : v1_.toInt < v301.toInt) (c2_ : v5.toInt < v300.toInt) : ∃ h', ysm h_ h' ∧ (((∀ a_ j_ : Nat, bpat h' a_ j_ = bpat h_ a_ j_) ∧ (bldD 60 198 16 [(5, .int v5), (4, .int (0 : Int32)), (3, .int v3), (2, .int v2), (0, .index 338), (1, .int v1_)] [] h_ 16 [(5, .int (v5 + (1 : Int32))), (4, .int (1 : Int32)), (3, .int v3), (2, .int v2), (0, .index 338), (1, .int v1_)] [] h'))) := by
  have hA : yas mulT1_A (mulT1_r v1_ v2 v3 v5 v300 v301 v302) (yg mulT1_s) := ⟨List.forall_mem_cons.mpr ⟨b0, List.forall_mem_cons.mpr ⟨b1, fun q_ hq => absurd hq List.not_mem_nil⟩⟩, fun q_ hq => absurd hq List.not_mem_nil, fun q_ hq => absurd hq List.not_mem_nil, fun n_ hn => yg_lo hn, fun q_ hq => absurd hq List.not_mem_nil⟩
  have Hs : ysh mulT1_A.1 (yg mulT1_s) h_ := ysh_of2 hs (fun q_ hq => absurd hq List.not_mem_nil)
  have Ho : ymem (mulT1_r v1_ v2 v3 v5 v300 v301 v302) (yg mulT1_s) mulT1_O h_ := List.forall_mem_cons.mpr ⟨bpat_some o0_, List.forall_mem_cons.mpr ⟨bpat_some (fxr_at hs.2 (show fxk fxl 338 14 = some 348 by decide +kernel)), List.forall_mem_cons.mpr ⟨bpat_some o1, List.forall_mem_cons.mpr ⟨bpat_some o2, fun q_ hq => absurd hq List.not_mem_nil⟩⟩⟩⟩
  have HC : ∀ q_ ∈ mulT1_C, xhold (mulT1_r v1_ v2 v3 v5 v300 v301 v302) q_ := List.forall_mem_cons.mpr ⟨xh_eqT2 c0_, List.forall_mem_cons.mpr ⟨xh_ltT c1_, List.forall_mem_cons.mpr ⟨xh_ltT c2_, fun q_ hq => absurd hq List.not_mem_nil⟩⟩⟩
  rcases yrun (yis_ok mulT1_k) hA Hs Ho HC with ⟨q_, hq, h', K_, G_⟩ | ⟨q_, hq, h', K_, G_⟩
  · have e_ := List.mem_singleton.mp hq
    subst e_
    exact ⟨h', yfr_sm K_.2.2.2 hs K_.1 (ywa_s mulT1_w List.mem_cons_self), ⟨fun a_ j_ => yfr_bp K_.2.2.2 (fun q_ hq => absurd hq List.not_mem_nil), G_⟩⟩
  · cases hq
-- mulT0: 30 steps, 1 ends, 0 returns
def mulT0_L : List (Nat × Nat × Nat) := []
def mulT0_O : yO := [(338, .int 15, .arg 300), (338, .int 14, .index 348), (348, .mul (.int 13) (.arg 5), .arg 301), (348, .add (.add (.mul (.int 13) (.arg 5)) (.int 1)) (.arg 1), .arg 302)]
def mulT0_A : yA := (yZ mulT0_L, [(.mul (.int 13) (.arg 5), 1040), (.add (.add (.mul (.int 13) (.arg 5)) (.int 1)) (.arg 1), 1040)], [], [], [])
def mulT0_C : List xB := [(.eq, .arg 302, .arg 3, false), (.lt, .arg 1, .arg 301, true), (.lt, .arg 5, .arg 300, true)]
def mulT0_ss : List yS := [(16, [(5, .add (.arg 5) (.int 1)), (4, .int 0), (3, .arg 3), (2, .arg 2), (0, .index 338), (1, .arg 1)], [], [(338, .int 15, .arg 300), (338, .int 14, .index 348), (348, .mul (.int 13) (.arg 5), .arg 301), (348, .add (.add (.mul (.int 13) (.arg 5)) (.int 1)) (.arg 1), .arg 302)], [(.eq, .arg 302, .arg 3, false), (.lt, .arg 1, .arg 301, true), (.lt, .arg 5, .arg 300, true)], [])]
def mulT0_rs : List yR := []
theorem mulT0_w : ywa mulT0_A mulT0_ss mulT0_rs = true := by decide +kernel
theorem mulT0_k : yis (yev mulT0_A 3000 60 198 [16] (16, [(5, .arg 5), (4, .int 0), (3, .arg 3), (2, .arg 2), (0, .index 338), (1, .arg 1)], [], mulT0_O, mulT0_C, [])) mulT0_ss mulT0_rs = true := by decide +kernel
def mulT0_r (v1_ v2 v3 v5 v300 v301 v302 : Int32) (k_ : Nat) : Value := bif Nat.beq k_ 1 then .int v1_ else (bif Nat.beq k_ 2 then .int v2 else (bif Nat.beq k_ 3 then .int v3 else (bif Nat.beq k_ 5 then .int v5 else (bif Nat.beq k_ 300 then .int v300 else (bif Nat.beq k_ 301 then .int v301 else (bif Nat.beq k_ 302 then .int v302 else (.int 0)))))))
def mulT0_s (n_ : Nat) : Nat := 0
theorem mulT0 {h_ : xH} {v1_ v2 v3 v5 v300 v301 v302 : Int32} (hs : sHp h_) (o0_ : bpat h_ 338 15 = some (.int v300)) (o1 : bpat h_ 348 (((13 : Int32) * v5)).toInt.toNat = some (.int v301)) (o2 : bpat h_ 348 (((((13 : Int32) * v5) + (1 : Int32)) + v1_)).toInt.toNat = some (.int v302)) (b0 : 0 ≤ (((13 : Int32) * v5)).toInt ∧ (((13 : Int32) * v5)).toInt < 1040) (b1 : 0 ≤ (((((13 : Int32) * v5) + (1 : Int32)) + v1_)).toInt ∧ (((((13 : Int32) * v5) + (1 : Int32)) + v1_)).toInt < 1040) (c0_ : ¬ v302 = v3) (c1_ : v1_.toInt < v301.toInt) (c2_ : v5.toInt < v300.toInt) : ∃ h', ysm h_ h' ∧ (((∀ a_ j_ : Nat, bpat h' a_ j_ = bpat h_ a_ j_) ∧ (bldD 60 198 16 [(5, .int v5), (4, .int (0 : Int32)), (3, .int v3), (2, .int v2), (0, .index 338), (1, .int v1_)] [] h_ 16 [(5, .int (v5 + (1 : Int32))), (4, .int (0 : Int32)), (3, .int v3), (2, .int v2), (0, .index 338), (1, .int v1_)] [] h'))) := by
  have hA : yas mulT0_A (mulT0_r v1_ v2 v3 v5 v300 v301 v302) (yg mulT0_s) := ⟨List.forall_mem_cons.mpr ⟨b0, List.forall_mem_cons.mpr ⟨b1, fun q_ hq => absurd hq List.not_mem_nil⟩⟩, fun q_ hq => absurd hq List.not_mem_nil, fun q_ hq => absurd hq List.not_mem_nil, fun n_ hn => yg_lo hn, fun q_ hq => absurd hq List.not_mem_nil⟩
  have Hs : ysh mulT0_A.1 (yg mulT0_s) h_ := ysh_of2 hs (fun q_ hq => absurd hq List.not_mem_nil)
  have Ho : ymem (mulT0_r v1_ v2 v3 v5 v300 v301 v302) (yg mulT0_s) mulT0_O h_ := List.forall_mem_cons.mpr ⟨bpat_some o0_, List.forall_mem_cons.mpr ⟨bpat_some (fxr_at hs.2 (show fxk fxl 338 14 = some 348 by decide +kernel)), List.forall_mem_cons.mpr ⟨bpat_some o1, List.forall_mem_cons.mpr ⟨bpat_some o2, fun q_ hq => absurd hq List.not_mem_nil⟩⟩⟩⟩
  have HC : ∀ q_ ∈ mulT0_C, xhold (mulT0_r v1_ v2 v3 v5 v300 v301 v302) q_ := List.forall_mem_cons.mpr ⟨xh_eqF2 c0_, List.forall_mem_cons.mpr ⟨xh_ltT c1_, List.forall_mem_cons.mpr ⟨xh_ltT c2_, fun q_ hq => absurd hq List.not_mem_nil⟩⟩⟩
  rcases yrun (yis_ok mulT0_k) hA Hs Ho HC with ⟨q_, hq, h', K_, G_⟩ | ⟨q_, hq, h', K_, G_⟩
  · have e_ := List.mem_singleton.mp hq
    subst e_
    exact ⟨h', yfr_sm K_.2.2.2 hs K_.1 (ywa_s mulT0_w List.mem_cons_self), ⟨fun a_ j_ => yfr_bp K_.2.2.2 (fun q_ hq => absurd hq List.not_mem_nil), G_⟩⟩
  · cases hq
-- mplE: 170 steps, 1 ends, 6 returns
def mplE_L : List (Nat × Nat × Nat) := []
def mplE_O : yO := [(338, .int 0, .index 339), (339, .int 0, .arg 310), (338, .int 3, .index 341), (341, .int 1, .arg 400)]
def mplE_A : yA := (yZ mplE_L, [], [], [], [])
def mplE_C : List xB := []
def mplE_ss : List yS := [(35, [(0, .index 338), (1, .arg 1), (2, .arg 2), (3, .arg 3)], [.arg 2, .arg 1, .index 338], [(338, .int 0, .index 339), (339, .int 0, .arg 310), (338, .int 3, .index 341), (341, .int 1, .arg 400)], [(.le, .arg 3, .int 1, true), (.lt, .arg 3, .int 0, false), (.le, .arg 2, .int 2, true), (.lt, .arg 2, .int 0, false), (.le, .arg 1, .sub (.arg 310) (.int 1), true), (.lt, .arg 1, .int 0, false)], [])]
def mplE_rs : List yR := [(some (.int (Int32.ofInt (-1000001))), [(341, .int 1, .add (.arg 400) (.int 1)), (338, .int 0, .index 339), (339, .int 0, .arg 310), (338, .int 3, .index 341)], [(.lt, .arg 1, .int 0, true)], [(341, .int 1)]),
  (some (.int (Int32.ofInt (-1000001))), [(341, .int 1, .add (.arg 400) (.int 1)), (338, .int 0, .index 339), (339, .int 0, .arg 310), (338, .int 3, .index 341)], [(.le, .arg 1, .sub (.arg 310) (.int 1), false), (.lt, .arg 1, .int 0, false)], [(341, .int 1)]),
  (some (.int (Int32.ofInt (-1000001))), [(341, .int 1, .add (.arg 400) (.int 1)), (338, .int 0, .index 339), (339, .int 0, .arg 310), (338, .int 3, .index 341)], [(.lt, .arg 2, .int 0, true), (.le, .arg 1, .sub (.arg 310) (.int 1), true), (.lt, .arg 1, .int 0, false)], [(341, .int 1)]),
  (some (.int (Int32.ofInt (-1000001))), [(341, .int 1, .add (.arg 400) (.int 1)), (338, .int 0, .index 339), (339, .int 0, .arg 310), (338, .int 3, .index 341)], [(.le, .arg 2, .int 2, false), (.lt, .arg 2, .int 0, false), (.le, .arg 1, .sub (.arg 310) (.int 1), true), (.lt, .arg 1, .int 0, false)], [(341, .int 1)]),
  (some (.int (Int32.ofInt (-1000001))), [(341, .int 1, .add (.arg 400) (.int 1)), (338, .int 0, .index 339), (339, .int 0, .arg 310), (338, .int 3, .index 341)], [(.lt, .arg 3, .int 0, true), (.le, .arg 2, .int 2, true), (.lt, .arg 2, .int 0, false), (.le, .arg 1, .sub (.arg 310) (.int 1), true), (.lt, .arg 1, .int 0, false)], [(341, .int 1)]),
  (some (.int (Int32.ofInt (-1000001))), [(341, .int 1, .add (.arg 400) (.int 1)), (338, .int 0, .index 339), (339, .int 0, .arg 310), (338, .int 3, .index 341)], [(.le, .arg 3, .int 1, false), (.lt, .arg 3, .int 0, false), (.le, .arg 2, .int 2, true), (.lt, .arg 2, .int 0, false), (.le, .arg 1, .sub (.arg 310) (.int 1), true), (.lt, .arg 1, .int 0, false)], [(341, .int 1)])]
theorem mplE_w : ywa mplE_A mplE_ss mplE_rs = true := by decide +kernel
theorem mplE_k : yis (yev mplE_A 3000 60 199 [35] (0, [(0, .index 338), (1, .arg 1), (2, .arg 2), (3, .arg 3)], [], mplE_O, mplE_C, [])) mplE_ss mplE_rs = true := by decide +kernel
def mplE_r (v1_ v2 v3 v310 v400 : Int32) (k_ : Nat) : Value := bif Nat.beq k_ 1 then .int v1_ else (bif Nat.beq k_ 2 then .int v2 else (bif Nat.beq k_ 3 then .int v3 else (bif Nat.beq k_ 310 then .int v310 else (bif Nat.beq k_ 400 then .int v400 else (.int 0)))))
def mplE_s (n_ : Nat) : Nat := 0
theorem mplE {h_ : xH} {v1_ v2 v3 v310 v400 : Int32} (hs : sHp h_) (o0_ : bpat h_ 339 0 = some (.int v310)) (o1 : bpat h_ 341 1 = some (.int v400)) : ∃ h', ysm h_ h' ∧ (((v3.toInt ≤ (1 : Int32).toInt) ∧ ((0 : Int32).toInt ≤ v3.toInt) ∧ (v2.toInt ≤ (2 : Int32).toInt) ∧ ((0 : Int32).toInt ≤ v2.toInt) ∧ (v1_.toInt ≤ (v310 - (1 : Int32)).toInt) ∧ ((0 : Int32).toInt ≤ v1_.toInt) ∧ (∀ a_ j_ : Nat, bpat h' a_ j_ = bpat h_ a_ j_) ∧ (bldD 60 199 0 [(0, .index 338), (1, .int v1_), (2, .int v2), (3, .int v3)] [] h_ 35 [(0, .index 338), (1, .int v1_), (2, .int v2), (3, .int v3)] [.int v2, .int v1_, .index 338] h'))
  ∨ ((v1_.toInt < (0 : Int32).toInt) ∧ (bpat h' 341 1 = some (.int (v400 + (1 : Int32)))) ∧ (∀ a_ j_ : Nat, ¬ (a_ = 341 ∧ j_ = 1) → bpat h' a_ j_ = bpat h_ a_ j_) ∧ (∀ D_, 60 ≤ D_ → xrun D_ 199 0 [(0, .index 338), (1, .int v1_), (2, .int v2), (3, .int v3)] [] h_ (some (.int (Int32.ofInt (-1000001))), h', [])))
  ∨ (((v310 - (1 : Int32)).toInt < v1_.toInt) ∧ ((0 : Int32).toInt ≤ v1_.toInt) ∧ (bpat h' 341 1 = some (.int (v400 + (1 : Int32)))) ∧ (∀ a_ j_ : Nat, ¬ (a_ = 341 ∧ j_ = 1) → bpat h' a_ j_ = bpat h_ a_ j_) ∧ (∀ D_, 60 ≤ D_ → xrun D_ 199 0 [(0, .index 338), (1, .int v1_), (2, .int v2), (3, .int v3)] [] h_ (some (.int (Int32.ofInt (-1000001))), h', [])))
  ∨ ((v2.toInt < (0 : Int32).toInt) ∧ (v1_.toInt ≤ (v310 - (1 : Int32)).toInt) ∧ ((0 : Int32).toInt ≤ v1_.toInt) ∧ (bpat h' 341 1 = some (.int (v400 + (1 : Int32)))) ∧ (∀ a_ j_ : Nat, ¬ (a_ = 341 ∧ j_ = 1) → bpat h' a_ j_ = bpat h_ a_ j_) ∧ (∀ D_, 60 ≤ D_ → xrun D_ 199 0 [(0, .index 338), (1, .int v1_), (2, .int v2), (3, .int v3)] [] h_ (some (.int (Int32.ofInt (-1000001))), h', [])))
  ∨ (((2 : Int32).toInt < v2.toInt) ∧ ((0 : Int32).toInt ≤ v2.toInt) ∧ (v1_.toInt ≤ (v310 - (1 : Int32)).toInt) ∧ ((0 : Int32).toInt ≤ v1_.toInt) ∧ (bpat h' 341 1 = some (.int (v400 + (1 : Int32)))) ∧ (∀ a_ j_ : Nat, ¬ (a_ = 341 ∧ j_ = 1) → bpat h' a_ j_ = bpat h_ a_ j_) ∧ (∀ D_, 60 ≤ D_ → xrun D_ 199 0 [(0, .index 338), (1, .int v1_), (2, .int v2), (3, .int v3)] [] h_ (some (.int (Int32.ofInt (-1000001))), h', [])))
  ∨ ((v3.toInt < (0 : Int32).toInt) ∧ (v2.toInt ≤ (2 : Int32).toInt) ∧ ((0 : Int32).toInt ≤ v2.toInt) ∧ (v1_.toInt ≤ (v310 - (1 : Int32)).toInt) ∧ ((0 : Int32).toInt ≤ v1_.toInt) ∧ (bpat h' 341 1 = some (.int (v400 + (1 : Int32)))) ∧ (∀ a_ j_ : Nat, ¬ (a_ = 341 ∧ j_ = 1) → bpat h' a_ j_ = bpat h_ a_ j_) ∧ (∀ D_, 60 ≤ D_ → xrun D_ 199 0 [(0, .index 338), (1, .int v1_), (2, .int v2), (3, .int v3)] [] h_ (some (.int (Int32.ofInt (-1000001))), h', [])))
  ∨ (((1 : Int32).toInt < v3.toInt) ∧ ((0 : Int32).toInt ≤ v3.toInt) ∧ (v2.toInt ≤ (2 : Int32).toInt) ∧ ((0 : Int32).toInt ≤ v2.toInt) ∧ (v1_.toInt ≤ (v310 - (1 : Int32)).toInt) ∧ ((0 : Int32).toInt ≤ v1_.toInt) ∧ (bpat h' 341 1 = some (.int (v400 + (1 : Int32)))) ∧ (∀ a_ j_ : Nat, ¬ (a_ = 341 ∧ j_ = 1) → bpat h' a_ j_ = bpat h_ a_ j_) ∧ (∀ D_, 60 ≤ D_ → xrun D_ 199 0 [(0, .index 338), (1, .int v1_), (2, .int v2), (3, .int v3)] [] h_ (some (.int (Int32.ofInt (-1000001))), h', [])))) := by
  have hA : yas mplE_A (mplE_r v1_ v2 v3 v310 v400) (yg mplE_s) := ⟨fun q_ hq => absurd hq List.not_mem_nil, fun q_ hq => absurd hq List.not_mem_nil, fun q_ hq => absurd hq List.not_mem_nil, fun n_ hn => yg_lo hn, fun q_ hq => absurd hq List.not_mem_nil⟩
  have Hs : ysh mplE_A.1 (yg mplE_s) h_ := ysh_of2 hs (fun q_ hq => absurd hq List.not_mem_nil)
  have Ho : ymem (mplE_r v1_ v2 v3 v310 v400) (yg mplE_s) mplE_O h_ := List.forall_mem_cons.mpr ⟨bpat_some (fxr_at hs.2 (show fxk fxl 338 0 = some 339 by decide +kernel)), List.forall_mem_cons.mpr ⟨bpat_some o0_, List.forall_mem_cons.mpr ⟨bpat_some (fxr_at hs.2 (show fxk fxl 338 3 = some 341 by decide +kernel)), List.forall_mem_cons.mpr ⟨bpat_some o1, fun q_ hq => absurd hq List.not_mem_nil⟩⟩⟩⟩
  have HC : ∀ q_ ∈ mplE_C, xhold (mplE_r v1_ v2 v3 v310 v400) q_ := fun q_ hq => absurd hq List.not_mem_nil
  rcases yrun (yis_ok mplE_k) hA Hs Ho HC with ⟨q_, hq, h', K_, G_⟩ | ⟨q_, hq, h', K_, G_⟩
  · have e_ := List.mem_singleton.mp hq
    subst e_
    exact ⟨h', yfr_sm K_.2.2.2 hs K_.1 (ywa_s mplE_w List.mem_cons_self), Or.inl (⟨xq_leT rfl rfl (K_.2.2.1 _ List.mem_cons_self), xq_ltF rfl rfl (K_.2.2.1 _ (List.mem_cons_of_mem _ List.mem_cons_self)), xq_leT rfl rfl (K_.2.2.1 _ (List.mem_cons_of_mem _ (List.mem_cons_of_mem _ List.mem_cons_self))), xq_ltF rfl rfl (K_.2.2.1 _ (List.mem_cons_of_mem _ (List.mem_cons_of_mem _ (List.mem_cons_of_mem _ List.mem_cons_self)))), xq_leT rfl (yv_sub2 rfl rfl) (K_.2.2.1 _ (List.mem_cons_of_mem _ (List.mem_cons_of_mem _ (List.mem_cons_of_mem _ (List.mem_cons_of_mem _ List.mem_cons_self))))), xq_ltF rfl rfl (K_.2.2.1 _ (List.mem_cons_of_mem _ (List.mem_cons_of_mem _ (List.mem_cons_of_mem _ (List.mem_cons_of_mem _ (List.mem_cons_of_mem _ List.mem_cons_self)))))), fun a_ j_ => yfr_bp K_.2.2.2 (fun q_ hq => absurd hq List.not_mem_nil), G_⟩)⟩
  · rcases List.mem_cons.mp hq with e_ | hq
    · subst e_
      exact ⟨h', yfr_sm K_.2.2.2 hs K_.1 (ywa_r mplE_w List.mem_cons_self), Or.inr (Or.inl (⟨xq_ltT rfl rfl (K_.2.2.1 _ List.mem_cons_self), bpat_of (K_.2.1 _ List.mem_cons_self), fun a_ j_ n0_ => yfr_bp K_.2.2.2 (List.forall_mem_cons.mpr ⟨fun e_ => n0_ ⟨e_.1.symm, e_.2.symm⟩, fun q_ hq => absurd hq List.not_mem_nil⟩), G_⟩))⟩
    rcases List.mem_cons.mp hq with e_ | hq
    · subst e_
      exact ⟨h', yfr_sm K_.2.2.2 hs K_.1 (ywa_r mplE_w (List.mem_cons_of_mem _ List.mem_cons_self)), Or.inr (Or.inr (Or.inl (⟨xq_leF rfl (yv_sub2 rfl rfl) (K_.2.2.1 _ List.mem_cons_self), xq_ltF rfl rfl (K_.2.2.1 _ (List.mem_cons_of_mem _ List.mem_cons_self)), bpat_of (K_.2.1 _ List.mem_cons_self), fun a_ j_ n0_ => yfr_bp K_.2.2.2 (List.forall_mem_cons.mpr ⟨fun e_ => n0_ ⟨e_.1.symm, e_.2.symm⟩, fun q_ hq => absurd hq List.not_mem_nil⟩), G_⟩)))⟩
    rcases List.mem_cons.mp hq with e_ | hq
    · subst e_
      exact ⟨h', yfr_sm K_.2.2.2 hs K_.1 (ywa_r mplE_w (List.mem_cons_of_mem _ (List.mem_cons_of_mem _ List.mem_cons_self))), Or.inr (Or.inr (Or.inr (Or.inl (⟨xq_ltT rfl rfl (K_.2.2.1 _ List.mem_cons_self), xq_leT rfl (yv_sub2 rfl rfl) (K_.2.2.1 _ (List.mem_cons_of_mem _ List.mem_cons_self)), xq_ltF rfl rfl (K_.2.2.1 _ (List.mem_cons_of_mem _ (List.mem_cons_of_mem _ List.mem_cons_self))), bpat_of (K_.2.1 _ List.mem_cons_self), fun a_ j_ n0_ => yfr_bp K_.2.2.2 (List.forall_mem_cons.mpr ⟨fun e_ => n0_ ⟨e_.1.symm, e_.2.symm⟩, fun q_ hq => absurd hq List.not_mem_nil⟩), G_⟩))))⟩
    rcases List.mem_cons.mp hq with e_ | hq
    · subst e_
      exact ⟨h', yfr_sm K_.2.2.2 hs K_.1 (ywa_r mplE_w (List.mem_cons_of_mem _ (List.mem_cons_of_mem _ (List.mem_cons_of_mem _ List.mem_cons_self)))), Or.inr (Or.inr (Or.inr (Or.inr (Or.inl (⟨xq_leF rfl rfl (K_.2.2.1 _ List.mem_cons_self), xq_ltF rfl rfl (K_.2.2.1 _ (List.mem_cons_of_mem _ List.mem_cons_self)), xq_leT rfl (yv_sub2 rfl rfl) (K_.2.2.1 _ (List.mem_cons_of_mem _ (List.mem_cons_of_mem _ List.mem_cons_self))), xq_ltF rfl rfl (K_.2.2.1 _ (List.mem_cons_of_mem _ (List.mem_cons_of_mem _ (List.mem_cons_of_mem _ List.mem_cons_self)))), bpat_of (K_.2.1 _ List.mem_cons_self), fun a_ j_ n0_ => yfr_bp K_.2.2.2 (List.forall_mem_cons.mpr ⟨fun e_ => n0_ ⟨e_.1.symm, e_.2.symm⟩, fun q_ hq => absurd hq List.not_mem_nil⟩), G_⟩)))))⟩
    rcases List.mem_cons.mp hq with e_ | hq
    · subst e_
      exact ⟨h', yfr_sm K_.2.2.2 hs K_.1 (ywa_r mplE_w (List.mem_cons_of_mem _ (List.mem_cons_of_mem _ (List.mem_cons_of_mem _ (List.mem_cons_of_mem _ List.mem_cons_self))))), Or.inr (Or.inr (Or.inr (Or.inr (Or.inr (Or.inl (⟨xq_ltT rfl rfl (K_.2.2.1 _ List.mem_cons_self), xq_leT rfl rfl (K_.2.2.1 _ (List.mem_cons_of_mem _ List.mem_cons_self)), xq_ltF rfl rfl (K_.2.2.1 _ (List.mem_cons_of_mem _ (List.mem_cons_of_mem _ List.mem_cons_self))), xq_leT rfl (yv_sub2 rfl rfl) (K_.2.2.1 _ (List.mem_cons_of_mem _ (List.mem_cons_of_mem _ (List.mem_cons_of_mem _ List.mem_cons_self)))), xq_ltF rfl rfl (K_.2.2.1 _ (List.mem_cons_of_mem _ (List.mem_cons_of_mem _ (List.mem_cons_of_mem _ (List.mem_cons_of_mem _ List.mem_cons_self))))), bpat_of (K_.2.1 _ List.mem_cons_self), fun a_ j_ n0_ => yfr_bp K_.2.2.2 (List.forall_mem_cons.mpr ⟨fun e_ => n0_ ⟨e_.1.symm, e_.2.symm⟩, fun q_ hq => absurd hq List.not_mem_nil⟩), G_⟩))))))⟩
    have e_ := List.mem_singleton.mp hq
    subst e_
    exact ⟨h', yfr_sm K_.2.2.2 hs K_.1 (ywa_r mplE_w (List.mem_cons_of_mem _ (List.mem_cons_of_mem _ (List.mem_cons_of_mem _ (List.mem_cons_of_mem _ (List.mem_cons_of_mem _ List.mem_cons_self)))))), Or.inr (Or.inr (Or.inr (Or.inr (Or.inr (Or.inr (⟨xq_leF rfl rfl (K_.2.2.1 _ List.mem_cons_self), xq_ltF rfl rfl (K_.2.2.1 _ (List.mem_cons_of_mem _ List.mem_cons_self)), xq_leT rfl rfl (K_.2.2.1 _ (List.mem_cons_of_mem _ (List.mem_cons_of_mem _ List.mem_cons_self))), xq_ltF rfl rfl (K_.2.2.1 _ (List.mem_cons_of_mem _ (List.mem_cons_of_mem _ (List.mem_cons_of_mem _ List.mem_cons_self)))), xq_leT rfl (yv_sub2 rfl rfl) (K_.2.2.1 _ (List.mem_cons_of_mem _ (List.mem_cons_of_mem _ (List.mem_cons_of_mem _ (List.mem_cons_of_mem _ List.mem_cons_self))))), xq_ltF rfl rfl (K_.2.2.1 _ (List.mem_cons_of_mem _ (List.mem_cons_of_mem _ (List.mem_cons_of_mem _ (List.mem_cons_of_mem _ (List.mem_cons_of_mem _ List.mem_cons_self)))))), bpat_of (K_.2.1 _ List.mem_cons_self), fun a_ j_ n0_ => yfr_bp K_.2.2.2 (List.forall_mem_cons.mpr ⟨fun e_ => n0_ ⟨e_.1.symm, e_.2.symm⟩, fun q_ hq => absurd hq List.not_mem_nil⟩), G_⟩))))))⟩
-- mplA: 4 steps, 1 ends, 0 returns
def mplA_L : List (Nat × Nat × Nat) := []
def mplA_O : yO := []
def mplA_A : yA := (yZ mplA_L, [], [], [], [])
def mplA_C : List xB := []
def mplA_ss : List yS := [(44, [(5, .int 1), (4, .int 0), (0, .index 338), (1, .arg 1), (2, .arg 2), (3, .arg 3)], [], [], [], [])]
def mplA_rs : List yR := []
theorem mplA_w : ywa mplA_A mplA_ss mplA_rs = true := by decide +kernel
theorem mplA_k : yis (yev mplA_A 3000 60 199 [44] (38, [(0, .index 338), (1, .arg 1), (2, .arg 2), (3, .arg 3)], [], mplA_O, mplA_C, [])) mplA_ss mplA_rs = true := by decide +kernel
def mplA_r (v1_ v2 v3 : Int32) (k_ : Nat) : Value := bif Nat.beq k_ 1 then .int v1_ else (bif Nat.beq k_ 2 then .int v2 else (bif Nat.beq k_ 3 then .int v3 else (.int 0)))
def mplA_s (n_ : Nat) : Nat := 0
theorem mplA {h_ : xH} {v1_ v2 v3 : Int32} (hs : sHp h_) : ∃ h', ysm h_ h' ∧ (((∀ a_ j_ : Nat, bpat h' a_ j_ = bpat h_ a_ j_) ∧ (bldD 60 199 38 [(0, .index 338), (1, .int v1_), (2, .int v2), (3, .int v3)] [] h_ 44 [(5, .int (1 : Int32)), (4, .int (0 : Int32)), (0, .index 338), (1, .int v1_), (2, .int v2), (3, .int v3)] [] h'))) := by
  have hA : yas mplA_A (mplA_r v1_ v2 v3) (yg mplA_s) := ⟨fun q_ hq => absurd hq List.not_mem_nil, fun q_ hq => absurd hq List.not_mem_nil, fun q_ hq => absurd hq List.not_mem_nil, fun n_ hn => yg_lo hn, fun q_ hq => absurd hq List.not_mem_nil⟩
  have Hs : ysh mplA_A.1 (yg mplA_s) h_ := ysh_of2 hs (fun q_ hq => absurd hq List.not_mem_nil)
  have Ho : ymem (mplA_r v1_ v2 v3) (yg mplA_s) mplA_O h_ := fun q_ hq => absurd hq List.not_mem_nil
  have HC : ∀ q_ ∈ mplA_C, xhold (mplA_r v1_ v2 v3) q_ := fun q_ hq => absurd hq List.not_mem_nil
  rcases yrun (yis_ok mplA_k) hA Hs Ho HC with ⟨q_, hq, h', K_, G_⟩ | ⟨q_, hq, h', K_, G_⟩
  · have e_ := List.mem_singleton.mp hq
    subst e_
    exact ⟨h', yfr_sm K_.2.2.2 hs K_.1 (ywa_s mplA_w List.mem_cons_self), ⟨fun a_ j_ => yfr_bp K_.2.2.2 (fun q_ hq => absurd hq List.not_mem_nil), G_⟩⟩
  · cases hq
-- mplX: 3 steps, 1 ends, 0 returns
def mplX_L : List (Nat × Nat × Nat) := []
def mplX_O : yO := []
def mplX_A : yA := (yZ mplX_L, [], [], [], [])
def mplX_C : List xB := [(.lt, .arg 5, .int 12, false)]
def mplX_ss : List yS := [(81, [(5, .arg 5), (4, .arg 4), (0, .index 338), (1, .arg 1), (2, .arg 2), (3, .arg 3)], [], [], [(.lt, .arg 5, .int 12, false)], [])]
def mplX_rs : List yR := []
theorem mplX_w : ywa mplX_A mplX_ss mplX_rs = true := by decide +kernel
theorem mplX_k : yis (yev mplX_A 3000 60 199 [81] (44, [(5, .arg 5), (4, .arg 4), (0, .index 338), (1, .arg 1), (2, .arg 2), (3, .arg 3)], [], mplX_O, mplX_C, [])) mplX_ss mplX_rs = true := by decide +kernel
def mplX_r (v1_ v2 v3 v4_ v5 : Int32) (k_ : Nat) : Value := bif Nat.beq k_ 1 then .int v1_ else (bif Nat.beq k_ 2 then .int v2 else (bif Nat.beq k_ 3 then .int v3 else (bif Nat.beq k_ 4 then .int v4_ else (bif Nat.beq k_ 5 then .int v5 else (.int 0)))))
def mplX_s (n_ : Nat) : Nat := 0
theorem mplX {h_ : xH} {v1_ v2 v3 v4_ v5 : Int32} (hs : sHp h_) (c0_ : (12 : Int32).toInt ≤ v5.toInt) : ∃ h', ysm h_ h' ∧ (((∀ a_ j_ : Nat, bpat h' a_ j_ = bpat h_ a_ j_) ∧ (bldD 60 199 44 [(5, .int v5), (4, .int v4_), (0, .index 338), (1, .int v1_), (2, .int v2), (3, .int v3)] [] h_ 81 [(5, .int v5), (4, .int v4_), (0, .index 338), (1, .int v1_), (2, .int v2), (3, .int v3)] [] h'))) := by
  have hA : yas mplX_A (mplX_r v1_ v2 v3 v4_ v5) (yg mplX_s) := ⟨fun q_ hq => absurd hq List.not_mem_nil, fun q_ hq => absurd hq List.not_mem_nil, fun q_ hq => absurd hq List.not_mem_nil, fun n_ hn => yg_lo hn, fun q_ hq => absurd hq List.not_mem_nil⟩
  have Hs : ysh mplX_A.1 (yg mplX_s) h_ := ysh_of2 hs (fun q_ hq => absurd hq List.not_mem_nil)
  have Ho : ymem (mplX_r v1_ v2 v3 v4_ v5) (yg mplX_s) mplX_O h_ := fun q_ hq => absurd hq List.not_mem_nil
  have HC : ∀ q_ ∈ mplX_C, xhold (mplX_r v1_ v2 v3 v4_ v5) q_ := List.forall_mem_cons.mpr ⟨xh_ltF c0_, fun q_ hq => absurd hq List.not_mem_nil⟩
  rcases yrun (yis_ok mplX_k) hA Hs Ho HC with ⟨q_, hq, h', K_, G_⟩ | ⟨q_, hq, h', K_, G_⟩
  · have e_ := List.mem_singleton.mp hq
    subst e_
    exact ⟨h', yfr_sm K_.2.2.2 hs K_.1 (ywa_s mplX_w List.mem_cons_self), ⟨fun a_ j_ => yfr_bp K_.2.2.2 (fun q_ hq => absurd hq List.not_mem_nil), G_⟩⟩
  · cases hq
-- mplT: 5 steps, 1 ends, 0 returns
def mplT_L : List (Nat × Nat × Nat) := []
def mplT_O : yO := []
def mplT_A : yA := (yZ mplT_L, [], [], [], [])
def mplT_C : List xB := [(.lt, .arg 5, .int 12, true)]
def mplT_ss : List yS := [(54, [(5, .arg 5), (4, .arg 4), (0, .index 338), (1, .arg 1), (2, .arg 2), (3, .arg 3)], [.arg 5, .index 338], [], [(.lt, .arg 5, .int 12, true)], [])]
def mplT_rs : List yR := []
theorem mplT_w : ywa mplT_A mplT_ss mplT_rs = true := by decide +kernel
theorem mplT_k : yis (yev mplT_A 3000 60 199 [54] (44, [(5, .arg 5), (4, .arg 4), (0, .index 338), (1, .arg 1), (2, .arg 2), (3, .arg 3)], [], mplT_O, mplT_C, [])) mplT_ss mplT_rs = true := by decide +kernel
def mplT_r (v1_ v2 v3 v4_ v5 : Int32) (k_ : Nat) : Value := bif Nat.beq k_ 1 then .int v1_ else (bif Nat.beq k_ 2 then .int v2 else (bif Nat.beq k_ 3 then .int v3 else (bif Nat.beq k_ 4 then .int v4_ else (bif Nat.beq k_ 5 then .int v5 else (.int 0)))))
def mplT_s (n_ : Nat) : Nat := 0
theorem mplT {h_ : xH} {v1_ v2 v3 v4_ v5 : Int32} (hs : sHp h_) (c0_ : v5.toInt < (12 : Int32).toInt) : ∃ h', ysm h_ h' ∧ (((∀ a_ j_ : Nat, bpat h' a_ j_ = bpat h_ a_ j_) ∧ (bldD 60 199 44 [(5, .int v5), (4, .int v4_), (0, .index 338), (1, .int v1_), (2, .int v2), (3, .int v3)] [] h_ 54 [(5, .int v5), (4, .int v4_), (0, .index 338), (1, .int v1_), (2, .int v2), (3, .int v3)] [.int v5, .index 338] h'))) := by
  have hA : yas mplT_A (mplT_r v1_ v2 v3 v4_ v5) (yg mplT_s) := ⟨fun q_ hq => absurd hq List.not_mem_nil, fun q_ hq => absurd hq List.not_mem_nil, fun q_ hq => absurd hq List.not_mem_nil, fun n_ hn => yg_lo hn, fun q_ hq => absurd hq List.not_mem_nil⟩
  have Hs : ysh mplT_A.1 (yg mplT_s) h_ := ysh_of2 hs (fun q_ hq => absurd hq List.not_mem_nil)
  have Ho : ymem (mplT_r v1_ v2 v3 v4_ v5) (yg mplT_s) mplT_O h_ := fun q_ hq => absurd hq List.not_mem_nil
  have HC : ∀ q_ ∈ mplT_C, xhold (mplT_r v1_ v2 v3 v4_ v5) q_ := List.forall_mem_cons.mpr ⟨xh_ltT c0_, fun q_ hq => absurd hq List.not_mem_nil⟩
  rcases yrun (yis_ok mplT_k) hA Hs Ho HC with ⟨q_, hq, h', K_, G_⟩ | ⟨q_, hq, h', K_, G_⟩
  · have e_ := List.mem_singleton.mp hq
    subst e_
    exact ⟨h', yfr_sm K_.2.2.2 hs K_.1 (ywa_s mplT_w List.mem_cons_self), ⟨fun a_ j_ => yfr_bp K_.2.2.2 (fun q_ hq => absurd hq List.not_mem_nil), G_⟩⟩
  · cases hq
-- mplU: 2 steps, 1 ends, 0 returns
def mplU_L : List (Nat × Nat × Nat) := []
def mplU_O : yO := []
def mplU_A : yA := (yZ mplU_L, [], [], [], [])
def mplU_C : List xB := []
def mplU_ss : List yS := [(60, [(5, .arg 5), (4, .arg 4), (0, .index 338), (1, .arg 1), (2, .arg 2), (3, .arg 3)], [.arg 4, .index 338, .arg 8], [], [], [])]
def mplU_rs : List yR := []
theorem mplU_w : ywa mplU_A mplU_ss mplU_rs = true := by decide +kernel
theorem mplU_k : yis (yev mplU_A 3000 60 199 [60] (57, [(5, .arg 5), (4, .arg 4), (0, .index 338), (1, .arg 1), (2, .arg 2), (3, .arg 3)], [.arg 8], mplU_O, mplU_C, [])) mplU_ss mplU_rs = true := by decide +kernel
def mplU_r (v1_ v2 v3 v4_ v5 v8 : Int32) (k_ : Nat) : Value := bif Nat.beq k_ 1 then .int v1_ else (bif Nat.beq k_ 2 then .int v2 else (bif Nat.beq k_ 3 then .int v3 else (bif Nat.beq k_ 4 then .int v4_ else (bif Nat.beq k_ 5 then .int v5 else (bif Nat.beq k_ 8 then .int v8 else (.int 0))))))
def mplU_s (n_ : Nat) : Nat := 0
theorem mplU {h_ : xH} {v1_ v2 v3 v4_ v5 v8 : Int32} (hs : sHp h_) : ∃ h', ysm h_ h' ∧ (((∀ a_ j_ : Nat, bpat h' a_ j_ = bpat h_ a_ j_) ∧ (bldD 60 199 57 [(5, .int v5), (4, .int v4_), (0, .index 338), (1, .int v1_), (2, .int v2), (3, .int v3)] [.int v8] h_ 60 [(5, .int v5), (4, .int v4_), (0, .index 338), (1, .int v1_), (2, .int v2), (3, .int v3)] [.int v4_, .index 338, .int v8] h'))) := by
  have hA : yas mplU_A (mplU_r v1_ v2 v3 v4_ v5 v8) (yg mplU_s) := ⟨fun q_ hq => absurd hq List.not_mem_nil, fun q_ hq => absurd hq List.not_mem_nil, fun q_ hq => absurd hq List.not_mem_nil, fun n_ hn => yg_lo hn, fun q_ hq => absurd hq List.not_mem_nil⟩
  have Hs : ysh mplU_A.1 (yg mplU_s) h_ := ysh_of2 hs (fun q_ hq => absurd hq List.not_mem_nil)
  have Ho : ymem (mplU_r v1_ v2 v3 v4_ v5 v8) (yg mplU_s) mplU_O h_ := fun q_ hq => absurd hq List.not_mem_nil
  have HC : ∀ q_ ∈ mplU_C, xhold (mplU_r v1_ v2 v3 v4_ v5 v8) q_ := fun q_ hq => absurd hq List.not_mem_nil
  rcases yrun (yis_ok mplU_k) hA Hs Ho HC with ⟨q_, hq, h', K_, G_⟩ | ⟨q_, hq, h', K_, G_⟩
  · have e_ := List.mem_singleton.mp hq
    subst e_
    exact ⟨h', yfr_sm K_.2.2.2 hs K_.1 (ywa_s mplU_w List.mem_cons_self), ⟨fun a_ j_ => yfr_bp K_.2.2.2 (fun q_ hq => absurd hq List.not_mem_nil), G_⟩⟩
  · cases hq
-- mplV: 6 steps, 1 ends, 0 returns
def mplV_L : List (Nat × Nat × Nat) := []
def mplV_O : yO := []
def mplV_A : yA := (yZ mplV_L, [], [], [], [])
def mplV_C : List xB := [(.le, .arg 8, .arg 9, false)]
def mplV_ss : List yS := [(44, [(5, .add (.arg 5) (.int 1)), (4, .arg 5), (0, .index 338), (1, .arg 1), (2, .arg 2), (3, .arg 3)], [], [], [(.le, .arg 8, .arg 9, false)], [])]
def mplV_rs : List yR := []
theorem mplV_w : ywa mplV_A mplV_ss mplV_rs = true := by decide +kernel
theorem mplV_k : yis (yev mplV_A 3000 60 199 [44] (63, [(5, .arg 5), (4, .arg 4), (0, .index 338), (1, .arg 1), (2, .arg 2), (3, .arg 3)], [.arg 9, .arg 8], mplV_O, mplV_C, [])) mplV_ss mplV_rs = true := by decide +kernel
def mplV_r (v1_ v2 v3 v4_ v5 v8 v9 : Int32) (k_ : Nat) : Value := bif Nat.beq k_ 1 then .int v1_ else (bif Nat.beq k_ 2 then .int v2 else (bif Nat.beq k_ 3 then .int v3 else (bif Nat.beq k_ 4 then .int v4_ else (bif Nat.beq k_ 5 then .int v5 else (bif Nat.beq k_ 8 then .int v8 else (bif Nat.beq k_ 9 then .int v9 else (.int 0)))))))
def mplV_s (n_ : Nat) : Nat := 0
theorem mplV {h_ : xH} {v1_ v2 v3 v4_ v5 v8 v9 : Int32} (hs : sHp h_) (c0_ : v9.toInt < v8.toInt) : ∃ h', ysm h_ h' ∧ (((∀ a_ j_ : Nat, bpat h' a_ j_ = bpat h_ a_ j_) ∧ (bldD 60 199 63 [(5, .int v5), (4, .int v4_), (0, .index 338), (1, .int v1_), (2, .int v2), (3, .int v3)] [.int v9, .int v8] h_ 44 [(5, .int (v5 + (1 : Int32))), (4, .int v5), (0, .index 338), (1, .int v1_), (2, .int v2), (3, .int v3)] [] h'))) := by
  have hA : yas mplV_A (mplV_r v1_ v2 v3 v4_ v5 v8 v9) (yg mplV_s) := ⟨fun q_ hq => absurd hq List.not_mem_nil, fun q_ hq => absurd hq List.not_mem_nil, fun q_ hq => absurd hq List.not_mem_nil, fun n_ hn => yg_lo hn, fun q_ hq => absurd hq List.not_mem_nil⟩
  have Hs : ysh mplV_A.1 (yg mplV_s) h_ := ysh_of2 hs (fun q_ hq => absurd hq List.not_mem_nil)
  have Ho : ymem (mplV_r v1_ v2 v3 v4_ v5 v8 v9) (yg mplV_s) mplV_O h_ := fun q_ hq => absurd hq List.not_mem_nil
  have HC : ∀ q_ ∈ mplV_C, xhold (mplV_r v1_ v2 v3 v4_ v5 v8 v9) q_ := List.forall_mem_cons.mpr ⟨xh_leF c0_, fun q_ hq => absurd hq List.not_mem_nil⟩
  rcases yrun (yis_ok mplV_k) hA Hs Ho HC with ⟨q_, hq, h', K_, G_⟩ | ⟨q_, hq, h', K_, G_⟩
  · have e_ := List.mem_singleton.mp hq
    subst e_
    exact ⟨h', yfr_sm K_.2.2.2 hs K_.1 (ywa_s mplV_w List.mem_cons_self), ⟨fun a_ j_ => yfr_bp K_.2.2.2 (fun q_ hq => absurd hq List.not_mem_nil), G_⟩⟩
  · cases hq
-- mplW: 5 steps, 1 ends, 0 returns
def mplW_L : List (Nat × Nat × Nat) := []
def mplW_O : yO := []
def mplW_A : yA := (yZ mplW_L, [], [], [], [])
def mplW_C : List xB := [(.le, .arg 8, .arg 9, true)]
def mplW_ss : List yS := [(44, [(5, .add (.arg 5) (.int 1)), (4, .arg 4), (0, .index 338), (1, .arg 1), (2, .arg 2), (3, .arg 3)], [], [], [(.le, .arg 8, .arg 9, true)], [])]
def mplW_rs : List yR := []
theorem mplW_w : ywa mplW_A mplW_ss mplW_rs = true := by decide +kernel
theorem mplW_k : yis (yev mplW_A 3000 60 199 [44] (63, [(5, .arg 5), (4, .arg 4), (0, .index 338), (1, .arg 1), (2, .arg 2), (3, .arg 3)], [.arg 9, .arg 8], mplW_O, mplW_C, [])) mplW_ss mplW_rs = true := by decide +kernel
def mplW_r (v1_ v2 v3 v4_ v5 v8 v9 : Int32) (k_ : Nat) : Value := bif Nat.beq k_ 1 then .int v1_ else (bif Nat.beq k_ 2 then .int v2 else (bif Nat.beq k_ 3 then .int v3 else (bif Nat.beq k_ 4 then .int v4_ else (bif Nat.beq k_ 5 then .int v5 else (bif Nat.beq k_ 8 then .int v8 else (bif Nat.beq k_ 9 then .int v9 else (.int 0)))))))
def mplW_s (n_ : Nat) : Nat := 0
theorem mplW {h_ : xH} {v1_ v2 v3 v4_ v5 v8 v9 : Int32} (hs : sHp h_) (c0_ : v8.toInt ≤ v9.toInt) : ∃ h', ysm h_ h' ∧ (((∀ a_ j_ : Nat, bpat h' a_ j_ = bpat h_ a_ j_) ∧ (bldD 60 199 63 [(5, .int v5), (4, .int v4_), (0, .index 338), (1, .int v1_), (2, .int v2), (3, .int v3)] [.int v9, .int v8] h_ 44 [(5, .int (v5 + (1 : Int32))), (4, .int v4_), (0, .index 338), (1, .int v1_), (2, .int v2), (3, .int v3)] [] h'))) := by
  have hA : yas mplW_A (mplW_r v1_ v2 v3 v4_ v5 v8 v9) (yg mplW_s) := ⟨fun q_ hq => absurd hq List.not_mem_nil, fun q_ hq => absurd hq List.not_mem_nil, fun q_ hq => absurd hq List.not_mem_nil, fun n_ hn => yg_lo hn, fun q_ hq => absurd hq List.not_mem_nil⟩
  have Hs : ysh mplW_A.1 (yg mplW_s) h_ := ysh_of2 hs (fun q_ hq => absurd hq List.not_mem_nil)
  have Ho : ymem (mplW_r v1_ v2 v3 v4_ v5 v8 v9) (yg mplW_s) mplW_O h_ := fun q_ hq => absurd hq List.not_mem_nil
  have HC : ∀ q_ ∈ mplW_C, xhold (mplW_r v1_ v2 v3 v4_ v5 v8 v9) q_ := List.forall_mem_cons.mpr ⟨xh_leT c0_, fun q_ hq => absurd hq List.not_mem_nil⟩
  rcases yrun (yis_ok mplW_k) hA Hs Ho HC with ⟨q_, hq, h', K_, G_⟩ | ⟨q_, hq, h', K_, G_⟩
  · have e_ := List.mem_singleton.mp hq
    subst e_
    exact ⟨h', yfr_sm K_.2.2.2 hs K_.1 (ywa_s mplW_w List.mem_cons_self), ⟨fun a_ j_ => yfr_bp K_.2.2.2 (fun q_ hq => absurd hq List.not_mem_nil), G_⟩⟩
  · cases hq
-- mplR0: 5 steps, 0 ends, 1 returns
def mplR0_L : List (Nat × Nat × Nat) := []
def mplR0_O : yO := []
def mplR0_A : yA := (yZ mplR0_L, [], [], [], [])
def mplR0_C : List xB := []
def mplR0_ss : List yS := []
def mplR0_rs : List yR := [(some (.arg 4), [], [], [])]
theorem mplR0_w : ywa mplR0_A mplR0_ss mplR0_rs = true := by decide +kernel
theorem mplR0_k : yis (yev mplR0_A 3000 60 199 [] (81, [(5, .arg 5), (4, .arg 4), (0, .index 338), (1, .arg 1), (2, .arg 2), (3, .int 0)], [], mplR0_O, mplR0_C, [])) mplR0_ss mplR0_rs = true := by decide +kernel
def mplR0_r (v1_ v2 v4_ v5 : Int32) (k_ : Nat) : Value := bif Nat.beq k_ 1 then .int v1_ else (bif Nat.beq k_ 2 then .int v2 else (bif Nat.beq k_ 4 then .int v4_ else (bif Nat.beq k_ 5 then .int v5 else (.int 0))))
def mplR0_s (n_ : Nat) : Nat := 0
theorem mplR0 {h_ : xH} {v1_ v2 v4_ v5 : Int32} (hs : sHp h_) : ∃ h', ysm h_ h' ∧ (((∀ a_ j_ : Nat, bpat h' a_ j_ = bpat h_ a_ j_) ∧ (∀ D_, 60 ≤ D_ → xrun D_ 199 81 [(5, .int v5), (4, .int v4_), (0, .index 338), (1, .int v1_), (2, .int v2), (3, .int (0 : Int32))] [] h_ (some (.int v4_), h', [])))) := by
  have hA : yas mplR0_A (mplR0_r v1_ v2 v4_ v5) (yg mplR0_s) := ⟨fun q_ hq => absurd hq List.not_mem_nil, fun q_ hq => absurd hq List.not_mem_nil, fun q_ hq => absurd hq List.not_mem_nil, fun n_ hn => yg_lo hn, fun q_ hq => absurd hq List.not_mem_nil⟩
  have Hs : ysh mplR0_A.1 (yg mplR0_s) h_ := ysh_of2 hs (fun q_ hq => absurd hq List.not_mem_nil)
  have Ho : ymem (mplR0_r v1_ v2 v4_ v5) (yg mplR0_s) mplR0_O h_ := fun q_ hq => absurd hq List.not_mem_nil
  have HC : ∀ q_ ∈ mplR0_C, xhold (mplR0_r v1_ v2 v4_ v5) q_ := fun q_ hq => absurd hq List.not_mem_nil
  rcases yrun (yis_ok mplR0_k) hA Hs Ho HC with ⟨q_, hq, h', K_, G_⟩ | ⟨q_, hq, h', K_, G_⟩
  · cases hq
  · have e_ := List.mem_singleton.mp hq
    subst e_
    exact ⟨h', yfr_sm K_.2.2.2 hs K_.1 (ywa_r mplR0_w List.mem_cons_self), ⟨fun a_ j_ => yfr_bp K_.2.2.2 (fun q_ hq => absurd hq List.not_mem_nil), G_⟩⟩
-- mplK: 4 steps, 1 ends, 0 returns
def mplK_L : List (Nat × Nat × Nat) := []
def mplK_O : yO := []
def mplK_A : yA := (yZ mplK_L, [], [], [], [])
def mplK_C : List xB := []
def mplK_ss : List yS := [(93, [(5, .arg 5), (4, .arg 4), (0, .index 338), (1, .arg 1), (2, .arg 2), (3, .int 1)], [.arg 4, .index 338], [], [], [])]
def mplK_rs : List yR := []
theorem mplK_w : ywa mplK_A mplK_ss mplK_rs = true := by decide +kernel
theorem mplK_k : yis (yev mplK_A 3000 60 199 [93] (81, [(5, .arg 5), (4, .arg 4), (0, .index 338), (1, .arg 1), (2, .arg 2), (3, .int 1)], [], mplK_O, mplK_C, [])) mplK_ss mplK_rs = true := by decide +kernel
def mplK_r (v1_ v2 v4_ v5 : Int32) (k_ : Nat) : Value := bif Nat.beq k_ 1 then .int v1_ else (bif Nat.beq k_ 2 then .int v2 else (bif Nat.beq k_ 4 then .int v4_ else (bif Nat.beq k_ 5 then .int v5 else (.int 0))))
def mplK_s (n_ : Nat) : Nat := 0
theorem mplK {h_ : xH} {v1_ v2 v4_ v5 : Int32} (hs : sHp h_) : ∃ h', ysm h_ h' ∧ (((∀ a_ j_ : Nat, bpat h' a_ j_ = bpat h_ a_ j_) ∧ (bldD 60 199 81 [(5, .int v5), (4, .int v4_), (0, .index 338), (1, .int v1_), (2, .int v2), (3, .int (1 : Int32))] [] h_ 93 [(5, .int v5), (4, .int v4_), (0, .index 338), (1, .int v1_), (2, .int v2), (3, .int (1 : Int32))] [.int v4_, .index 338] h'))) := by
  have hA : yas mplK_A (mplK_r v1_ v2 v4_ v5) (yg mplK_s) := ⟨fun q_ hq => absurd hq List.not_mem_nil, fun q_ hq => absurd hq List.not_mem_nil, fun q_ hq => absurd hq List.not_mem_nil, fun n_ hn => yg_lo hn, fun q_ hq => absurd hq List.not_mem_nil⟩
  have Hs : ysh mplK_A.1 (yg mplK_s) h_ := ysh_of2 hs (fun q_ hq => absurd hq List.not_mem_nil)
  have Ho : ymem (mplK_r v1_ v2 v4_ v5) (yg mplK_s) mplK_O h_ := fun q_ hq => absurd hq List.not_mem_nil
  have HC : ∀ q_ ∈ mplK_C, xhold (mplK_r v1_ v2 v4_ v5) q_ := fun q_ hq => absurd hq List.not_mem_nil
  rcases yrun (yis_ok mplK_k) hA Hs Ho HC with ⟨q_, hq, h', K_, G_⟩ | ⟨q_, hq, h', K_, G_⟩
  · have e_ := List.mem_singleton.mp hq
    subst e_
    exact ⟨h', yfr_sm K_.2.2.2 hs K_.1 (ywa_s mplK_w List.mem_cons_self), ⟨fun a_ j_ => yfr_bp K_.2.2.2 (fun q_ hq => absurd hq List.not_mem_nil), G_⟩⟩
  · cases hq
-- mplR1: 1 steps, 0 ends, 1 returns
def mplR1_L : List (Nat × Nat × Nat) := []
def mplR1_O : yO := []
def mplR1_A : yA := (yZ mplR1_L, [], [], [], [])
def mplR1_C : List xB := []
def mplR1_ss : List yS := []
def mplR1_rs : List yR := [(some (.arg 8), [], [], [])]
theorem mplR1_w : ywa mplR1_A mplR1_ss mplR1_rs = true := by decide +kernel
theorem mplR1_k : yis (yev mplR1_A 3000 60 199 [] (96, [(5, .arg 5), (4, .arg 4), (0, .index 338), (1, .arg 1), (2, .arg 2), (3, .int 1)], [.arg 8], mplR1_O, mplR1_C, [])) mplR1_ss mplR1_rs = true := by decide +kernel
def mplR1_r (v1_ v2 v4_ v5 v8 : Int32) (k_ : Nat) : Value := bif Nat.beq k_ 1 then .int v1_ else (bif Nat.beq k_ 2 then .int v2 else (bif Nat.beq k_ 4 then .int v4_ else (bif Nat.beq k_ 5 then .int v5 else (bif Nat.beq k_ 8 then .int v8 else (.int 0)))))
def mplR1_s (n_ : Nat) : Nat := 0
theorem mplR1 {h_ : xH} {v1_ v2 v4_ v5 v8 : Int32} (hs : sHp h_) : ∃ h', ysm h_ h' ∧ (((∀ a_ j_ : Nat, bpat h' a_ j_ = bpat h_ a_ j_) ∧ (∀ D_, 60 ≤ D_ → xrun D_ 199 96 [(5, .int v5), (4, .int v4_), (0, .index 338), (1, .int v1_), (2, .int v2), (3, .int (1 : Int32))] [.int v8] h_ (some (.int v8), h', [])))) := by
  have hA : yas mplR1_A (mplR1_r v1_ v2 v4_ v5 v8) (yg mplR1_s) := ⟨fun q_ hq => absurd hq List.not_mem_nil, fun q_ hq => absurd hq List.not_mem_nil, fun q_ hq => absurd hq List.not_mem_nil, fun n_ hn => yg_lo hn, fun q_ hq => absurd hq List.not_mem_nil⟩
  have Hs : ysh mplR1_A.1 (yg mplR1_s) h_ := ysh_of2 hs (fun q_ hq => absurd hq List.not_mem_nil)
  have Ho : ymem (mplR1_r v1_ v2 v4_ v5 v8) (yg mplR1_s) mplR1_O h_ := fun q_ hq => absurd hq List.not_mem_nil
  have HC : ∀ q_ ∈ mplR1_C, xhold (mplR1_r v1_ v2 v4_ v5 v8) q_ := fun q_ hq => absurd hq List.not_mem_nil
  rcases yrun (yis_ok mplR1_k) hA Hs Ho HC with ⟨q_, hq, h', K_, G_⟩ | ⟨q_, hq, h', K_, G_⟩
  · cases hq
  · have e_ := List.mem_singleton.mp hq
    subst e_
    exact ⟨h', yfr_sm K_.2.2.2 hs K_.1 (ywa_r mplR1_w List.mem_cons_self), ⟨fun a_ j_ => yfr_bp K_.2.2.2 (fun q_ hq => absurd hq List.not_mem_nil), G_⟩⟩
theorem ixm0 {m_ : Nat} (hm_ : m_ < 80) : ((13 : Int32) * Int32.ofNat m_).toInt = ((13 * m_ : Nat) : Int) := by
  have k_ : (List.range 80).all (fun m_ => decide (((13 : Int32) * Int32.ofNat m_).toInt = ((13 * m_ : Nat) : Int))) = true := by decide +kernel
  exact of_decide_eq_true (List.all_eq_true.mp k_ m_ (List.mem_range.mpr hm_))
theorem ixm2 {m_ p_ : Nat} (hm_ : m_ < 80) (hp : p_ < 12) : (((13 : Int32) * Int32.ofNat m_ + (1 : Int32)) + Int32.ofNat p_).toInt = ((13 * m_ + 1 + p_ : Nat) : Int) := by
  have k_ : (List.range 80).all (fun m_ => (List.range 12).all (fun p_ => decide ((((13 : Int32) * Int32.ofNat m_ + (1 : Int32)) + Int32.ofNat p_).toInt = ((13 * m_ + 1 + p_ : Nat) : Int)))) = true := by decide +kernel
  exact of_decide_eq_true (List.all_eq_true.mp (List.all_eq_true.mp k_ m_ (List.mem_range.mpr hm_)) p_ (List.mem_range.mpr hp))
def hdQn (p_ v_ t_ : Nat) (lo_ : xL) : Prop := lo_ = [(3, .int (Int32.ofNat v_)), (2, .int (Int32.ofNat t_)), (0, .index 338), (1, .int (Int32.ofNat p_))] ∨ ∃ y5 y4 : Int32, lo_ = [(3, .int (Int32.ofNat v_)), (2, .int (Int32.ofNat t_)), (5, .int y5), (4, .int y4), (0, .index 338), (1, .int (Int32.ofNat p_))]
/-- has one of these rows this SOUND there -/
theorem um_lp {p_ v_ t_ : Nat} {L_ : List (List Int32)} (hL : L_.length ≤ 73) (hp : p_ < 12) : ∀ (n_ m_ : Nat) (g_ : Bool) (h_ : xH), m_ + n_ = L_.length → sHp h_ → meM L_ h_ → g_ = hasF (L_.take m_) p_ v_ → ∃ h' lo', (ysm h_ h' ∧ ∀ c_ j_, bpat h' c_ j_ = bpat h_ c_ j_) ∧ (hdQn p_ (v_ + 1) (t_ + (if hasF L_ p_ v_ = true then 1 else 0)) lo' ∧ bldD 60 198 16 [(5, .int (Int32.ofNat m_)), (4, .int (bI g_)), (3, .int (Int32.ofNat v_)), (2, .int (Int32.ofNat t_)), (0, .index 338), (1, .int (Int32.ofNat p_))] [] h_ 4 lo' [] h') := by
  intro n_
  induction n_ with
  | zero =>
    intro m_ g_ h_ hm_ S_ M_ eg
    have em : m_ = L_.length := by omega
    have im := i32n (i_ := m_) (by omega)
    have iL := i32n (i_ := L_.length) (by omega)
    rw [em, List.take_length] at eg
    cases g_ with
    | false =>
      obtain ⟨h1, m1_, f1_, ld1⟩ := mulY0 (v1_ := Int32.ofNat p_) (v2 := Int32.ofNat t_) (v3 := Int32.ofNat v_) (v5 := Int32.ofNat m_) S_ M_.1 (by omega)
      rw [i32s, Int32.add_zero] at ld1
      rw [← eg]
      exact ⟨h1, _, ⟨m1_, f1_⟩, Or.inr ⟨_, _, rfl⟩, ld1⟩
    | true =>
      obtain ⟨h1, m1_, f1_, ld1⟩ := mulY1 (v1_ := Int32.ofNat p_) (v2 := Int32.ofNat t_) (v3 := Int32.ofNat v_) (v5 := Int32.ofNat m_) S_ M_.1 (by omega)
      rw [i32s, i32s] at ld1
      rw [← eg]
      exact ⟨h1, _, ⟨m1_, f1_⟩, Or.inr ⟨_, _, rfl⟩, ld1⟩
  | succ n_ ih_ =>
    intro m_ g_ h_ hm_ S_ M_ eg
    have lm : m_ < L_.length := by omega
    have im := i32n (i_ := m_) (by omega)
    have iL := i32n (i_ := L_.length) (by omega)
    cases g_ with
    | true =>
      obtain ⟨h1, m1_, f1_, ld1⟩ := mulZ (v1_ := Int32.ofNat p_) (v2 := Int32.ofNat t_) (v3 := Int32.ofNat v_) (v5 := Int32.ofNat m_) S_ M_.1 (by omega)
      rw [i32s, i32s] at ld1
      have eh : hasF L_ p_ v_ = true := by
        obtain ⟨r_, a_, b_⟩ := has_i.mp eg.symm
        exact has_i.mpr ⟨r_, List.mem_of_mem_take a_, b_⟩
      rw [eh]
      exact ⟨h1, _, ⟨m1_, f1_⟩, Or.inr ⟨_, _, rfl⟩, ld1⟩
    | false =>
      have hr := gD_at lm
      obtain ⟨z0, z1, z2⟩ := M_.2 m_ _ hr
      generalize L_.getD m_ [] = r_ at hr z0 z1 z2
      have x0_ := ixm0 (m_ := m_) (by omega)
      have x2_ := ixm2 (m_ := m_) (p_ := p_) (by omega) hp
      have ip := i32n (i_ := p_) (by omega)
      have ir := i32n (i_ := r_.length) (by omega)
      by_cases gp : p_ < r_.length
      · have ex_ : r_[p_]? = some (r_.getD p_ 0) := getD_a gp
        have ex2_ := z2 p_ _ ex_
        by_cases gx : r_.getD p_ 0 = Int32.ofNat v_
        · obtain ⟨h1, m1_, f1_, ld1⟩ := mulT1 (v1_ := Int32.ofNat p_) (v2 := Int32.ofNat t_) (v3 := Int32.ofNat v_) (v5 := Int32.ofNat m_) S_ M_.1 (by rw [x0_, Int.toNat_natCast]; exact z1) (by rw [x2_, Int.toNat_natCast]; exact ex2_) ⟨by omega, by omega⟩ ⟨by omega, by omega⟩ gx (by omega) (by omega)
          rw [i32s] at ld1
          obtain ⟨h2, lo2, ⟨m2_, f2_⟩, H2_, ld2⟩ := ih_ (m_ + 1) true h1 (by omega) m1_.1 (meM_k M_ (fun c_ j_ _ => f1_ c_ j_)) (by rw [has_t hr, ← eg, ex_, gx, decide_eq_true rfl]; rfl)
          exact ⟨h2, lo2, ⟨ysm_tr m1_ m2_, fun c_ j_ => (f2_ c_ j_).trans (f1_ c_ j_)⟩, H2_, fun D_ hD oo z_ => ld1 D_ hD oo (ld2 D_ hD oo z_)⟩
        · obtain ⟨h1, m1_, f1_, ld1⟩ := mulT0 (v1_ := Int32.ofNat p_) (v2 := Int32.ofNat t_) (v3 := Int32.ofNat v_) (v5 := Int32.ofNat m_) S_ M_.1 (by rw [x0_, Int.toNat_natCast]; exact z1) (by rw [x2_, Int.toNat_natCast]; exact ex2_) ⟨by omega, by omega⟩ ⟨by omega, by omega⟩ gx (by omega) (by omega)
          rw [i32s] at ld1
          obtain ⟨h2, lo2, ⟨m2_, f2_⟩, H2_, ld2⟩ := ih_ (m_ + 1) false h1 (by omega) m1_.1 (meM_k M_ (fun c_ j_ _ => f1_ c_ j_)) (by rw [has_t hr, ← eg, ex_, decide_eq_false (fun q_ => gx (Option.some.inj q_))]; rfl)
          exact ⟨h2, lo2, ⟨ysm_tr m1_ m2_, fun c_ j_ => (f2_ c_ j_).trans (f1_ c_ j_)⟩, H2_, fun D_ hD oo z_ => ld1 D_ hD oo (ld2 D_ hD oo z_)⟩
      · obtain ⟨h1, m1_, f1_, ld1⟩ := mulS (v1_ := Int32.ofNat p_) (v2 := Int32.ofNat t_) (v3 := Int32.ofNat v_) (v5 := Int32.ofNat m_) S_ M_.1 (by rw [x0_, Int.toNat_natCast]; exact z1) ⟨by omega, by omega⟩ (by omega) (by omega)
        rw [i32s] at ld1
        have en : r_[p_]? = none := List.getElem?_eq_none (by omega)
        obtain ⟨h2, lo2, ⟨m2_, f2_⟩, H2_, ld2⟩ := ih_ (m_ + 1) false h1 (by omega) m1_.1 (meM_k M_ (fun c_ j_ _ => f1_ c_ j_)) (by rw [has_t hr, ← eg, en]; rfl)
        exact ⟨h2, lo2, ⟨ysm_tr m1_ m2_, fun c_ j_ => (f2_ c_ j_).trans (f1_ c_ j_)⟩, H2_, fun D_ hD oo z_ => ld1 D_ hD oo (ld2 D_ hD oo z_)⟩
/-- unlikeIn -/
theorem uo_lp {p_ : Nat} {L_ : List (List Int32)} (hL : L_.length ≤ 73) (hp : p_ < 12) : ∀ (n_ v_ : Nat) (h_ : xH) (lo_ : xL), v_ + n_ = 100 → sHp h_ → meM L_ h_ → hdQn p_ v_ (cfF (hasF L_ p_) v_) lo_ → ∃ h', (ysm h_ h' ∧ ∀ c_ j_, bpat h' c_ j_ = bpat h_ c_ j_) ∧ ∀ D_, 60 ≤ D_ → xrun D_ 198 4 lo_ [] h_ (some (.int (Int32.ofNat (unF L_ p_))), h', []) := by
  intro n_
  have z100 : (100 : Int32).toInt = 100 := rfl
  induction n_ with
  | zero =>
    intro v_ h_ lo_ hv S_ M_ H_
    have ev_ : v_ = 100 := by omega
    have iv_ := i32n (i_ := v_) (by omega)
    have eu : unF L_ p_ = cfF (hasF L_ p_) v_ := by rw [ev_]; rfl
    rw [eu]
    rcases H_ with rfl | ⟨y5, y4, rfl⟩
    · obtain ⟨h1, m1_, f1_, r1_⟩ := mulXA (v1_ := Int32.ofNat p_) (v2 := Int32.ofNat (cfF (hasF L_ p_) v_)) (v3 := Int32.ofNat v_) S_ (by omega)
      exact ⟨h1, ⟨m1_, f1_⟩, r1_⟩
    · obtain ⟨h1, m1_, f1_, r1_⟩ := mulXB (v1_ := Int32.ofNat p_) (v2 := Int32.ofNat (cfF (hasF L_ p_) v_)) (v3 := Int32.ofNat v_) (v4_ := y4) (v5 := y5) S_ (by omega)
      exact ⟨h1, ⟨m1_, f1_⟩, r1_⟩
  | succ n_ ih_ =>
    intro v_ h_ lo_ hv S_ M_ H_
    have iv_ := i32n (i_ := v_) (by omega)
    have hd_ : ∃ h1, (ysm h_ h1 ∧ ∀ c_ j_, bpat h1 c_ j_ = bpat h_ c_ j_) ∧ bldD 60 198 4 lo_ [] h_ 16 [(5, .int (Int32.ofNat 0)), (4, .int (bI false)), (3, .int (Int32.ofNat v_)), (2, .int (Int32.ofNat (cfF (hasF L_ p_) v_))), (0, .index 338), (1, .int (Int32.ofNat p_))] [] h1 := by
      rcases H_ with rfl | ⟨y5, y4, rfl⟩
      · obtain ⟨h1, m1_, f1_, ld1⟩ := mulOA (v1_ := Int32.ofNat p_) (v2 := Int32.ofNat (cfF (hasF L_ p_) v_)) (v3 := Int32.ofNat v_) S_ (by omega)
        exact ⟨h1, ⟨m1_, f1_⟩, ld1⟩
      · obtain ⟨h1, m1_, f1_, ld1⟩ := mulOB (v1_ := Int32.ofNat p_) (v2 := Int32.ofNat (cfF (hasF L_ p_) v_)) (v3 := Int32.ofNat v_) (v4_ := y4) (v5 := y5) S_ (by omega)
        exact ⟨h1, ⟨m1_, f1_⟩, ld1⟩
    obtain ⟨h1, ⟨m1_, f1_⟩, ld1⟩ := hd_
    obtain ⟨h2, lo2, ⟨m2_, f2_⟩, H2_, ld2⟩ := um_lp (p_ := p_) (v_ := v_) (t_ := cfF (hasF L_ p_) v_) hL hp L_.length 0 false h1 (by omega) m1_.1 (meM_k M_ (fun c_ j_ _ => f1_ c_ j_)) rfl
    obtain ⟨h3, ⟨m3_, f3_⟩, r3⟩ := ih_ (v_ + 1) h2 lo2 (by omega) m2_.1 (meM_k M_ (fun c_ j_ _ => (f2_ c_ j_).trans (f1_ c_ j_))) H2_
    exact ⟨h3, ⟨ysm_tr m1_ (ysm_tr m2_ m3_), fun c_ j_ => (f3_ c_ j_).trans ((f2_ c_ j_).trans (f1_ c_ j_))⟩, fun D_ hD => ld1 D_ hD _ (ld2 D_ hD _ (r3 D_ hD))⟩
theorem uiM {p_ : Nat} {L_ : List (List Int32)} {h_ : xH} (hL : L_.length ≤ 73) (hp : p_ < 12) (S_ : sHp h_) (M_ : meM L_ h_) : ∃ h', (ysm h_ h' ∧ ∀ c_ j_, bpat h' c_ j_ = bpat h_ c_ j_) ∧ ∀ D_, 60 ≤ D_ → xrun D_ 198 0 [(0, .index 338), (1, .int (Int32.ofNat p_))] [] h_ (some (.int (Int32.ofNat (unF L_ p_))), h', []) := by
  obtain ⟨h1, m1_, f1_, ld1⟩ := mulE (v1_ := Int32.ofNat p_) S_
  obtain ⟨h2, ⟨m2_, f2_⟩, r2⟩ := uo_lp hL hp 100 0 h1 _ (by omega) m1_.1 (meM_k M_ (fun c_ j_ _ => f1_ c_ j_)) (Or.inl rfl)
  exact ⟨h2, ⟨ysm_tr m1_ m2_, fun c_ j_ => (f2_ c_ j_).trans (f1_ c_ j_)⟩, fun D_ hD => ld1 D_ hD _ (r2 D_ hD)⟩
theorem pq_lp {L_ : List (List Int32)} {x1_ x2_ x3 : Int32} (hL : L_.length ≤ 73) : ∀ (n_ p_ b_ : Nat) (h_ : xH), p_ + n_ = 12 → b_ < 12 → sHp h_ → meM L_ h_ → ∃ h', (ysm h_ h' ∧ ∀ c_ j_, bpat h' c_ j_ = bpat h_ c_ j_) ∧ bldD 62 199 44 [(5, .int (Int32.ofNat p_)), (4, .int (Int32.ofNat b_)), (0, .index 338), (1, .int x1_), (2, .int x2_), (3, .int x3)] [] h_ 81 [(5, .int 12), (4, .int (Int32.ofNat (pmF (unF L_) n_ p_ b_))), (0, .index 338), (1, .int x1_), (2, .int x2_), (3, .int x3)] [] h' := by
  intro n_
  have z12 : (12 : Int32).toInt = 12 := rfl
  induction n_ with
  | zero =>
    intro p_ b_ h_ hp hb_ S_ M_
    have ep : p_ = 12 := by omega
    subst ep
    obtain ⟨h1, m1_, f1_, ld1⟩ := mplX (v1_ := x1_) (v2 := x2_) (v3 := x3) (v4_ := Int32.ofNat b_) (v5 := 12) S_ (by decide)
    exact ⟨h1, ⟨m1_, f1_⟩, fun D_ hD => ld1 D_ (by omega)⟩
  | succ n_ ih_ =>
    intro p_ b_ h_ hp hb_ S_ M_
    have ip := i32n (i_ := p_) (by omega)
    obtain ⟨h1, m1_, f1_, ld1⟩ := mplT (v1_ := x1_) (v2 := x2_) (v3 := x3) (v4_ := Int32.ofNat b_) (v5 := Int32.ofNat p_) S_ (by omega)
    obtain ⟨h2, ⟨m2_, f2_⟩, r2⟩ := uiM (p_ := p_) hL (by omega) m1_.1 (meM_k M_ (fun c_ j_ _ => f1_ c_ j_))
    have ld2 := ycv (d_ := 60) (mi := 199) (pc := 54) (cm := 198) (lo_ := [(5, .int (Int32.ofNat p_)), (4, .int (Int32.ofNat b_)), (0, .index 338), (1, .int x1_), (2, .int x2_), (3, .int x3)]) (st_ := [.int (Int32.ofNat p_), .index 338]) (as_ := [.int (Int32.ofNat p_)]) (s' := []) rfl rfl (bcq_of (n_ := 338) (z_ := (12, 26)) m1_.1 rfl) rfl (xcc_l (List.forall_mem_cons.mpr ⟨rfl, List.forall_mem_cons.mpr ⟨rfl, List.forall_mem_cons.mpr ⟨xidx_i (bcq_lt (bcq_of (n_ := 338) (z_ := (12, 26)) m1_.1 rfl)), List.forall_mem_cons.mpr ⟨rfl, List.forall_mem_cons.mpr ⟨rfl, List.forall_mem_cons.mpr ⟨rfl, fun q_ hq => absurd hq List.not_mem_nil⟩⟩⟩⟩⟩⟩) (fun t_ ht => absurd ht List.not_mem_nil) (Nat.le_of_ble_eq_true rfl)) r2
    obtain ⟨h3, m3_, f3_, ld3⟩ := mplU (v1_ := x1_) (v2 := x2_) (v3 := x3) (v4_ := Int32.ofNat b_) (v5 := Int32.ofNat p_) (v8 := Int32.ofNat (unF L_ p_)) m2_.1
    have M3_ := meM_k M_ (fun c_ j_ _ => (f3_ c_ j_).trans ((f2_ c_ j_).trans (f1_ c_ j_)))
    obtain ⟨h4, ⟨m4_, f4_⟩, r4⟩ := uiM (p_ := b_) hL hb_ m3_.1 M3_
    have ld4 := ycv (d_ := 60) (mi := 199) (pc := 60) (cm := 198) (lo_ := [(5, .int (Int32.ofNat p_)), (4, .int (Int32.ofNat b_)), (0, .index 338), (1, .int x1_), (2, .int x2_), (3, .int x3)]) (st_ := [.int (Int32.ofNat b_), .index 338, .int (Int32.ofNat (unF L_ p_))]) (as_ := [.int (Int32.ofNat b_)]) (s' := [.int (Int32.ofNat (unF L_ p_))]) rfl rfl (bcq_of (n_ := 338) (z_ := (12, 26)) m3_.1 rfl) rfl (xcc_l (List.forall_mem_cons.mpr ⟨rfl, List.forall_mem_cons.mpr ⟨rfl, List.forall_mem_cons.mpr ⟨xidx_i (bcq_lt (bcq_of (n_ := 338) (z_ := (12, 26)) m3_.1 rfl)), List.forall_mem_cons.mpr ⟨rfl, List.forall_mem_cons.mpr ⟨rfl, List.forall_mem_cons.mpr ⟨rfl, fun q_ hq => absurd hq List.not_mem_nil⟩⟩⟩⟩⟩⟩) (fun t_ ht => by rw [List.mem_singleton.mp ht]; exact ⟨rfl, rfl⟩) (Nat.le_of_ble_eq_true rfl)) r4
    have M4_ := meM_k M3_ (fun c_ j_ _ => f4_ c_ j_)
    have iu := i32n (i_ := unF L_ p_) (Nat.lt_of_le_of_lt unF_le (by omega))
    have ib := i32n (i_ := unF L_ b_) (Nat.lt_of_le_of_lt unF_le (by omega))
    show ∃ h', (ysm h_ h' ∧ ∀ c_ j_, bpat h' c_ j_ = bpat h_ c_ j_) ∧ bldD 62 199 44 [(5, .int (Int32.ofNat p_)), (4, .int (Int32.ofNat b_)), (0, .index 338), (1, .int x1_), (2, .int x2_), (3, .int x3)] [] h_ 81 [(5, .int 12), (4, .int (Int32.ofNat (pmF (unF L_) n_ (p_ + 1) (if unF L_ b_ < unF L_ p_ then p_ else b_)))), (0, .index 338), (1, .int x1_), (2, .int x2_), (3, .int x3)] [] h'
    by_cases g_ : unF L_ b_ < unF L_ p_
    · rw [if_pos g_]
      obtain ⟨h5, m5_, f5_, ld5⟩ := mplV (v1_ := x1_) (v2 := x2_) (v3 := x3) (v4_ := Int32.ofNat b_) (v5 := Int32.ofNat p_) (v8 := Int32.ofNat (unF L_ p_)) (v9 := Int32.ofNat (unF L_ b_)) m4_.1 (by omega)
      rw [i32s] at ld5
      obtain ⟨h6, ⟨m6_, f6_⟩, ld6⟩ := ih_ (p_ + 1) p_ h5 (by omega) (by omega) m5_.1 (meM_k M4_ (fun c_ j_ _ => f5_ c_ j_))
      exact ⟨h6, ⟨ysm_tr m1_ (ysm_tr m2_ (ysm_tr m3_ (ysm_tr m4_ (ysm_tr m5_ m6_)))), fun c_ j_ => (f6_ c_ j_).trans ((f5_ c_ j_).trans ((f4_ c_ j_).trans ((f3_ c_ j_).trans ((f2_ c_ j_).trans (f1_ c_ j_)))))⟩, fun D_ hD oo z_ => ld1 D_ (by omega) oo (ld2 D_ (by omega) oo (ld3 D_ (by omega) oo (ld4 D_ (by omega) oo (ld5 D_ (by omega) oo (ld6 D_ hD oo z_)))))⟩
    · rw [if_neg g_]
      obtain ⟨h5, m5_, f5_, ld5⟩ := mplW (v1_ := x1_) (v2 := x2_) (v3 := x3) (v4_ := Int32.ofNat b_) (v5 := Int32.ofNat p_) (v8 := Int32.ofNat (unF L_ p_)) (v9 := Int32.ofNat (unF L_ b_)) m4_.1 (by omega)
      rw [i32s] at ld5
      obtain ⟨h6, ⟨m6_, f6_⟩, ld6⟩ := ih_ (p_ + 1) b_ h5 (by omega) hb_ m5_.1 (meM_k M4_ (fun c_ j_ _ => f5_ c_ j_))
      exact ⟨h6, ⟨ysm_tr m1_ (ysm_tr m2_ (ysm_tr m3_ (ysm_tr m4_ (ysm_tr m5_ m6_)))), fun c_ j_ => (f6_ c_ j_).trans ((f5_ c_ j_).trans ((f4_ c_ j_).trans ((f3_ c_ j_).trans ((f2_ c_ j_).trans (f1_ c_ j_)))))⟩, fun D_ hD oo z_ => ld1 D_ (by omega) oo (ld2 D_ (by omega) oo (ld3 D_ (by omega) oo (ld4 D_ (by omega) oo (ld5 D_ (by omega) oo (ld6 D_ hD oo z_)))))⟩
theorem m_place {W_ : Nat → List Int32} {V : Nat → Int32} {h_ : xH} {z_ k_ q_ : Int32} (B_ : bInv bZ bIj h_) (K_ : okS W_ V) (H_ : SM W_ V h_) : ∃ h', ysm h_ h' ∧ (SM (placeF W_ V z_ k_ q_).1 (placeF W_ V z_ k_ q_).2.1 h' ∧ ∀ D_, 76 ≤ D_ → xrun D_ 199 0 [(0, .index 338), (1, .int z_), (2, .int k_), (3, .int q_)] [] h_ (some (.int (placeF W_ V z_ k_ q_).2.2), h', [])) := by
  obtain ⟨y_, oy⟩ := merr (k_ := 1) B_ (by omega)
  have zz := z0_
  have z1 : (1 : Int32).toInt = 1 := rfl
  have z2 : (2 : Int32).toInt = 2 := rfl
  have kN_ := okN K_
  have n1_ := i32j (V 0) kN_.1 (by omega)
  have hz := m339 B_
  unfold placeF
  obtain ⟨h0, m0_, e_⟩ := mplE (v1_ := z_) (v2 := k_) (v3 := q_) H_.1 (mNc H_) oy
  rcases e_ with ⟨g1, g2, g3_, g4, g5_, g6, f_, r_⟩ | ⟨g1, w0_, f_, r_⟩ | ⟨g1, g2, w0_, f_, r_⟩ | ⟨g1, g2, g3_, w0_, f_, r_⟩ | ⟨g1, g2, g3_, g4, w0_, f_, r_⟩ | ⟨g1, g2, g3_, g4, g5_, w0_, f_, r_⟩ | ⟨g1, g2, g3_, g4, g5_, g6, w0_, f_, r_⟩
  rotate_left
  · rw [if_neg (fun q_ => by omega)]; exact ⟨h0, m0_, SM_e H_ m0_ f_, fun D_ hD => r_ D_ (by omega)⟩
  · rw [if_neg (fun q_ => by omega)]; exact ⟨h0, m0_, SM_e H_ m0_ f_, fun D_ hD => r_ D_ (by omega)⟩
  · rw [if_neg (fun q_ => by omega)]; exact ⟨h0, m0_, SM_e H_ m0_ f_, fun D_ hD => r_ D_ (by omega)⟩
  · rw [if_neg (fun q_ => by omega)]; exact ⟨h0, m0_, SM_e H_ m0_ f_, fun D_ hD => r_ D_ (by omega)⟩
  · rw [if_neg (fun q_ => by omega)]; exact ⟨h0, m0_, SM_e H_ m0_ f_, fun D_ hD => r_ D_ (by omega)⟩
  · rw [if_neg (fun q_ => by omega)]; exact ⟨h0, m0_, SM_e H_ m0_ f_, fun D_ hD => r_ D_ (by omega)⟩
  have H0 := SM_fr H_ m0_ (fun c_ j_ _ => f_ c_ j_)
  obtain ⟨c_, hc_, hN_, rfl, ec⟩ := isC_n (z_ := z_) K_ ⟨by omega, by omega⟩
  have k2_ : k_.toInt.toNat ≤ 2 := by omega
  have n8 := (nR_le K_).1
  rw [if_pos ⟨⟨⟨by omega, by omega⟩, by omega, by omega⟩, by omega, by omega⟩, ec, has_m (fun y_ => mea_m n8 k2_)]
  obtain ⟨h1, ⟨H1_, m1_⟩, M1_, r1_⟩ := fmM K_ hc_ k_ ⟨by omega, by omega⟩ H0 (fun j_ hj => by rw [f_]; exact hz j_ hj)
  have l73 : (meaM W_ V (W_ c_) k_.toInt.toNat).length ≤ 73 := by rw [← mea_l n8 k2_]; exact mea_73 n8 k2_
  generalize meaM W_ V (W_ c_) k_.toInt.toNat = L_ at M1_ l73
  have ld1 := ycv (d_ := 72) (mi := 199) (pc := 35) (cm := 196) (lo_ := [(0, .index 338), (1, .int (Int32.ofNat c_)), (2, .int k_), (3, .int q_)]) (st_ := [.int k_, .int (Int32.ofNat c_), .index 338]) (as_ := [.int (Int32.ofNat c_), .int k_]) (s' := []) rfl rfl (bcq_of (n_ := 338) (z_ := (12, 26)) H0.1 rfl) rfl (xcc_l (List.forall_mem_cons.mpr ⟨xidx_i (bcq_lt (bcq_of (n_ := 338) (z_ := (12, 26)) H0.1 rfl)), List.forall_mem_cons.mpr ⟨rfl, List.forall_mem_cons.mpr ⟨rfl, List.forall_mem_cons.mpr ⟨rfl, fun q_ hq => absurd hq List.not_mem_nil⟩⟩⟩⟩) (fun t_ ht => absurd ht List.not_mem_nil) (Nat.le_of_ble_eq_true rfl)) r1_
  obtain ⟨h2, m2_, f2_, ld2⟩ := mplA (v1_ := Int32.ofNat c_) (v2 := k_) (v3 := q_) H1_.1
  have M2_ := meM_k M1_ (fun c_ j_ _ => f2_ c_ j_)
  obtain ⟨h3, ⟨m3_, f3_⟩, ld3⟩ := pq_lp (x1_ := Int32.ofNat c_) (x2_ := k_) (x3 := q_) l73 11 1 0 h2 (by omega) (by omega) m2_.1 M2_
  have H3 := SM_fr (SM_fr H1_ m2_ (fun c_ j_ _ => f2_ c_ j_)) m3_ (fun c_ j_ _ => f3_ c_ j_)
  have M3_ := meM_k M2_ (fun c_ j_ _ => f3_ c_ j_)
  have pl : pmF (unF L_) 11 1 0 < 12 := pmF_l 11 1 0 (by omega)
  have m03 := ysm_tr m0_ (ysm_tr m1_ (ysm_tr m2_ m3_))
  by_cases g_ : q_.toInt = 0
  · rw [if_pos g_]
    have eq_ : q_ = 0 := Int32.toInt_inj.mp (by rw [g_]; rfl)
    subst eq_
    obtain ⟨h4, m4_, f4_, r4⟩ := mplR0 (v1_ := Int32.ofNat c_) (v2 := k_) (v5 := 12) (v4_ := Int32.ofNat (pmF (unF L_) 11 1 0)) H3.1
    exact ⟨h4, ysm_tr m03 m4_, SM_fr H3 m4_ (fun c_ j_ _ => f4_ c_ j_), fun D_ hD => r_ D_ (by omega) _ (ld1 D_ (by omega) _ (ld2 D_ (by omega) _ (ld3 D_ (by omega) _ (r4 D_ (by omega)))))⟩
  · rw [if_neg g_]
    have eq_ : q_ = 1 := Int32.toInt_inj.mp (by rw [z1]; omega)
    subst eq_
    obtain ⟨h4, m4_, f4_, ld4⟩ := mplK (v1_ := Int32.ofNat c_) (v2 := k_) (v5 := 12) (v4_ := Int32.ofNat (pmF (unF L_) 11 1 0)) H3.1
    obtain ⟨h5, ⟨m5_, f5_⟩, r5_⟩ := uiM (p_ := pmF (unF L_) 11 1 0) l73 pl m4_.1 (meM_k M3_ (fun c_ j_ _ => f4_ c_ j_))
    have ld5 := ycv (d_ := 60) (mi := 199) (pc := 93) (cm := 198) (lo_ := [(5, .int 12), (4, .int (Int32.ofNat (pmF (unF L_) 11 1 0))), (0, .index 338), (1, .int (Int32.ofNat c_)), (2, .int k_), (3, .int 1)]) (st_ := [.int (Int32.ofNat (pmF (unF L_) 11 1 0)), .index 338]) (as_ := [.int (Int32.ofNat (pmF (unF L_) 11 1 0))]) (s' := []) rfl rfl (bcq_of (n_ := 338) (z_ := (12, 26)) m4_.1 rfl) rfl (xcc_l (List.forall_mem_cons.mpr ⟨rfl, List.forall_mem_cons.mpr ⟨rfl, List.forall_mem_cons.mpr ⟨xidx_i (bcq_lt (bcq_of (n_ := 338) (z_ := (12, 26)) m4_.1 rfl)), List.forall_mem_cons.mpr ⟨rfl, List.forall_mem_cons.mpr ⟨rfl, List.forall_mem_cons.mpr ⟨rfl, fun q_ hq => absurd hq List.not_mem_nil⟩⟩⟩⟩⟩⟩) (fun t_ ht => absurd ht List.not_mem_nil) (Nat.le_of_ble_eq_true rfl)) r5_
    obtain ⟨h6, m6_, f6_, r6⟩ := mplR1 (v1_ := Int32.ofNat c_) (v2 := k_) (v5 := 12) (v4_ := Int32.ofNat (pmF (unF L_) 11 1 0)) (v8 := Int32.ofNat (unF L_ (pmF (unF L_) 11 1 0))) m5_.1
    exact ⟨h6, ysm_tr m03 (ysm_tr m4_ (ysm_tr m5_ m6_)), SM_fr (SM_fr (SM_fr H3 m4_ (fun c_ j_ _ => f4_ c_ j_)) m5_ (fun c_ j_ _ => f5_ c_ j_)) m6_ (fun c_ j_ _ => f6_ c_ j_), fun D_ hD => r_ D_ (by omega) _ (ld1 D_ (by omega) _ (ld2 D_ (by omega) _ (ld3 D_ (by omega) _ (ld4 D_ (by omega) _ (ld5 D_ (by omega) _ (r6 D_ (by omega)))))))⟩
