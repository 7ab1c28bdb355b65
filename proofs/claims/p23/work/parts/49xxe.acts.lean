-- ===== safe
-- xrmE: 4 steps, 1 ends, 0 returns
def xrmE_L : List (Nat × Nat × Nat) := [(1000, 6, 2), (1002, 6, 2)]
def xrmE_O : yO := []
def xrmE_A : yA := (yZ xrmE_L, [], [], [], [])
def xrmE_C : List xB := []
def xrmE_ss : List yS := [(5, [(4, .int 0), (3, .int 0), (0, .index 0), (1, .index 1000), (2, .index 1002)], [], [], [], [])]
def xrmE_rs : List yR := []
theorem xrmE_w : ywa xrmE_A xrmE_ss xrmE_rs = true := by decide +kernel
theorem xrmE_k : yis (yev xrmE_A 3000 60 128 [5] (0, [(0, .index 0), (1, .index 1000), (2, .index 1002)], [], xrmE_O, xrmE_C, [])) xrmE_ss xrmE_rs = true := by decide +kernel
def xrmE_r (k_ : Nat) : Value := .int 0
def xrmE_s (a1000 a1002 : Nat) (n_ : Nat) : Nat := bif Nat.beq n_ 1000 then a1000 else (bif Nat.beq n_ 1002 then a1002 else (0))
theorem xrmE {h_ : xH} {a1000 a1002 : Nat} (hs : sHp h_) (k1000 : bcq h_ a1000 6 2) (k1002 : bcq h_ a1002 6 2) : ∃ h', ysm h_ h' ∧ (((∀ a_ j_ : Nat, bpat h' a_ j_ = bpat h_ a_ j_) ∧ (bldD 60 128 0 [(0, .index 0), (1, .index a1000), (2, .index a1002)] [] h_ 5 [(4, .int (0 : Int32)), (3, .int (0 : Int32)), (0, .index 0), (1, .index a1000), (2, .index a1002)] [] h'))) := by
  have hA : yas xrmE_A xrmE_r (yg (xrmE_s a1000 a1002)) := ⟨fun q_ hq => absurd hq List.not_mem_nil, fun q_ hq => absurd hq List.not_mem_nil, fun q_ hq => absurd hq List.not_mem_nil, fun n_ hn => yg_lo hn, fun q_ hq => absurd hq List.not_mem_nil⟩
  have Hs : ysh xrmE_A.1 (yg (xrmE_s a1000 a1002)) h_ := ysh_of2 hs (List.forall_mem_cons.mpr ⟨⟨by decide, k1000⟩, List.forall_mem_cons.mpr ⟨⟨by decide, k1002⟩, fun q_ hq => absurd hq List.not_mem_nil⟩⟩)
  have Ho : ymem xrmE_r (yg (xrmE_s a1000 a1002)) xrmE_O h_ := fun q_ hq => absurd hq List.not_mem_nil
  have HC : ∀ q_ ∈ xrmE_C, xhold xrmE_r q_ := fun q_ hq => absurd hq List.not_mem_nil
  rcases yrun (yis_ok xrmE_k) hA Hs Ho HC with ⟨q_, hq, h', K_, G_⟩ | ⟨q_, hq, h', K_, G_⟩
  · have e_ := List.mem_singleton.mp hq
    subst e_
    exact ⟨h', yfr_sm K_.2.2.2 hs K_.1 (ywa_s xrmE_w List.mem_cons_self), ⟨fun a_ j_ => yfr_bp K_.2.2.2 (fun q_ hq => absurd hq List.not_mem_nil), G_⟩⟩
  · cases hq
-- xrmT: 8 steps, 1 ends, 0 returns
def xrmT_L : List (Nat × Nat × Nat) := [(1000, 6, 2), (1002, 6, 2)]
def xrmT_O : yO := [(0, .int 0, .index 1), (1, .int 10, .arg 300), (0, .int 10, .index 318)]
def xrmT_A : yA := (yZ xrmT_L, [], [], [], [])
def xrmT_C : List xB := [(.lt, .arg 4, .arg 300, true)]
def xrmT_ss : List yS := [(22, [(4, .arg 4), (3, .arg 3), (0, .index 0), (1, .index 1000), (2, .index 1002)], [.index 1002, .index 318], [(0, .int 0, .index 1), (1, .int 10, .arg 300), (0, .int 10, .index 318)], [(.lt, .arg 4, .arg 300, true)], [])]
def xrmT_rs : List yR := []
theorem xrmT_w : ywa xrmT_A xrmT_ss xrmT_rs = true := by decide +kernel
theorem xrmT_k : yis (yev xrmT_A 3000 60 128 [22] (5, [(4, .arg 4), (3, .arg 3), (0, .index 0), (1, .index 1000), (2, .index 1002)], [], xrmT_O, xrmT_C, [])) xrmT_ss xrmT_rs = true := by decide +kernel
def xrmT_r (v3 v4_ v300 : Int32) (k_ : Nat) : Value := bif Nat.beq k_ 3 then .int v3 else (bif Nat.beq k_ 4 then .int v4_ else (bif Nat.beq k_ 300 then .int v300 else (.int 0)))
def xrmT_s (a1000 a1002 : Nat) (n_ : Nat) : Nat := bif Nat.beq n_ 1000 then a1000 else (bif Nat.beq n_ 1002 then a1002 else (0))
theorem xrmT {h_ : xH} {a1000 a1002 : Nat} {v3 v4_ v300 : Int32} (hs : sHp h_) (k1000 : bcq h_ a1000 6 2) (k1002 : bcq h_ a1002 6 2) (o0_ : bpat h_ 1 10 = some (.int v300)) (c0_ : v4_.toInt < v300.toInt) : ∃ h', ysm h_ h' ∧ (((∀ a_ j_ : Nat, bpat h' a_ j_ = bpat h_ a_ j_) ∧ (bldD 60 128 5 [(4, .int v4_), (3, .int v3), (0, .index 0), (1, .index a1000), (2, .index a1002)] [] h_ 22 [(4, .int v4_), (3, .int v3), (0, .index 0), (1, .index a1000), (2, .index a1002)] [.index a1002, .index 318] h'))) := by
  have hA : yas xrmT_A (xrmT_r v3 v4_ v300) (yg (xrmT_s a1000 a1002)) := ⟨fun q_ hq => absurd hq List.not_mem_nil, fun q_ hq => absurd hq List.not_mem_nil, fun q_ hq => absurd hq List.not_mem_nil, fun n_ hn => yg_lo hn, fun q_ hq => absurd hq List.not_mem_nil⟩
  have Hs : ysh xrmT_A.1 (yg (xrmT_s a1000 a1002)) h_ := ysh_of2 hs (List.forall_mem_cons.mpr ⟨⟨by decide, k1000⟩, List.forall_mem_cons.mpr ⟨⟨by decide, k1002⟩, fun q_ hq => absurd hq List.not_mem_nil⟩⟩)
  have Ho : ymem (xrmT_r v3 v4_ v300) (yg (xrmT_s a1000 a1002)) xrmT_O h_ := List.forall_mem_cons.mpr ⟨bpat_some (fxr_at hs.2 (show fxk fxl 0 0 = some 1 by decide +kernel)), List.forall_mem_cons.mpr ⟨bpat_some o0_, List.forall_mem_cons.mpr ⟨bpat_some (fxr_at hs.2 (show fxk fxl 0 10 = some 318 by decide +kernel)), fun q_ hq => absurd hq List.not_mem_nil⟩⟩⟩
  have HC : ∀ q_ ∈ xrmT_C, xhold (xrmT_r v3 v4_ v300) q_ := List.forall_mem_cons.mpr ⟨xh_ltT c0_, fun q_ hq => absurd hq List.not_mem_nil⟩
  rcases yrun (yis_ok xrmT_k) hA Hs Ho HC with ⟨q_, hq, h', K_, G_⟩ | ⟨q_, hq, h', K_, G_⟩
  · have e_ := List.mem_singleton.mp hq
    subst e_
    exact ⟨h', yfr_sm K_.2.2.2 hs K_.1 (ywa_s xrmT_w List.mem_cons_self), ⟨fun a_ j_ => yfr_bp K_.2.2.2 (fun q_ hq => absurd hq List.not_mem_nil), G_⟩⟩
  · cases hq
-- xrmU: 9 steps, 1 ends, 0 returns
def xrmU_L : List (Nat × Nat × Nat) := [(1000, 6, 2), (1002, 6, 2), (1004, 5, 3)]
def xrmU_O : yO := [(0, .int 0, .index 1), (1, .int 1, .index 3), (3, .arg 4, .index 1004), (0, .int 10, .index 318)]
def xrmU_A : yA := (yZ xrmU_L, [(.arg 4, 8)], [], [], [])
def xrmU_C : List xB := []
def xrmU_ss : List yS := [(43, [(4, .arg 4), (3, .arg 3), (0, .index 0), (1, .index 1000), (2, .index 1002)], [.index 318, .index 1004, .index 1], [(0, .int 0, .index 1), (1, .int 1, .index 3), (3, .arg 4, .index 1004), (0, .int 10, .index 318)], [], [])]
def xrmU_rs : List yR := []
theorem xrmU_w : ywa xrmU_A xrmU_ss xrmU_rs = true := by decide +kernel
theorem xrmU_k : yis (yev xrmU_A 3000 60 128 [43] (25, [(4, .arg 4), (3, .arg 3), (0, .index 0), (1, .index 1000), (2, .index 1002)], [], xrmU_O, xrmU_C, [])) xrmU_ss xrmU_rs = true := by decide +kernel
def xrmU_r (v3 v4_ : Int32) (k_ : Nat) : Value := bif Nat.beq k_ 3 then .int v3 else (bif Nat.beq k_ 4 then .int v4_ else (.int 0))
def xrmU_s (a1000 a1002 a1004 : Nat) (n_ : Nat) : Nat := bif Nat.beq n_ 1000 then a1000 else (bif Nat.beq n_ 1002 then a1002 else (bif Nat.beq n_ 1004 then a1004 else (0)))
theorem xrmU {h_ : xH} {a1000 a1002 a1004 : Nat} {v3 v4_ : Int32} (hs : sHp h_) (k1000 : bcq h_ a1000 6 2) (k1002 : bcq h_ a1002 6 2) (k1004 : bcq h_ a1004 5 3) (o0_ : bpat h_ 3 (v4_).toInt.toNat = some (.index a1004)) (b0 : 0 ≤ (v4_).toInt ∧ (v4_).toInt < 8) : ∃ h', ysm h_ h' ∧ (((∀ a_ j_ : Nat, bpat h' a_ j_ = bpat h_ a_ j_) ∧ (bldD 60 128 25 [(4, .int v4_), (3, .int v3), (0, .index 0), (1, .index a1000), (2, .index a1002)] [] h_ 43 [(4, .int v4_), (3, .int v3), (0, .index 0), (1, .index a1000), (2, .index a1002)] [.index 318, .index a1004, .index 1] h'))) := by
  have hA : yas xrmU_A (xrmU_r v3 v4_) (yg (xrmU_s a1000 a1002 a1004)) := ⟨List.forall_mem_cons.mpr ⟨b0, fun q_ hq => absurd hq List.not_mem_nil⟩, fun q_ hq => absurd hq List.not_mem_nil, fun q_ hq => absurd hq List.not_mem_nil, fun n_ hn => yg_lo hn, fun q_ hq => absurd hq List.not_mem_nil⟩
  have Hs : ysh xrmU_A.1 (yg (xrmU_s a1000 a1002 a1004)) h_ := ysh_of2 hs (List.forall_mem_cons.mpr ⟨⟨by decide, k1000⟩, List.forall_mem_cons.mpr ⟨⟨by decide, k1002⟩, List.forall_mem_cons.mpr ⟨⟨by decide, k1004⟩, fun q_ hq => absurd hq List.not_mem_nil⟩⟩⟩)
  have Ho : ymem (xrmU_r v3 v4_) (yg (xrmU_s a1000 a1002 a1004)) xrmU_O h_ := List.forall_mem_cons.mpr ⟨bpat_some (fxr_at hs.2 (show fxk fxl 0 0 = some 1 by decide +kernel)), List.forall_mem_cons.mpr ⟨bpat_some (fxr_at hs.2 (show fxk fxl 1 1 = some 3 by decide +kernel)), List.forall_mem_cons.mpr ⟨bpat_some o0_, List.forall_mem_cons.mpr ⟨bpat_some (fxr_at hs.2 (show fxk fxl 0 10 = some 318 by decide +kernel)), fun q_ hq => absurd hq List.not_mem_nil⟩⟩⟩⟩
  have HC : ∀ q_ ∈ xrmU_C, xhold (xrmU_r v3 v4_) q_ := fun q_ hq => absurd hq List.not_mem_nil
  rcases yrun (yis_ok xrmU_k) hA Hs Ho HC with ⟨q_, hq, h', K_, G_⟩ | ⟨q_, hq, h', K_, G_⟩
  · have e_ := List.mem_singleton.mp hq
    subst e_
    exact ⟨h', yfr_sm K_.2.2.2 hs K_.1 (ywa_s xrmU_w List.mem_cons_self), ⟨fun a_ j_ => yfr_bp K_.2.2.2 (fun q_ hq => absurd hq List.not_mem_nil), G_⟩⟩
  · cases hq
-- xrmV: 3 steps, 1 ends, 0 returns
def xrmV_L : List (Nat × Nat × Nat) := [(1000, 6, 2), (1002, 6, 2)]
def xrmV_O : yO := [(0, .int 10, .index 318)]
def xrmV_A : yA := (yZ xrmV_L, [], [], [], [])
def xrmV_C : List xB := []
def xrmV_ss : List yS := [(51, [(4, .arg 4), (3, .arg 3), (0, .index 0), (1, .index 1000), (2, .index 1002)], [.index 1000, .index 318], [(0, .int 10, .index 318)], [], [])]
def xrmV_rs : List yR := []
theorem xrmV_w : ywa xrmV_A xrmV_ss xrmV_rs = true := by decide +kernel
theorem xrmV_k : yis (yev xrmV_A 3000 60 128 [51] (46, [(4, .arg 4), (3, .arg 3), (0, .index 0), (1, .index 1000), (2, .index 1002)], [], xrmV_O, xrmV_C, [])) xrmV_ss xrmV_rs = true := by decide +kernel
def xrmV_r (v3 v4_ : Int32) (k_ : Nat) : Value := bif Nat.beq k_ 3 then .int v3 else (bif Nat.beq k_ 4 then .int v4_ else (.int 0))
def xrmV_s (a1000 a1002 : Nat) (n_ : Nat) : Nat := bif Nat.beq n_ 1000 then a1000 else (bif Nat.beq n_ 1002 then a1002 else (0))
theorem xrmV {h_ : xH} {a1000 a1002 : Nat} {v3 v4_ : Int32} (hs : sHp h_) (k1000 : bcq h_ a1000 6 2) (k1002 : bcq h_ a1002 6 2) : ∃ h', ysm h_ h' ∧ (((∀ a_ j_ : Nat, bpat h' a_ j_ = bpat h_ a_ j_) ∧ (bldD 60 128 46 [(4, .int v4_), (3, .int v3), (0, .index 0), (1, .index a1000), (2, .index a1002)] [] h_ 51 [(4, .int v4_), (3, .int v3), (0, .index 0), (1, .index a1000), (2, .index a1002)] [.index a1000, .index 318] h'))) := by
  have hA : yas xrmV_A (xrmV_r v3 v4_) (yg (xrmV_s a1000 a1002)) := ⟨fun q_ hq => absurd hq List.not_mem_nil, fun q_ hq => absurd hq List.not_mem_nil, fun q_ hq => absurd hq List.not_mem_nil, fun n_ hn => yg_lo hn, fun q_ hq => absurd hq List.not_mem_nil⟩
  have Hs : ysh xrmV_A.1 (yg (xrmV_s a1000 a1002)) h_ := ysh_of2 hs (List.forall_mem_cons.mpr ⟨⟨by decide, k1000⟩, List.forall_mem_cons.mpr ⟨⟨by decide, k1002⟩, fun q_ hq => absurd hq List.not_mem_nil⟩⟩)
  have Ho : ymem (xrmV_r v3 v4_) (yg (xrmV_s a1000 a1002)) xrmV_O h_ := List.forall_mem_cons.mpr ⟨bpat_some (fxr_at hs.2 (show fxk fxl 0 10 = some 318 by decide +kernel)), fun q_ hq => absurd hq List.not_mem_nil⟩
  have HC : ∀ q_ ∈ xrmV_C, xhold (xrmV_r v3 v4_) q_ := fun q_ hq => absurd hq List.not_mem_nil
  rcases yrun (yis_ok xrmV_k) hA Hs Ho HC with ⟨q_, hq, h', K_, G_⟩ | ⟨q_, hq, h', K_, G_⟩
  · have e_ := List.mem_singleton.mp hq
    subst e_
    exact ⟨h', yfr_sm K_.2.2.2 hs K_.1 (ywa_s xrmV_w List.mem_cons_self), ⟨fun a_ j_ => yfr_bp K_.2.2.2 (fun q_ hq => absurd hq List.not_mem_nil), G_⟩⟩
  · cases hq
-- xrmW0: 3 steps, 1 ends, 0 returns
def xrmW0_L : List (Nat × Nat × Nat) := [(1000, 6, 2), (1002, 6, 2)]
def xrmW0_O : yO := []
def xrmW0_A : yA := (yZ xrmW0_L, [], [], [], [])
def xrmW0_C : List xB := []
def xrmW0_ss : List yS := [(5, [(4, .add (.arg 4) (.int 1)), (3, .arg 3), (0, .index 0), (1, .index 1000), (2, .index 1002)], [], [], [], [])]
def xrmW0_rs : List yR := []
theorem xrmW0_w : ywa xrmW0_A xrmW0_ss xrmW0_rs = true := by decide +kernel
theorem xrmW0_k : yis (yev xrmW0_A 3000 60 128 [5] (54, [(4, .arg 4), (3, .arg 3), (0, .index 0), (1, .index 1000), (2, .index 1002)], [.int 0], xrmW0_O, xrmW0_C, [])) xrmW0_ss xrmW0_rs = true := by decide +kernel
def xrmW0_r (v3 v4_ : Int32) (k_ : Nat) : Value := bif Nat.beq k_ 3 then .int v3 else (bif Nat.beq k_ 4 then .int v4_ else (.int 0))
def xrmW0_s (a1000 a1002 : Nat) (n_ : Nat) : Nat := bif Nat.beq n_ 1000 then a1000 else (bif Nat.beq n_ 1002 then a1002 else (0))
theorem xrmW0 {h_ : xH} {a1000 a1002 : Nat} {v3 v4_ : Int32} (hs : sHp h_) (k1000 : bcq h_ a1000 6 2) (k1002 : bcq h_ a1002 6 2) : ∃ h', ysm h_ h' ∧ (((∀ a_ j_ : Nat, bpat h' a_ j_ = bpat h_ a_ j_) ∧ (bldD 60 128 54 [(4, .int v4_), (3, .int v3), (0, .index 0), (1, .index a1000), (2, .index a1002)] [.int (0 : Int32)] h_ 5 [(4, .int (v4_ + (1 : Int32))), (3, .int v3), (0, .index 0), (1, .index a1000), (2, .index a1002)] [] h'))) := by
  have hA : yas xrmW0_A (xrmW0_r v3 v4_) (yg (xrmW0_s a1000 a1002)) := ⟨fun q_ hq => absurd hq List.not_mem_nil, fun q_ hq => absurd hq List.not_mem_nil, fun q_ hq => absurd hq List.not_mem_nil, fun n_ hn => yg_lo hn, fun q_ hq => absurd hq List.not_mem_nil⟩
  have Hs : ysh xrmW0_A.1 (yg (xrmW0_s a1000 a1002)) h_ := ysh_of2 hs (List.forall_mem_cons.mpr ⟨⟨by decide, k1000⟩, List.forall_mem_cons.mpr ⟨⟨by decide, k1002⟩, fun q_ hq => absurd hq List.not_mem_nil⟩⟩)
  have Ho : ymem (xrmW0_r v3 v4_) (yg (xrmW0_s a1000 a1002)) xrmW0_O h_ := fun q_ hq => absurd hq List.not_mem_nil
  have HC : ∀ q_ ∈ xrmW0_C, xhold (xrmW0_r v3 v4_) q_ := fun q_ hq => absurd hq List.not_mem_nil
  rcases yrun (yis_ok xrmW0_k) hA Hs Ho HC with ⟨q_, hq, h', K_, G_⟩ | ⟨q_, hq, h', K_, G_⟩
  · have e_ := List.mem_singleton.mp hq
    subst e_
    exact ⟨h', yfr_sm K_.2.2.2 hs K_.1 (ywa_s xrmW0_w List.mem_cons_self), ⟨fun a_ j_ => yfr_bp K_.2.2.2 (fun q_ hq => absurd hq List.not_mem_nil), G_⟩⟩
  · cases hq
-- xrmW1: 9 steps, 1 ends, 0 returns
def xrmW1_L : List (Nat × Nat × Nat) := [(1000, 6, 2), (1002, 6, 2)]
def xrmW1_O : yO := []
def xrmW1_A : yA := (yZ xrmW1_L, [], [], [], [])
def xrmW1_C : List xB := []
def xrmW1_ss : List yS := [(5, [(4, .add (.arg 4) (.int 1)), (3, .op2 .ior (.arg 3) (.op2 .ishl (.int 1) (.arg 4))), (0, .index 0), (1, .index 1000), (2, .index 1002)], [], [], [], [])]
def xrmW1_rs : List yR := []
theorem xrmW1_w : ywa xrmW1_A xrmW1_ss xrmW1_rs = true := by decide +kernel
theorem xrmW1_k : yis (yev xrmW1_A 3000 60 128 [5] (54, [(4, .arg 4), (3, .arg 3), (0, .index 0), (1, .index 1000), (2, .index 1002)], [.int 1], xrmW1_O, xrmW1_C, [])) xrmW1_ss xrmW1_rs = true := by decide +kernel
def xrmW1_r (v3 v4_ : Int32) (k_ : Nat) : Value := bif Nat.beq k_ 3 then .int v3 else (bif Nat.beq k_ 4 then .int v4_ else (.int 0))
def xrmW1_s (a1000 a1002 : Nat) (n_ : Nat) : Nat := bif Nat.beq n_ 1000 then a1000 else (bif Nat.beq n_ 1002 then a1002 else (0))
theorem xrmW1 {h_ : xH} {a1000 a1002 : Nat} {v3 v4_ : Int32} (hs : sHp h_) (k1000 : bcq h_ a1000 6 2) (k1002 : bcq h_ a1002 6 2) : ∃ h', ysm h_ h' ∧ (((∀ a_ j_ : Nat, bpat h' a_ j_ = bpat h_ a_ j_) ∧ (bldD 60 128 54 [(4, .int v4_), (3, .int v3), (0, .index 0), (1, .index a1000), (2, .index a1002)] [.int (1 : Int32)] h_ 5 [(4, .int (v4_ + (1 : Int32))), (3, .int (v3 ||| ((1 : Int32) <<< (v4_ &&& 31)))), (0, .index 0), (1, .index a1000), (2, .index a1002)] [] h'))) := by
  have hA : yas xrmW1_A (xrmW1_r v3 v4_) (yg (xrmW1_s a1000 a1002)) := ⟨fun q_ hq => absurd hq List.not_mem_nil, fun q_ hq => absurd hq List.not_mem_nil, fun q_ hq => absurd hq List.not_mem_nil, fun n_ hn => yg_lo hn, fun q_ hq => absurd hq List.not_mem_nil⟩
  have Hs : ysh xrmW1_A.1 (yg (xrmW1_s a1000 a1002)) h_ := ysh_of2 hs (List.forall_mem_cons.mpr ⟨⟨by decide, k1000⟩, List.forall_mem_cons.mpr ⟨⟨by decide, k1002⟩, fun q_ hq => absurd hq List.not_mem_nil⟩⟩)
  have Ho : ymem (xrmW1_r v3 v4_) (yg (xrmW1_s a1000 a1002)) xrmW1_O h_ := fun q_ hq => absurd hq List.not_mem_nil
  have HC : ∀ q_ ∈ xrmW1_C, xhold (xrmW1_r v3 v4_) q_ := fun q_ hq => absurd hq List.not_mem_nil
  rcases yrun (yis_ok xrmW1_k) hA Hs Ho HC with ⟨q_, hq, h', K_, G_⟩ | ⟨q_, hq, h', K_, G_⟩
  · have e_ := List.mem_singleton.mp hq
    subst e_
    exact ⟨h', yfr_sm K_.2.2.2 hs K_.1 (ywa_s xrmW1_w List.mem_cons_self), ⟨fun a_ j_ => yfr_bp K_.2.2.2 (fun q_ hq => absurd hq List.not_mem_nil), G_⟩⟩
  · cases hq
-- xrmX: 7 steps, 0 ends, 1 returns
def xrmX_L : List (Nat × Nat × Nat) := [(1000, 6, 2), (1002, 6, 2)]
def xrmX_O : yO := [(0, .int 0, .index 1), (1, .int 10, .arg 300)]
def xrmX_A : yA := (yZ xrmX_L, [], [], [], [])
def xrmX_C : List xB := [(.lt, .arg 4, .arg 300, false)]
def xrmX_ss : List yS := []
def xrmX_rs : List yR := [(some (.arg 3), [(0, .int 0, .index 1), (1, .int 10, .arg 300)], [(.lt, .arg 4, .arg 300, false)], [])]
theorem xrmX_w : ywa xrmX_A xrmX_ss xrmX_rs = true := by decide +kernel
theorem xrmX_k : yis (yev xrmX_A 3000 60 128 [] (5, [(4, .arg 4), (3, .arg 3), (0, .index 0), (1, .index 1000), (2, .index 1002)], [], xrmX_O, xrmX_C, [])) xrmX_ss xrmX_rs = true := by decide +kernel
def xrmX_r (v3 v4_ v300 : Int32) (k_ : Nat) : Value := bif Nat.beq k_ 3 then .int v3 else (bif Nat.beq k_ 4 then .int v4_ else (bif Nat.beq k_ 300 then .int v300 else (.int 0)))
def xrmX_s (a1000 a1002 : Nat) (n_ : Nat) : Nat := bif Nat.beq n_ 1000 then a1000 else (bif Nat.beq n_ 1002 then a1002 else (0))
theorem xrmX {h_ : xH} {a1000 a1002 : Nat} {v3 v4_ v300 : Int32} (hs : sHp h_) (k1000 : bcq h_ a1000 6 2) (k1002 : bcq h_ a1002 6 2) (o0_ : bpat h_ 1 10 = some (.int v300)) (c0_ : v300.toInt ≤ v4_.toInt) : ∃ h', ysm h_ h' ∧ (((∀ a_ j_ : Nat, bpat h' a_ j_ = bpat h_ a_ j_) ∧ (∀ D_, 60 ≤ D_ → xrun D_ 128 5 [(4, .int v4_), (3, .int v3), (0, .index 0), (1, .index a1000), (2, .index a1002)] [] h_ (some (.int v3), h', [])))) := by
  have hA : yas xrmX_A (xrmX_r v3 v4_ v300) (yg (xrmX_s a1000 a1002)) := ⟨fun q_ hq => absurd hq List.not_mem_nil, fun q_ hq => absurd hq List.not_mem_nil, fun q_ hq => absurd hq List.not_mem_nil, fun n_ hn => yg_lo hn, fun q_ hq => absurd hq List.not_mem_nil⟩
  have Hs : ysh xrmX_A.1 (yg (xrmX_s a1000 a1002)) h_ := ysh_of2 hs (List.forall_mem_cons.mpr ⟨⟨by decide, k1000⟩, List.forall_mem_cons.mpr ⟨⟨by decide, k1002⟩, fun q_ hq => absurd hq List.not_mem_nil⟩⟩)
  have Ho : ymem (xrmX_r v3 v4_ v300) (yg (xrmX_s a1000 a1002)) xrmX_O h_ := List.forall_mem_cons.mpr ⟨bpat_some (fxr_at hs.2 (show fxk fxl 0 0 = some 1 by decide +kernel)), List.forall_mem_cons.mpr ⟨bpat_some o0_, fun q_ hq => absurd hq List.not_mem_nil⟩⟩
  have HC : ∀ q_ ∈ xrmX_C, xhold (xrmX_r v3 v4_ v300) q_ := List.forall_mem_cons.mpr ⟨xh_ltF c0_, fun q_ hq => absurd hq List.not_mem_nil⟩
  rcases yrun (yis_ok xrmX_k) hA Hs Ho HC with ⟨q_, hq, h', K_, G_⟩ | ⟨q_, hq, h', K_, G_⟩
  · cases hq
  · have e_ := List.mem_singleton.mp hq
    subst e_
    exact ⟨h', yfr_sm K_.2.2.2 hs K_.1 (ywa_r xrmX_w List.mem_cons_self), ⟨fun a_ j_ => yfr_bp K_.2.2.2 (fun q_ hq => absurd hq List.not_mem_nil), G_⟩⟩
-- xsaE: 89 steps, 1 ends, 4 returns
def xsaE_L : List (Nat × Nat × Nat) := []
def xsaE_O : yO := [(0, .int 0, .index 1), (1, .int 9, .arg 310), (0, .int 13, .index 323), (323, .int 1, .arg 400)]
def xsaE_A : yA := (yZ xsaE_L, [], [], [], [])
def xsaE_C : List xB := []
def xsaE_ss : List yS := [(23, [(0, .index 0), (1, .arg 1), (2, .arg 2)], [], [(0, .int 0, .index 1), (1, .int 9, .arg 310), (0, .int 13, .index 323), (323, .int 1, .arg 400)], [(.le, .arg 2, .int 1, true), (.lt, .arg 2, .int 0, false), (.lt, .arg 1, .arg 310, true), (.lt, .arg 1, .int 0, false)], [])]
def xsaE_rs : List yR := [(some (.int (Int32.ofInt (-1000001))), [(323, .int 1, .add (.arg 400) (.int 1)), (0, .int 0, .index 1), (1, .int 9, .arg 310), (0, .int 13, .index 323)], [(.lt, .arg 1, .int 0, true)], [(323, .int 1)]),
  (some (.int (Int32.ofInt (-1000001))), [(323, .int 1, .add (.arg 400) (.int 1)), (0, .int 0, .index 1), (1, .int 9, .arg 310), (0, .int 13, .index 323)], [(.lt, .arg 1, .arg 310, false), (.lt, .arg 1, .int 0, false)], [(323, .int 1)]),
  (some (.int (Int32.ofInt (-1000001))), [(323, .int 1, .add (.arg 400) (.int 1)), (0, .int 0, .index 1), (1, .int 9, .arg 310), (0, .int 13, .index 323)], [(.lt, .arg 2, .int 0, true), (.lt, .arg 1, .arg 310, true), (.lt, .arg 1, .int 0, false)], [(323, .int 1)]),
  (some (.int (Int32.ofInt (-1000001))), [(323, .int 1, .add (.arg 400) (.int 1)), (0, .int 0, .index 1), (1, .int 9, .arg 310), (0, .int 13, .index 323)], [(.le, .arg 2, .int 1, false), (.lt, .arg 2, .int 0, false), (.lt, .arg 1, .arg 310, true), (.lt, .arg 1, .int 0, false)], [(323, .int 1)])]
theorem xsaE_w : ywa xsaE_A xsaE_ss xsaE_rs = true := by decide +kernel
theorem xsaE_k : yis (yev xsaE_A 3000 60 96 [23] (0, [(0, .index 0), (1, .arg 1), (2, .arg 2)], [], xsaE_O, xsaE_C, [])) xsaE_ss xsaE_rs = true := by decide +kernel
def xsaE_r (v1_ v2 v310 v400 : Int32) (k_ : Nat) : Value := bif Nat.beq k_ 1 then .int v1_ else (bif Nat.beq k_ 2 then .int v2 else (bif Nat.beq k_ 310 then .int v310 else (bif Nat.beq k_ 400 then .int v400 else (.int 0))))
def xsaE_s (n_ : Nat) : Nat := 0
theorem xsaE {h_ : xH} {v1_ v2 v310 v400 : Int32} (hs : sHp h_) (o0_ : bpat h_ 1 9 = some (.int v310)) (o1 : bpat h_ 323 1 = some (.int v400)) : ∃ h', ysm h_ h' ∧ (((v2.toInt ≤ (1 : Int32).toInt) ∧ ((0 : Int32).toInt ≤ v2.toInt) ∧ (v1_.toInt < v310.toInt) ∧ ((0 : Int32).toInt ≤ v1_.toInt) ∧ (∀ a_ j_ : Nat, bpat h' a_ j_ = bpat h_ a_ j_) ∧ (bldD 60 96 0 [(0, .index 0), (1, .int v1_), (2, .int v2)] [] h_ 23 [(0, .index 0), (1, .int v1_), (2, .int v2)] [] h'))
  ∨ ((v1_.toInt < (0 : Int32).toInt) ∧ (bpat h' 323 1 = some (.int (v400 + (1 : Int32)))) ∧ (∀ a_ j_ : Nat, ¬ (a_ = 323 ∧ j_ = 1) → bpat h' a_ j_ = bpat h_ a_ j_) ∧ (∀ D_, 60 ≤ D_ → xrun D_ 96 0 [(0, .index 0), (1, .int v1_), (2, .int v2)] [] h_ (some (.int (Int32.ofInt (-1000001))), h', [])))
  ∨ ((v310.toInt ≤ v1_.toInt) ∧ ((0 : Int32).toInt ≤ v1_.toInt) ∧ (bpat h' 323 1 = some (.int (v400 + (1 : Int32)))) ∧ (∀ a_ j_ : Nat, ¬ (a_ = 323 ∧ j_ = 1) → bpat h' a_ j_ = bpat h_ a_ j_) ∧ (∀ D_, 60 ≤ D_ → xrun D_ 96 0 [(0, .index 0), (1, .int v1_), (2, .int v2)] [] h_ (some (.int (Int32.ofInt (-1000001))), h', [])))
  ∨ ((v2.toInt < (0 : Int32).toInt) ∧ (v1_.toInt < v310.toInt) ∧ ((0 : Int32).toInt ≤ v1_.toInt) ∧ (bpat h' 323 1 = some (.int (v400 + (1 : Int32)))) ∧ (∀ a_ j_ : Nat, ¬ (a_ = 323 ∧ j_ = 1) → bpat h' a_ j_ = bpat h_ a_ j_) ∧ (∀ D_, 60 ≤ D_ → xrun D_ 96 0 [(0, .index 0), (1, .int v1_), (2, .int v2)] [] h_ (some (.int (Int32.ofInt (-1000001))), h', [])))
  ∨ (((1 : Int32).toInt < v2.toInt) ∧ ((0 : Int32).toInt ≤ v2.toInt) ∧ (v1_.toInt < v310.toInt) ∧ ((0 : Int32).toInt ≤ v1_.toInt) ∧ (bpat h' 323 1 = some (.int (v400 + (1 : Int32)))) ∧ (∀ a_ j_ : Nat, ¬ (a_ = 323 ∧ j_ = 1) → bpat h' a_ j_ = bpat h_ a_ j_) ∧ (∀ D_, 60 ≤ D_ → xrun D_ 96 0 [(0, .index 0), (1, .int v1_), (2, .int v2)] [] h_ (some (.int (Int32.ofInt (-1000001))), h', [])))) := by
  have hA : yas xsaE_A (xsaE_r v1_ v2 v310 v400) (yg xsaE_s) := ⟨fun q_ hq => absurd hq List.not_mem_nil, fun q_ hq => absurd hq List.not_mem_nil, fun q_ hq => absurd hq List.not_mem_nil, fun n_ hn => yg_lo hn, fun q_ hq => absurd hq List.not_mem_nil⟩
  have Hs : ysh xsaE_A.1 (yg xsaE_s) h_ := ysh_of2 hs (fun q_ hq => absurd hq List.not_mem_nil)
  have Ho : ymem (xsaE_r v1_ v2 v310 v400) (yg xsaE_s) xsaE_O h_ := List.forall_mem_cons.mpr ⟨bpat_some (fxr_at hs.2 (show fxk fxl 0 0 = some 1 by decide +kernel)), List.forall_mem_cons.mpr ⟨bpat_some o0_, List.forall_mem_cons.mpr ⟨bpat_some (fxr_at hs.2 (show fxk fxl 0 13 = some 323 by decide +kernel)), List.forall_mem_cons.mpr ⟨bpat_some o1, fun q_ hq => absurd hq List.not_mem_nil⟩⟩⟩⟩
  have HC : ∀ q_ ∈ xsaE_C, xhold (xsaE_r v1_ v2 v310 v400) q_ := fun q_ hq => absurd hq List.not_mem_nil
  rcases yrun (yis_ok xsaE_k) hA Hs Ho HC with ⟨q_, hq, h', K_, G_⟩ | ⟨q_, hq, h', K_, G_⟩
  · have e_ := List.mem_singleton.mp hq
    subst e_
    exact ⟨h', yfr_sm K_.2.2.2 hs K_.1 (ywa_s xsaE_w List.mem_cons_self), Or.inl (⟨xq_leT rfl rfl (K_.2.2.1 _ List.mem_cons_self), xq_ltF rfl rfl (K_.2.2.1 _ (List.mem_cons_of_mem _ List.mem_cons_self)), xq_ltT rfl rfl (K_.2.2.1 _ (List.mem_cons_of_mem _ (List.mem_cons_of_mem _ List.mem_cons_self))), xq_ltF rfl rfl (K_.2.2.1 _ (List.mem_cons_of_mem _ (List.mem_cons_of_mem _ (List.mem_cons_of_mem _ List.mem_cons_self)))), fun a_ j_ => yfr_bp K_.2.2.2 (fun q_ hq => absurd hq List.not_mem_nil), G_⟩)⟩
  · rcases List.mem_cons.mp hq with e_ | hq
    · subst e_
      exact ⟨h', yfr_sm K_.2.2.2 hs K_.1 (ywa_r xsaE_w List.mem_cons_self), Or.inr (Or.inl (⟨xq_ltT rfl rfl (K_.2.2.1 _ List.mem_cons_self), bpat_of (K_.2.1 _ List.mem_cons_self), fun a_ j_ n0_ => yfr_bp K_.2.2.2 (List.forall_mem_cons.mpr ⟨fun e_ => n0_ ⟨e_.1.symm, e_.2.symm⟩, fun q_ hq => absurd hq List.not_mem_nil⟩), G_⟩))⟩
    rcases List.mem_cons.mp hq with e_ | hq
    · subst e_
      exact ⟨h', yfr_sm K_.2.2.2 hs K_.1 (ywa_r xsaE_w (List.mem_cons_of_mem _ List.mem_cons_self)), Or.inr (Or.inr (Or.inl (⟨xq_ltF rfl rfl (K_.2.2.1 _ List.mem_cons_self), xq_ltF rfl rfl (K_.2.2.1 _ (List.mem_cons_of_mem _ List.mem_cons_self)), bpat_of (K_.2.1 _ List.mem_cons_self), fun a_ j_ n0_ => yfr_bp K_.2.2.2 (List.forall_mem_cons.mpr ⟨fun e_ => n0_ ⟨e_.1.symm, e_.2.symm⟩, fun q_ hq => absurd hq List.not_mem_nil⟩), G_⟩)))⟩
    rcases List.mem_cons.mp hq with e_ | hq
    · subst e_
      exact ⟨h', yfr_sm K_.2.2.2 hs K_.1 (ywa_r xsaE_w (List.mem_cons_of_mem _ (List.mem_cons_of_mem _ List.mem_cons_self))), Or.inr (Or.inr (Or.inr (Or.inl (⟨xq_ltT rfl rfl (K_.2.2.1 _ List.mem_cons_self), xq_ltT rfl rfl (K_.2.2.1 _ (List.mem_cons_of_mem _ List.mem_cons_self)), xq_ltF rfl rfl (K_.2.2.1 _ (List.mem_cons_of_mem _ (List.mem_cons_of_mem _ List.mem_cons_self))), bpat_of (K_.2.1 _ List.mem_cons_self), fun a_ j_ n0_ => yfr_bp K_.2.2.2 (List.forall_mem_cons.mpr ⟨fun e_ => n0_ ⟨e_.1.symm, e_.2.symm⟩, fun q_ hq => absurd hq List.not_mem_nil⟩), G_⟩))))⟩
    have e_ := List.mem_singleton.mp hq
    subst e_
    exact ⟨h', yfr_sm K_.2.2.2 hs K_.1 (ywa_r xsaE_w (List.mem_cons_of_mem _ (List.mem_cons_of_mem _ (List.mem_cons_of_mem _ List.mem_cons_self)))), Or.inr (Or.inr (Or.inr (Or.inr (⟨xq_leF rfl rfl (K_.2.2.1 _ List.mem_cons_self), xq_ltF rfl rfl (K_.2.2.1 _ (List.mem_cons_of_mem _ List.mem_cons_self)), xq_ltT rfl rfl (K_.2.2.1 _ (List.mem_cons_of_mem _ (List.mem_cons_of_mem _ List.mem_cons_self))), xq_ltF rfl rfl (K_.2.2.1 _ (List.mem_cons_of_mem _ (List.mem_cons_of_mem _ (List.mem_cons_of_mem _ List.mem_cons_self)))), bpat_of (K_.2.1 _ List.mem_cons_self), fun a_ j_ n0_ => yfr_bp K_.2.2.2 (List.forall_mem_cons.mpr ⟨fun e_ => n0_ ⟨e_.1.symm, e_.2.symm⟩, fun q_ hq => absurd hq List.not_mem_nil⟩), G_⟩))))⟩
-- xsaA: 11 steps, 1 ends, 0 returns
def xsaA_L : List (Nat × Nat × Nat) := [(1000, 6, 2)]
def xsaA_O : yO := [(0, .int 0, .index 1), (1, .int 0, .index 2), (2, .arg 1, .index 1000)]
def xsaA_A : yA := (yZ xsaA_L, [(.arg 1, 12)], [], [], [])
def xsaA_C : List xB := []
def xsaA_ss : List yS := [(40, [(3, .index 1000), (0, .index 0), (1, .arg 1), (2, .int 0)], [.index 1000, .index 1000, .index 0], [(0, .int 0, .index 1), (1, .int 0, .index 2), (2, .arg 1, .index 1000)], [], [])]
def xsaA_rs : List yR := []
theorem xsaA_w : ywa xsaA_A xsaA_ss xsaA_rs = true := by decide +kernel
theorem xsaA_k : yis (yev xsaA_A 3000 60 96 [40] (23, [(0, .index 0), (1, .arg 1), (2, .int 0)], [], xsaA_O, xsaA_C, [])) xsaA_ss xsaA_rs = true := by decide +kernel
def xsaA_r (v1_ : Int32) (k_ : Nat) : Value := bif Nat.beq k_ 1 then .int v1_ else (.int 0)
def xsaA_s (a1000 : Nat) (n_ : Nat) : Nat := bif Nat.beq n_ 1000 then a1000 else (0)
theorem xsaA {h_ : xH} {a1000 : Nat} {v1_ : Int32} (hs : sHp h_) (k1000 : bcq h_ a1000 6 2) (o0_ : bpat h_ 2 (v1_).toInt.toNat = some (.index a1000)) (b0 : 0 ≤ (v1_).toInt ∧ (v1_).toInt < 12) : ∃ h', ysm h_ h' ∧ (((∀ a_ j_ : Nat, bpat h' a_ j_ = bpat h_ a_ j_) ∧ (bldD 60 96 23 [(0, .index 0), (1, .int v1_), (2, .int (0 : Int32))] [] h_ 40 [(3, .index a1000), (0, .index 0), (1, .int v1_), (2, .int (0 : Int32))] [.index a1000, .index a1000, .index 0] h'))) := by
  have hA : yas xsaA_A (xsaA_r v1_) (yg (xsaA_s a1000)) := ⟨List.forall_mem_cons.mpr ⟨b0, fun q_ hq => absurd hq List.not_mem_nil⟩, fun q_ hq => absurd hq List.not_mem_nil, fun q_ hq => absurd hq List.not_mem_nil, fun n_ hn => yg_lo hn, fun q_ hq => absurd hq List.not_mem_nil⟩
  have Hs : ysh xsaA_A.1 (yg (xsaA_s a1000)) h_ := ysh_of2 hs (List.forall_mem_cons.mpr ⟨⟨by decide, k1000⟩, fun q_ hq => absurd hq List.not_mem_nil⟩)
  have Ho : ymem (xsaA_r v1_) (yg (xsaA_s a1000)) xsaA_O h_ := List.forall_mem_cons.mpr ⟨bpat_some (fxr_at hs.2 (show fxk fxl 0 0 = some 1 by decide +kernel)), List.forall_mem_cons.mpr ⟨bpat_some (fxr_at hs.2 (show fxk fxl 1 0 = some 2 by decide +kernel)), List.forall_mem_cons.mpr ⟨bpat_some o0_, fun q_ hq => absurd hq List.not_mem_nil⟩⟩⟩
  have HC : ∀ q_ ∈ xsaA_C, xhold (xsaA_r v1_) q_ := fun q_ hq => absurd hq List.not_mem_nil
  rcases yrun (yis_ok xsaA_k) hA Hs Ho HC with ⟨q_, hq, h', K_, G_⟩ | ⟨q_, hq, h', K_, G_⟩
  · have e_ := List.mem_singleton.mp hq
    subst e_
    exact ⟨h', yfr_sm K_.2.2.2 hs K_.1 (ywa_s xsaA_w List.mem_cons_self), ⟨fun a_ j_ => yfr_bp K_.2.2.2 (fun q_ hq => absurd hq List.not_mem_nil), G_⟩⟩
  · cases hq
-- xsaB: 9 steps, 1 ends, 0 returns
def xsaB_L : List (Nat × Nat × Nat) := [(1000, 6, 2)]
def xsaB_O : yO := [(0, .int 0, .index 1), (1, .int 0, .index 2), (2, .arg 1, .index 1000)]
def xsaB_A : yA := (yZ xsaB_L, [(.arg 1, 12)], [], [], [])
def xsaB_C : List xB := []
def xsaB_ss : List yS := [(47, [(3, .index 1000), (0, .index 0), (1, .arg 1), (2, .int 1)], [.index 1000], [(0, .int 0, .index 1), (1, .int 0, .index 2), (2, .arg 1, .index 1000)], [], [])]
def xsaB_rs : List yR := []
theorem xsaB_w : ywa xsaB_A xsaB_ss xsaB_rs = true := by decide +kernel
theorem xsaB_k : yis (yev xsaB_A 3000 60 96 [47] (23, [(0, .index 0), (1, .arg 1), (2, .int 1)], [], xsaB_O, xsaB_C, [])) xsaB_ss xsaB_rs = true := by decide +kernel
def xsaB_r (v1_ : Int32) (k_ : Nat) : Value := bif Nat.beq k_ 1 then .int v1_ else (.int 0)
def xsaB_s (a1000 : Nat) (n_ : Nat) : Nat := bif Nat.beq n_ 1000 then a1000 else (0)
theorem xsaB {h_ : xH} {a1000 : Nat} {v1_ : Int32} (hs : sHp h_) (k1000 : bcq h_ a1000 6 2) (o0_ : bpat h_ 2 (v1_).toInt.toNat = some (.index a1000)) (b0 : 0 ≤ (v1_).toInt ∧ (v1_).toInt < 12) : ∃ h', ysm h_ h' ∧ (((∀ a_ j_ : Nat, bpat h' a_ j_ = bpat h_ a_ j_) ∧ (bldD 60 96 23 [(0, .index 0), (1, .int v1_), (2, .int (1 : Int32))] [] h_ 47 [(3, .index a1000), (0, .index 0), (1, .int v1_), (2, .int (1 : Int32))] [.index a1000] h'))) := by
  have hA : yas xsaB_A (xsaB_r v1_) (yg (xsaB_s a1000)) := ⟨List.forall_mem_cons.mpr ⟨b0, fun q_ hq => absurd hq List.not_mem_nil⟩, fun q_ hq => absurd hq List.not_mem_nil, fun q_ hq => absurd hq List.not_mem_nil, fun n_ hn => yg_lo hn, fun q_ hq => absurd hq List.not_mem_nil⟩
  have Hs : ysh xsaB_A.1 (yg (xsaB_s a1000)) h_ := ysh_of2 hs (List.forall_mem_cons.mpr ⟨⟨by decide, k1000⟩, fun q_ hq => absurd hq List.not_mem_nil⟩)
  have Ho : ymem (xsaB_r v1_) (yg (xsaB_s a1000)) xsaB_O h_ := List.forall_mem_cons.mpr ⟨bpat_some (fxr_at hs.2 (show fxk fxl 0 0 = some 1 by decide +kernel)), List.forall_mem_cons.mpr ⟨bpat_some (fxr_at hs.2 (show fxk fxl 1 0 = some 2 by decide +kernel)), List.forall_mem_cons.mpr ⟨bpat_some o0_, fun q_ hq => absurd hq List.not_mem_nil⟩⟩⟩
  have HC : ∀ q_ ∈ xsaB_C, xhold (xsaB_r v1_) q_ := fun q_ hq => absurd hq List.not_mem_nil
  rcases yrun (yis_ok xsaB_k) hA Hs Ho HC with ⟨q_, hq, h', K_, G_⟩ | ⟨q_, hq, h', K_, G_⟩
  · have e_ := List.mem_singleton.mp hq
    subst e_
    exact ⟨h', yfr_sm K_.2.2.2 hs K_.1 (ywa_s xsaB_w List.mem_cons_self), ⟨fun a_ j_ => yfr_bp K_.2.2.2 (fun q_ hq => absurd hq List.not_mem_nil), G_⟩⟩
  · cases hq
-- xsaR: 2 steps, 0 ends, 1 returns
def xsaR_L : List (Nat × Nat × Nat) := [(1000, 6, 2)]
def xsaR_O : yO := []
def xsaR_A : yA := (yZ xsaR_L, [], [], [], [])
def xsaR_C : List xB := []
def xsaR_ss : List yS := []
def xsaR_rs : List yR := [(some (.arg 5), [], [], [])]
theorem xsaR_w : ywa xsaR_A xsaR_ss xsaR_rs = true := by decide +kernel
theorem xsaR_k : yis (yev xsaR_A 3000 60 96 [] (43, [(3, .index 1000), (0, .index 0), (1, .arg 1), (2, .arg 2)], [.arg 5], xsaR_O, xsaR_C, [])) xsaR_ss xsaR_rs = true := by decide +kernel
def xsaR_r (v1_ v2 v5 : Int32) (k_ : Nat) : Value := bif Nat.beq k_ 1 then .int v1_ else (bif Nat.beq k_ 2 then .int v2 else (bif Nat.beq k_ 5 then .int v5 else (.int 0)))
def xsaR_s (a1000 : Nat) (n_ : Nat) : Nat := bif Nat.beq n_ 1000 then a1000 else (0)
theorem xsaR {h_ : xH} {a1000 : Nat} {v1_ v2 v5 : Int32} (hs : sHp h_) (k1000 : bcq h_ a1000 6 2) : ∃ h', ysm h_ h' ∧ (((∀ a_ j_ : Nat, bpat h' a_ j_ = bpat h_ a_ j_) ∧ (∀ D_, 60 ≤ D_ → xrun D_ 96 43 [(3, .index a1000), (0, .index 0), (1, .int v1_), (2, .int v2)] [.int v5] h_ (some (.int v5), h', [])))) := by
  have hA : yas xsaR_A (xsaR_r v1_ v2 v5) (yg (xsaR_s a1000)) := ⟨fun q_ hq => absurd hq List.not_mem_nil, fun q_ hq => absurd hq List.not_mem_nil, fun q_ hq => absurd hq List.not_mem_nil, fun n_ hn => yg_lo hn, fun q_ hq => absurd hq List.not_mem_nil⟩
  have Hs : ysh xsaR_A.1 (yg (xsaR_s a1000)) h_ := ysh_of2 hs (List.forall_mem_cons.mpr ⟨⟨by decide, k1000⟩, fun q_ hq => absurd hq List.not_mem_nil⟩)
  have Ho : ymem (xsaR_r v1_ v2 v5) (yg (xsaR_s a1000)) xsaR_O h_ := fun q_ hq => absurd hq List.not_mem_nil
  have HC : ∀ q_ ∈ xsaR_C, xhold (xsaR_r v1_ v2 v5) q_ := fun q_ hq => absurd hq List.not_mem_nil
  rcases yrun (yis_ok xsaR_k) hA Hs Ho HC with ⟨q_, hq, h', K_, G_⟩ | ⟨q_, hq, h', K_, G_⟩
  · cases hq
  · have e_ := List.mem_singleton.mp hq
    subst e_
    exact ⟨h', yfr_sm K_.2.2.2 hs K_.1 (ywa_r xsaR_w List.mem_cons_self), ⟨fun a_ j_ => yfr_bp K_.2.2.2 (fun q_ hq => absurd hq List.not_mem_nil), G_⟩⟩
-- xsaQ: 1 steps, 0 ends, 1 returns
def xsaQ_L : List (Nat × Nat × Nat) := [(1000, 6, 2)]
def xsaQ_O : yO := []
def xsaQ_A : yA := (yZ xsaQ_L, [], [], [], [])
def xsaQ_C : List xB := []
def xsaQ_ss : List yS := []
def xsaQ_rs : List yR := [(some (.arg 5), [], [], [])]
theorem xsaQ_w : ywa xsaQ_A xsaQ_ss xsaQ_rs = true := by decide +kernel
theorem xsaQ_k : yis (yev xsaQ_A 3000 60 96 [] (50, [(3, .index 1000), (0, .index 0), (1, .arg 1), (2, .arg 2)], [.arg 5], xsaQ_O, xsaQ_C, [])) xsaQ_ss xsaQ_rs = true := by decide +kernel
def xsaQ_r (v1_ v2 v5 : Int32) (k_ : Nat) : Value := bif Nat.beq k_ 1 then .int v1_ else (bif Nat.beq k_ 2 then .int v2 else (bif Nat.beq k_ 5 then .int v5 else (.int 0)))
def xsaQ_s (a1000 : Nat) (n_ : Nat) : Nat := bif Nat.beq n_ 1000 then a1000 else (0)
theorem xsaQ {h_ : xH} {a1000 : Nat} {v1_ v2 v5 : Int32} (hs : sHp h_) (k1000 : bcq h_ a1000 6 2) : ∃ h', ysm h_ h' ∧ (((∀ a_ j_ : Nat, bpat h' a_ j_ = bpat h_ a_ j_) ∧ (∀ D_, 60 ≤ D_ → xrun D_ 96 50 [(3, .index a1000), (0, .index 0), (1, .int v1_), (2, .int v2)] [.int v5] h_ (some (.int v5), h', [])))) := by
  have hA : yas xsaQ_A (xsaQ_r v1_ v2 v5) (yg (xsaQ_s a1000)) := ⟨fun q_ hq => absurd hq List.not_mem_nil, fun q_ hq => absurd hq List.not_mem_nil, fun q_ hq => absurd hq List.not_mem_nil, fun n_ hn => yg_lo hn, fun q_ hq => absurd hq List.not_mem_nil⟩
  have Hs : ysh xsaQ_A.1 (yg (xsaQ_s a1000)) h_ := ysh_of2 hs (List.forall_mem_cons.mpr ⟨⟨by decide, k1000⟩, fun q_ hq => absurd hq List.not_mem_nil⟩)
  have Ho : ymem (xsaQ_r v1_ v2 v5) (yg (xsaQ_s a1000)) xsaQ_O h_ := fun q_ hq => absurd hq List.not_mem_nil
  have HC : ∀ q_ ∈ xsaQ_C, xhold (xsaQ_r v1_ v2 v5) q_ := fun q_ hq => absurd hq List.not_mem_nil
  rcases yrun (yis_ok xsaQ_k) hA Hs Ho HC with ⟨q_, hq, h', K_, G_⟩ | ⟨q_, hq, h', K_, G_⟩
  · cases hq
  · have e_ := List.mem_singleton.mp hq
    subst e_
    exact ⟨h', yfr_sm K_.2.2.2 hs K_.1 (ywa_r xsaQ_w List.mem_cons_self), ⟨fun a_ j_ => yfr_bp K_.2.2.2 (fun q_ hq => absurd hq List.not_mem_nil), G_⟩⟩
-- mcbA: 5 steps, 1 ends, 0 returns
def mcbA_L : List (Nat × Nat × Nat) := []
def mcbA_O : yO := [(338, .int 4, .index 342)]
def mcbA_A : yA := (yZ mcbA_L, [], [], [], [])
def mcbA_C : List xB := []
def mcbA_ss : List yS := [(7, [(0, .index 338), (1, .arg 1), (2, .arg 2), (3, .index 344)], [.index 342, .arg 2, .arg 1, .index 338], [(338, .int 4, .index 342)], [], [])]
def mcbA_rs : List yR := []
theorem mcbA_w : ywa mcbA_A mcbA_ss mcbA_rs = true := by decide +kernel
theorem mcbA_k : yis (yev mcbA_A 3000 60 192 [7] (0, [(0, .index 338), (1, .arg 1), (2, .arg 2), (3, .index 344)], [], mcbA_O, mcbA_C, [])) mcbA_ss mcbA_rs = true := by decide +kernel
def mcbA_r (v1_ v2 : Int32) (k_ : Nat) : Value := bif Nat.beq k_ 1 then .int v1_ else (bif Nat.beq k_ 2 then .int v2 else (.int 0))
def mcbA_s (n_ : Nat) : Nat := 0
theorem mcbA {h_ : xH} {v1_ v2 : Int32} (hs : sHp h_) : ∃ h', ysm h_ h' ∧ (((∀ a_ j_ : Nat, bpat h' a_ j_ = bpat h_ a_ j_) ∧ (bldD 60 192 0 [(0, .index 338), (1, .int v1_), (2, .int v2), (3, .index 344)] [] h_ 7 [(0, .index 338), (1, .int v1_), (2, .int v2), (3, .index 344)] [.index 342, .int v2, .int v1_, .index 338] h'))) := by
  have hA : yas mcbA_A (mcbA_r v1_ v2) (yg mcbA_s) := ⟨fun q_ hq => absurd hq List.not_mem_nil, fun q_ hq => absurd hq List.not_mem_nil, fun q_ hq => absurd hq List.not_mem_nil, fun n_ hn => yg_lo hn, fun q_ hq => absurd hq List.not_mem_nil⟩
  have Hs : ysh mcbA_A.1 (yg mcbA_s) h_ := ysh_of2 hs (fun q_ hq => absurd hq List.not_mem_nil)
  have Ho : ymem (mcbA_r v1_ v2) (yg mcbA_s) mcbA_O h_ := List.forall_mem_cons.mpr ⟨bpat_some (fxr_at hs.2 (show fxk fxl 338 4 = some 342 by decide +kernel)), fun q_ hq => absurd hq List.not_mem_nil⟩
  have HC : ∀ q_ ∈ mcbA_C, xhold (mcbA_r v1_ v2) q_ := fun q_ hq => absurd hq List.not_mem_nil
  rcases yrun (yis_ok mcbA_k) hA Hs Ho HC with ⟨q_, hq, h', K_, G_⟩ | ⟨q_, hq, h', K_, G_⟩
  · have e_ := List.mem_singleton.mp hq
    subst e_
    exact ⟨h', yfr_sm K_.2.2.2 hs K_.1 (ywa_s mcbA_w List.mem_cons_self), ⟨fun a_ j_ => yfr_bp K_.2.2.2 (fun q_ hq => absurd hq List.not_mem_nil), G_⟩⟩
  · cases hq
-- mcbB: 3 steps, 1 ends, 0 returns
def mcbB_L : List (Nat × Nat × Nat) := []
def mcbB_O : yO := [(338, .int 4, .index 342)]
def mcbB_A : yA := (yZ mcbB_L, [], [], [], [])
def mcbB_C : List xB := []
def mcbB_ss : List yS := [(15, [(0, .index 338), (1, .arg 1), (2, .arg 2), (3, .index 344)], [.index 344, .index 342], [(338, .int 4, .index 342)], [], [])]
def mcbB_rs : List yR := []
theorem mcbB_w : ywa mcbB_A mcbB_ss mcbB_rs = true := by decide +kernel
theorem mcbB_k : yis (yev mcbB_A 3000 60 192 [15] (10, [(0, .index 338), (1, .arg 1), (2, .arg 2), (3, .index 344)], [], mcbB_O, mcbB_C, [])) mcbB_ss mcbB_rs = true := by decide +kernel
def mcbB_r (v1_ v2 : Int32) (k_ : Nat) : Value := bif Nat.beq k_ 1 then .int v1_ else (bif Nat.beq k_ 2 then .int v2 else (.int 0))
def mcbB_s (n_ : Nat) : Nat := 0
theorem mcbB {h_ : xH} {v1_ v2 : Int32} (hs : sHp h_) : ∃ h', ysm h_ h' ∧ (((∀ a_ j_ : Nat, bpat h' a_ j_ = bpat h_ a_ j_) ∧ (bldD 60 192 10 [(0, .index 338), (1, .int v1_), (2, .int v2), (3, .index 344)] [] h_ 15 [(0, .index 338), (1, .int v1_), (2, .int v2), (3, .index 344)] [.index 344, .index 342] h'))) := by
  have hA : yas mcbB_A (mcbB_r v1_ v2) (yg mcbB_s) := ⟨fun q_ hq => absurd hq List.not_mem_nil, fun q_ hq => absurd hq List.not_mem_nil, fun q_ hq => absurd hq List.not_mem_nil, fun n_ hn => yg_lo hn, fun q_ hq => absurd hq List.not_mem_nil⟩
  have Hs : ysh mcbB_A.1 (yg mcbB_s) h_ := ysh_of2 hs (fun q_ hq => absurd hq List.not_mem_nil)
  have Ho : ymem (mcbB_r v1_ v2) (yg mcbB_s) mcbB_O h_ := List.forall_mem_cons.mpr ⟨bpat_some (fxr_at hs.2 (show fxk fxl 338 4 = some 342 by decide +kernel)), fun q_ hq => absurd hq List.not_mem_nil⟩
  have HC : ∀ q_ ∈ mcbB_C, xhold (mcbB_r v1_ v2) q_ := fun q_ hq => absurd hq List.not_mem_nil
  rcases yrun (yis_ok mcbB_k) hA Hs Ho HC with ⟨q_, hq, h', K_, G_⟩ | ⟨q_, hq, h', K_, G_⟩
  · have e_ := List.mem_singleton.mp hq
    subst e_
    exact ⟨h', yfr_sm K_.2.2.2 hs K_.1 (ywa_s mcbB_w List.mem_cons_self), ⟨fun a_ j_ => yfr_bp K_.2.2.2 (fun q_ hq => absurd hq List.not_mem_nil), G_⟩⟩
  · cases hq
-- mcbR0: 3 steps, 0 ends, 1 returns
def mcbR0_L : List (Nat × Nat × Nat) := []
def mcbR0_O : yO := []
def mcbR0_A : yA := (yZ mcbR0_L, [], [], [], [])
def mcbR0_C : List xB := []
def mcbR0_ss : List yS := []
def mcbR0_rs : List yR := [(some (.int 0), [], [], [])]
theorem mcbR0_w : ywa mcbR0_A mcbR0_ss mcbR0_rs = true := by decide +kernel
theorem mcbR0_k : yis (yev mcbR0_A 3000 60 192 [] (18, [(0, .index 338), (1, .arg 1), (2, .arg 2), (3, .index 344)], [.int 0], mcbR0_O, mcbR0_C, [])) mcbR0_ss mcbR0_rs = true := by decide +kernel
def mcbR0_r (v1_ v2 : Int32) (k_ : Nat) : Value := bif Nat.beq k_ 1 then .int v1_ else (bif Nat.beq k_ 2 then .int v2 else (.int 0))
def mcbR0_s (n_ : Nat) : Nat := 0
theorem mcbR0 {h_ : xH} {v1_ v2 : Int32} (hs : sHp h_) : ∃ h', ysm h_ h' ∧ (((∀ a_ j_ : Nat, bpat h' a_ j_ = bpat h_ a_ j_) ∧ (∀ D_, 60 ≤ D_ → xrun D_ 192 18 [(0, .index 338), (1, .int v1_), (2, .int v2), (3, .index 344)] [.int (0 : Int32)] h_ (some (.int (0 : Int32)), h', [])))) := by
  have hA : yas mcbR0_A (mcbR0_r v1_ v2) (yg mcbR0_s) := ⟨fun q_ hq => absurd hq List.not_mem_nil, fun q_ hq => absurd hq List.not_mem_nil, fun q_ hq => absurd hq List.not_mem_nil, fun n_ hn => yg_lo hn, fun q_ hq => absurd hq List.not_mem_nil⟩
  have Hs : ysh mcbR0_A.1 (yg mcbR0_s) h_ := ysh_of2 hs (fun q_ hq => absurd hq List.not_mem_nil)
  have Ho : ymem (mcbR0_r v1_ v2) (yg mcbR0_s) mcbR0_O h_ := fun q_ hq => absurd hq List.not_mem_nil
  have HC : ∀ q_ ∈ mcbR0_C, xhold (mcbR0_r v1_ v2) q_ := fun q_ hq => absurd hq List.not_mem_nil
  rcases yrun (yis_ok mcbR0_k) hA Hs Ho HC with ⟨q_, hq, h', K_, G_⟩ | ⟨q_, hq, h', K_, G_⟩
  · cases hq
  · have e_ := List.mem_singleton.mp hq
    subst e_
    exact ⟨h', yfr_sm K_.2.2.2 hs K_.1 (ywa_r mcbR0_w List.mem_cons_self), ⟨fun a_ j_ => yfr_bp K_.2.2.2 (fun q_ hq => absurd hq List.not_mem_nil), G_⟩⟩
-- mcbR1: 4 steps, 0 ends, 1 returns
def mcbR1_L : List (Nat × Nat × Nat) := []
def mcbR1_O : yO := []
def mcbR1_A : yA := (yZ mcbR1_L, [], [], [], [])
def mcbR1_C : List xB := []
def mcbR1_ss : List yS := []
def mcbR1_rs : List yR := [(some (.int 1), [], [], [])]
theorem mcbR1_w : ywa mcbR1_A mcbR1_ss mcbR1_rs = true := by decide +kernel
theorem mcbR1_k : yis (yev mcbR1_A 3000 60 192 [] (18, [(0, .index 338), (1, .arg 1), (2, .arg 2), (3, .index 344)], [.int 1], mcbR1_O, mcbR1_C, [])) mcbR1_ss mcbR1_rs = true := by decide +kernel
def mcbR1_r (v1_ v2 : Int32) (k_ : Nat) : Value := bif Nat.beq k_ 1 then .int v1_ else (bif Nat.beq k_ 2 then .int v2 else (.int 0))
def mcbR1_s (n_ : Nat) : Nat := 0
theorem mcbR1 {h_ : xH} {v1_ v2 : Int32} (hs : sHp h_) : ∃ h', ysm h_ h' ∧ (((∀ a_ j_ : Nat, bpat h' a_ j_ = bpat h_ a_ j_) ∧ (∀ D_, 60 ≤ D_ → xrun D_ 192 18 [(0, .index 338), (1, .int v1_), (2, .int v2), (3, .index 344)] [.int (1 : Int32)] h_ (some (.int (1 : Int32)), h', [])))) := by
  have hA : yas mcbR1_A (mcbR1_r v1_ v2) (yg mcbR1_s) := ⟨fun q_ hq => absurd hq List.not_mem_nil, fun q_ hq => absurd hq List.not_mem_nil, fun q_ hq => absurd hq List.not_mem_nil, fun n_ hn => yg_lo hn, fun q_ hq => absurd hq List.not_mem_nil⟩
  have Hs : ysh mcbR1_A.1 (yg mcbR1_s) h_ := ysh_of2 hs (fun q_ hq => absurd hq List.not_mem_nil)
  have Ho : ymem (mcbR1_r v1_ v2) (yg mcbR1_s) mcbR1_O h_ := fun q_ hq => absurd hq List.not_mem_nil
  have HC : ∀ q_ ∈ mcbR1_C, xhold (mcbR1_r v1_ v2) q_ := fun q_ hq => absurd hq List.not_mem_nil
  rcases yrun (yis_ok mcbR1_k) hA Hs Ho HC with ⟨q_, hq, h', K_, G_⟩ | ⟨q_, hq, h', K_, G_⟩
  · cases hq
  · have e_ := List.mem_singleton.mp hq
    subst e_
    exact ⟨h', yfr_sm K_.2.2.2 hs K_.1 (ywa_r mcbR1_w List.mem_cons_self), ⟨fun a_ j_ => yfr_bp K_.2.2.2 (fun q_ hq => absurd hq List.not_mem_nil), G_⟩⟩
-- mwhE: 54 steps, 1 ends, 0 returns
def mwhE_L : List (Nat × Nat × Nat) := []
def mwhE_O : yO := [(338, .int 0, .index 339), (339, .int 0, .arg 310), (338, .int 6, .index 344)]
def mwhE_A : yA := (yZ mwhE_L, [], [], [], [])
def mwhE_C : List xB := [(.le, .arg 2, .sub (.arg 310) (.int 1), true), (.lt, .arg 2, .int 0, false), (.le, .arg 1, .sub (.arg 310) (.int 1), true), (.lt, .arg 1, .int 0, false)]
def mwhE_ss : List yS := [(34, [(0, .index 338), (1, .arg 1), (2, .arg 2)], [.index 344, .add (.int 34) (.mul (.int 13) (.arg 2)), .index 338], [(338, .int 0, .index 339), (339, .int 0, .arg 310), (338, .int 6, .index 344)], [(.le, .arg 2, .sub (.arg 310) (.int 1), true), (.lt, .arg 2, .int 0, false), (.le, .arg 1, .sub (.arg 310) (.int 1), true), (.lt, .arg 1, .int 0, false)], [])]
def mwhE_rs : List yR := []
theorem mwhE_w : ywa mwhE_A mwhE_ss mwhE_rs = true := by decide +kernel
theorem mwhE_k : yis (yev mwhE_A 3000 60 193 [34] (0, [(0, .index 338), (1, .arg 1), (2, .arg 2)], [], mwhE_O, mwhE_C, [])) mwhE_ss mwhE_rs = true := by decide +kernel
def mwhE_r (v1_ v2 v310 : Int32) (k_ : Nat) : Value := bif Nat.beq k_ 1 then .int v1_ else (bif Nat.beq k_ 2 then .int v2 else (bif Nat.beq k_ 310 then .int v310 else (.int 0)))
def mwhE_s (n_ : Nat) : Nat := 0
theorem mwhE {h_ : xH} {v1_ v2 v310 : Int32} (hs : sHp h_) (o0_ : bpat h_ 339 0 = some (.int v310)) (c0_ : v2.toInt ≤ (v310 - (1 : Int32)).toInt) (c1_ : (0 : Int32).toInt ≤ v2.toInt) (c2_ : v1_.toInt ≤ (v310 - (1 : Int32)).toInt) (c3_ : (0 : Int32).toInt ≤ v1_.toInt) : ∃ h', ysm h_ h' ∧ (((∀ a_ j_ : Nat, bpat h' a_ j_ = bpat h_ a_ j_) ∧ (bldD 60 193 0 [(0, .index 338), (1, .int v1_), (2, .int v2)] [] h_ 34 [(0, .index 338), (1, .int v1_), (2, .int v2)] [.index 344, .int ((34 : Int32) + ((13 : Int32) * v2)), .index 338] h'))) := by
  have hA : yas mwhE_A (mwhE_r v1_ v2 v310) (yg mwhE_s) := ⟨fun q_ hq => absurd hq List.not_mem_nil, fun q_ hq => absurd hq List.not_mem_nil, fun q_ hq => absurd hq List.not_mem_nil, fun n_ hn => yg_lo hn, fun q_ hq => absurd hq List.not_mem_nil⟩
  have Hs : ysh mwhE_A.1 (yg mwhE_s) h_ := ysh_of2 hs (fun q_ hq => absurd hq List.not_mem_nil)
  have Ho : ymem (mwhE_r v1_ v2 v310) (yg mwhE_s) mwhE_O h_ := List.forall_mem_cons.mpr ⟨bpat_some (fxr_at hs.2 (show fxk fxl 338 0 = some 339 by decide +kernel)), List.forall_mem_cons.mpr ⟨bpat_some o0_, List.forall_mem_cons.mpr ⟨bpat_some (fxr_at hs.2 (show fxk fxl 338 6 = some 344 by decide +kernel)), fun q_ hq => absurd hq List.not_mem_nil⟩⟩⟩
  have HC : ∀ q_ ∈ mwhE_C, xhold (mwhE_r v1_ v2 v310) q_ := List.forall_mem_cons.mpr ⟨xh_leT c0_, List.forall_mem_cons.mpr ⟨xh_ltF c1_, List.forall_mem_cons.mpr ⟨xh_leT c2_, List.forall_mem_cons.mpr ⟨xh_ltF c3_, fun q_ hq => absurd hq List.not_mem_nil⟩⟩⟩⟩
  rcases yrun (yis_ok mwhE_k) hA Hs Ho HC with ⟨q_, hq, h', K_, G_⟩ | ⟨q_, hq, h', K_, G_⟩
  · have e_ := List.mem_singleton.mp hq
    subst e_
    exact ⟨h', yfr_sm K_.2.2.2 hs K_.1 (ywa_s mwhE_w List.mem_cons_self), ⟨fun a_ j_ => yfr_bp K_.2.2.2 (fun q_ hq => absurd hq List.not_mem_nil), G_⟩⟩
  · cases hq
-- mwh0: 4 steps, 1 ends, 0 returns
def mwh0_L : List (Nat × Nat × Nat) := []
def mwh0_O : yO := []
def mwh0_A : yA := (yZ mwh0_L, [], [], [], [])
def mwh0_C : List xB := []
def mwh0_ss : List yS := [(42, [(4, .int 0), (3, .int 0), (0, .index 338), (1, .arg 1), (2, .arg 2)], [], [], [], [])]
def mwh0_rs : List yR := []
theorem mwh0_w : ywa mwh0_A mwh0_ss mwh0_rs = true := by decide +kernel
theorem mwh0_k : yis (yev mwh0_A 3000 60 193 [42] (37, [(0, .index 338), (1, .arg 1), (2, .arg 2)], [], mwh0_O, mwh0_C, [])) mwh0_ss mwh0_rs = true := by decide +kernel
def mwh0_r (v1_ v2 : Int32) (k_ : Nat) : Value := bif Nat.beq k_ 1 then .int v1_ else (bif Nat.beq k_ 2 then .int v2 else (.int 0))
def mwh0_s (n_ : Nat) : Nat := 0
theorem mwh0 {h_ : xH} {v1_ v2 : Int32} (hs : sHp h_) : ∃ h', ysm h_ h' ∧ (((∀ a_ j_ : Nat, bpat h' a_ j_ = bpat h_ a_ j_) ∧ (bldD 60 193 37 [(0, .index 338), (1, .int v1_), (2, .int v2)] [] h_ 42 [(4, .int (0 : Int32)), (3, .int (0 : Int32)), (0, .index 338), (1, .int v1_), (2, .int v2)] [] h'))) := by
  have hA : yas mwh0_A (mwh0_r v1_ v2) (yg mwh0_s) := ⟨fun q_ hq => absurd hq List.not_mem_nil, fun q_ hq => absurd hq List.not_mem_nil, fun q_ hq => absurd hq List.not_mem_nil, fun n_ hn => yg_lo hn, fun q_ hq => absurd hq List.not_mem_nil⟩
  have Hs : ysh mwh0_A.1 (yg mwh0_s) h_ := ysh_of2 hs (fun q_ hq => absurd hq List.not_mem_nil)
  have Ho : ymem (mwh0_r v1_ v2) (yg mwh0_s) mwh0_O h_ := fun q_ hq => absurd hq List.not_mem_nil
  have HC : ∀ q_ ∈ mwh0_C, xhold (mwh0_r v1_ v2) q_ := fun q_ hq => absurd hq List.not_mem_nil
  rcases yrun (yis_ok mwh0_k) hA Hs Ho HC with ⟨q_, hq, h', K_, G_⟩ | ⟨q_, hq, h', K_, G_⟩
  · have e_ := List.mem_singleton.mp hq
    subst e_
    exact ⟨h', yfr_sm K_.2.2.2 hs K_.1 (ywa_s mwh0_w List.mem_cons_self), ⟨fun a_ j_ => yfr_bp K_.2.2.2 (fun q_ hq => absurd hq List.not_mem_nil), G_⟩⟩
  · cases hq
-- mwhT: 14 steps, 1 ends, 0 returns
def mwhT_L : List (Nat × Nat × Nat) := []
def mwhT_O : yO := [(338, .int 0, .index 339), (339, .int 1, .arg 310), (338, .int 6, .index 344)]
def mwhT_A : yA := (yZ mwhT_L, [], [], [], [])
def mwhT_C : List xB := [(.lt, .arg 4, .arg 310, true)]
def mwhT_ss : List yS := [(64, [(4, .arg 4), (3, .arg 3), (0, .index 338), (1, .arg 1), (2, .arg 2)], [.index 344, .add (.arg 4) (.int 1), .arg 1, .index 338, .arg 3], [(338, .int 0, .index 339), (339, .int 1, .arg 310), (338, .int 6, .index 344)], [(.lt, .arg 4, .arg 310, true)], [])]
def mwhT_rs : List yR := []
theorem mwhT_w : ywa mwhT_A mwhT_ss mwhT_rs = true := by decide +kernel
theorem mwhT_k : yis (yev mwhT_A 3000 60 193 [64] (42, [(4, .arg 4), (3, .arg 3), (0, .index 338), (1, .arg 1), (2, .arg 2)], [], mwhT_O, mwhT_C, [])) mwhT_ss mwhT_rs = true := by decide +kernel
def mwhT_r (v1_ v2 v3 v4_ v310 : Int32) (k_ : Nat) : Value := bif Nat.beq k_ 1 then .int v1_ else (bif Nat.beq k_ 2 then .int v2 else (bif Nat.beq k_ 3 then .int v3 else (bif Nat.beq k_ 4 then .int v4_ else (bif Nat.beq k_ 310 then .int v310 else (.int 0)))))
def mwhT_s (n_ : Nat) : Nat := 0
theorem mwhT {h_ : xH} {v1_ v2 v3 v4_ v310 : Int32} (hs : sHp h_) (o0_ : bpat h_ 339 1 = some (.int v310)) (c0_ : v4_.toInt < v310.toInt) : ∃ h', ysm h_ h' ∧ (((∀ a_ j_ : Nat, bpat h' a_ j_ = bpat h_ a_ j_) ∧ (bldD 60 193 42 [(4, .int v4_), (3, .int v3), (0, .index 338), (1, .int v1_), (2, .int v2)] [] h_ 64 [(4, .int v4_), (3, .int v3), (0, .index 338), (1, .int v1_), (2, .int v2)] [.index 344, .int (v4_ + (1 : Int32)), .int v1_, .index 338, .int v3] h'))) := by
  have hA : yas mwhT_A (mwhT_r v1_ v2 v3 v4_ v310) (yg mwhT_s) := ⟨fun q_ hq => absurd hq List.not_mem_nil, fun q_ hq => absurd hq List.not_mem_nil, fun q_ hq => absurd hq List.not_mem_nil, fun n_ hn => yg_lo hn, fun q_ hq => absurd hq List.not_mem_nil⟩
  have Hs : ysh mwhT_A.1 (yg mwhT_s) h_ := ysh_of2 hs (fun q_ hq => absurd hq List.not_mem_nil)
  have Ho : ymem (mwhT_r v1_ v2 v3 v4_ v310) (yg mwhT_s) mwhT_O h_ := List.forall_mem_cons.mpr ⟨bpat_some (fxr_at hs.2 (show fxk fxl 338 0 = some 339 by decide +kernel)), List.forall_mem_cons.mpr ⟨bpat_some o0_, List.forall_mem_cons.mpr ⟨bpat_some (fxr_at hs.2 (show fxk fxl 338 6 = some 344 by decide +kernel)), fun q_ hq => absurd hq List.not_mem_nil⟩⟩⟩
  have HC : ∀ q_ ∈ mwhT_C, xhold (mwhT_r v1_ v2 v3 v4_ v310) q_ := List.forall_mem_cons.mpr ⟨xh_ltT c0_, fun q_ hq => absurd hq List.not_mem_nil⟩
  rcases yrun (yis_ok mwhT_k) hA Hs Ho HC with ⟨q_, hq, h', K_, G_⟩ | ⟨q_, hq, h', K_, G_⟩
  · have e_ := List.mem_singleton.mp hq
    subst e_
    exact ⟨h', yfr_sm K_.2.2.2 hs K_.1 (ywa_s mwhT_w List.mem_cons_self), ⟨fun a_ j_ => yfr_bp K_.2.2.2 (fun q_ hq => absurd hq List.not_mem_nil), G_⟩⟩
  · cases hq
-- mwhU: 6 steps, 1 ends, 0 returns
def mwhU_L : List (Nat × Nat × Nat) := []
def mwhU_O : yO := []
def mwhU_A : yA := (yZ mwhU_L, [], [], [], [])
def mwhU_C : List xB := []
def mwhU_ss : List yS := [(42, [(4, .add (.arg 4) (.int 1)), (3, .op2 .ior (.arg 6) (.op2 .ishl (.arg 5) (.arg 4))), (0, .index 338), (1, .arg 1), (2, .arg 2)], [], [], [], [])]
def mwhU_rs : List yR := []
theorem mwhU_w : ywa mwhU_A mwhU_ss mwhU_rs = true := by decide +kernel
theorem mwhU_k : yis (yev mwhU_A 3000 60 193 [42] (67, [(4, .arg 4), (3, .arg 3), (0, .index 338), (1, .arg 1), (2, .arg 2)], [.arg 5, .arg 6], mwhU_O, mwhU_C, [])) mwhU_ss mwhU_rs = true := by decide +kernel
def mwhU_r (v1_ v2 v3 v4_ v5 v6 : Int32) (k_ : Nat) : Value := bif Nat.beq k_ 1 then .int v1_ else (bif Nat.beq k_ 2 then .int v2 else (bif Nat.beq k_ 3 then .int v3 else (bif Nat.beq k_ 4 then .int v4_ else (bif Nat.beq k_ 5 then .int v5 else (bif Nat.beq k_ 6 then .int v6 else (.int 0))))))
def mwhU_s (n_ : Nat) : Nat := 0
theorem mwhU {h_ : xH} {v1_ v2 v3 v4_ v5 v6 : Int32} (hs : sHp h_) : ∃ h', ysm h_ h' ∧ (((∀ a_ j_ : Nat, bpat h' a_ j_ = bpat h_ a_ j_) ∧ (bldD 60 193 67 [(4, .int v4_), (3, .int v3), (0, .index 338), (1, .int v1_), (2, .int v2)] [.int v5, .int v6] h_ 42 [(4, .int (v4_ + (1 : Int32))), (3, .int (v6 ||| (v5 <<< (v4_ &&& 31)))), (0, .index 338), (1, .int v1_), (2, .int v2)] [] h'))) := by
  have hA : yas mwhU_A (mwhU_r v1_ v2 v3 v4_ v5 v6) (yg mwhU_s) := ⟨fun q_ hq => absurd hq List.not_mem_nil, fun q_ hq => absurd hq List.not_mem_nil, fun q_ hq => absurd hq List.not_mem_nil, fun n_ hn => yg_lo hn, fun q_ hq => absurd hq List.not_mem_nil⟩
  have Hs : ysh mwhU_A.1 (yg mwhU_s) h_ := ysh_of2 hs (fun q_ hq => absurd hq List.not_mem_nil)
  have Ho : ymem (mwhU_r v1_ v2 v3 v4_ v5 v6) (yg mwhU_s) mwhU_O h_ := fun q_ hq => absurd hq List.not_mem_nil
  have HC : ∀ q_ ∈ mwhU_C, xhold (mwhU_r v1_ v2 v3 v4_ v5 v6) q_ := fun q_ hq => absurd hq List.not_mem_nil
  rcases yrun (yis_ok mwhU_k) hA Hs Ho HC with ⟨q_, hq, h', K_, G_⟩ | ⟨q_, hq, h', K_, G_⟩
  · have e_ := List.mem_singleton.mp hq
    subst e_
    exact ⟨h', yfr_sm K_.2.2.2 hs K_.1 (ywa_s mwhU_w List.mem_cons_self), ⟨fun a_ j_ => yfr_bp K_.2.2.2 (fun q_ hq => absurd hq List.not_mem_nil), G_⟩⟩
  · cases hq
-- mwhX: 8 steps, 0 ends, 1 returns
def mwhX_L : List (Nat × Nat × Nat) := []
def mwhX_O : yO := [(338, .int 0, .index 339), (339, .int 1, .arg 310)]
def mwhX_A : yA := (yZ mwhX_L, [], [], [], [])
def mwhX_C : List xB := [(.lt, .arg 4, .arg 310, false)]
def mwhX_ss : List yS := []
def mwhX_rs : List yR := [(some (.arg 3), [(338, .int 0, .index 339), (339, .int 1, .arg 310)], [(.lt, .arg 4, .arg 310, false)], [])]
theorem mwhX_w : ywa mwhX_A mwhX_ss mwhX_rs = true := by decide +kernel
theorem mwhX_k : yis (yev mwhX_A 3000 60 193 [] (42, [(4, .arg 4), (3, .arg 3), (0, .index 338), (1, .arg 1), (2, .arg 2)], [], mwhX_O, mwhX_C, [])) mwhX_ss mwhX_rs = true := by decide +kernel
def mwhX_r (v1_ v2 v3 v4_ v310 : Int32) (k_ : Nat) : Value := bif Nat.beq k_ 1 then .int v1_ else (bif Nat.beq k_ 2 then .int v2 else (bif Nat.beq k_ 3 then .int v3 else (bif Nat.beq k_ 4 then .int v4_ else (bif Nat.beq k_ 310 then .int v310 else (.int 0)))))
def mwhX_s (n_ : Nat) : Nat := 0
theorem mwhX {h_ : xH} {v1_ v2 v3 v4_ v310 : Int32} (hs : sHp h_) (o0_ : bpat h_ 339 1 = some (.int v310)) (c0_ : v310.toInt ≤ v4_.toInt) : ∃ h', ysm h_ h' ∧ (((∀ a_ j_ : Nat, bpat h' a_ j_ = bpat h_ a_ j_) ∧ (∀ D_, 60 ≤ D_ → xrun D_ 193 42 [(4, .int v4_), (3, .int v3), (0, .index 338), (1, .int v1_), (2, .int v2)] [] h_ (some (.int v3), h', [])))) := by
  have hA : yas mwhX_A (mwhX_r v1_ v2 v3 v4_ v310) (yg mwhX_s) := ⟨fun q_ hq => absurd hq List.not_mem_nil, fun q_ hq => absurd hq List.not_mem_nil, fun q_ hq => absurd hq List.not_mem_nil, fun n_ hn => yg_lo hn, fun q_ hq => absurd hq List.not_mem_nil⟩
  have Hs : ysh mwhX_A.1 (yg mwhX_s) h_ := ysh_of2 hs (fun q_ hq => absurd hq List.not_mem_nil)
  have Ho : ymem (mwhX_r v1_ v2 v3 v4_ v310) (yg mwhX_s) mwhX_O h_ := List.forall_mem_cons.mpr ⟨bpat_some (fxr_at hs.2 (show fxk fxl 338 0 = some 339 by decide +kernel)), List.forall_mem_cons.mpr ⟨bpat_some o0_, fun q_ hq => absurd hq List.not_mem_nil⟩⟩
  have HC : ∀ q_ ∈ mwhX_C, xhold (mwhX_r v1_ v2 v3 v4_ v310) q_ := List.forall_mem_cons.mpr ⟨xh_ltF c0_, fun q_ hq => absurd hq List.not_mem_nil⟩
  rcases yrun (yis_ok mwhX_k) hA Hs Ho HC with ⟨q_, hq, h', K_, G_⟩ | ⟨q_, hq, h', K_, G_⟩
  · cases hq
  · have e_ := List.mem_singleton.mp hq
    subst e_
    exact ⟨h', yfr_sm K_.2.2.2 hs K_.1 (ywa_r mwhX_w List.mem_cons_self), ⟨fun a_ j_ => yfr_bp K_.2.2.2 (fun q_ hq => absurd hq List.not_mem_nil), G_⟩⟩
-- msaE: 115 steps, 1 ends, 4 returns
def msaE_L : List (Nat × Nat × Nat) := []
def msaE_O : yO := [(338, .int 0, .index 339), (339, .int 0, .arg 310), (338, .int 3, .index 341), (341, .int 1, .arg 400)]
def msaE_A : yA := (yZ msaE_L, [], [], [], [])
def msaE_C : List xB := []
def msaE_ss : List yS := [(23, [(0, .index 338), (1, .arg 1), (2, .arg 2)], [], [(338, .int 0, .index 339), (339, .int 0, .arg 310), (338, .int 3, .index 341), (341, .int 1, .arg 400)], [(.le, .arg 2, .int 1, true), (.lt, .arg 2, .int 0, false), (.le, .arg 1, .sub (.arg 310) (.int 1), true), (.lt, .arg 1, .int 0, false)], [])]
def msaE_rs : List yR := [(some (.int (Int32.ofInt (-1000001))), [(341, .int 1, .add (.arg 400) (.int 1)), (338, .int 0, .index 339), (339, .int 0, .arg 310), (338, .int 3, .index 341)], [(.lt, .arg 1, .int 0, true)], [(341, .int 1)]),
  (some (.int (Int32.ofInt (-1000001))), [(341, .int 1, .add (.arg 400) (.int 1)), (338, .int 0, .index 339), (339, .int 0, .arg 310), (338, .int 3, .index 341)], [(.le, .arg 1, .sub (.arg 310) (.int 1), false), (.lt, .arg 1, .int 0, false)], [(341, .int 1)]),
  (some (.int (Int32.ofInt (-1000001))), [(341, .int 1, .add (.arg 400) (.int 1)), (338, .int 0, .index 339), (339, .int 0, .arg 310), (338, .int 3, .index 341)], [(.lt, .arg 2, .int 0, true), (.le, .arg 1, .sub (.arg 310) (.int 1), true), (.lt, .arg 1, .int 0, false)], [(341, .int 1)]),
  (some (.int (Int32.ofInt (-1000001))), [(341, .int 1, .add (.arg 400) (.int 1)), (338, .int 0, .index 339), (339, .int 0, .arg 310), (338, .int 3, .index 341)], [(.le, .arg 2, .int 1, false), (.lt, .arg 2, .int 0, false), (.le, .arg 1, .sub (.arg 310) (.int 1), true), (.lt, .arg 1, .int 0, false)], [(341, .int 1)])]
theorem msaE_w : ywa msaE_A msaE_ss msaE_rs = true := by decide +kernel
theorem msaE_k : yis (yev msaE_A 3000 60 200 [23] (0, [(0, .index 338), (1, .arg 1), (2, .arg 2)], [], msaE_O, msaE_C, [])) msaE_ss msaE_rs = true := by decide +kernel
def msaE_r (v1_ v2 v310 v400 : Int32) (k_ : Nat) : Value := bif Nat.beq k_ 1 then .int v1_ else (bif Nat.beq k_ 2 then .int v2 else (bif Nat.beq k_ 310 then .int v310 else (bif Nat.beq k_ 400 then .int v400 else (.int 0))))
def msaE_s (n_ : Nat) : Nat := 0
theorem msaE {h_ : xH} {v1_ v2 v310 v400 : Int32} (hs : sHp h_) (o0_ : bpat h_ 339 0 = some (.int v310)) (o1 : bpat h_ 341 1 = some (.int v400)) : ∃ h', ysm h_ h' ∧ (((v2.toInt ≤ (1 : Int32).toInt) ∧ ((0 : Int32).toInt ≤ v2.toInt) ∧ (v1_.toInt ≤ (v310 - (1 : Int32)).toInt) ∧ ((0 : Int32).toInt ≤ v1_.toInt) ∧ (∀ a_ j_ : Nat, bpat h' a_ j_ = bpat h_ a_ j_) ∧ (bldD 60 200 0 [(0, .index 338), (1, .int v1_), (2, .int v2)] [] h_ 23 [(0, .index 338), (1, .int v1_), (2, .int v2)] [] h'))
  ∨ ((v1_.toInt < (0 : Int32).toInt) ∧ (bpat h' 341 1 = some (.int (v400 + (1 : Int32)))) ∧ (∀ a_ j_ : Nat, ¬ (a_ = 341 ∧ j_ = 1) → bpat h' a_ j_ = bpat h_ a_ j_) ∧ (∀ D_, 60 ≤ D_ → xrun D_ 200 0 [(0, .index 338), (1, .int v1_), (2, .int v2)] [] h_ (some (.int (Int32.ofInt (-1000001))), h', [])))
  ∨ (((v310 - (1 : Int32)).toInt < v1_.toInt) ∧ ((0 : Int32).toInt ≤ v1_.toInt) ∧ (bpat h' 341 1 = some (.int (v400 + (1 : Int32)))) ∧ (∀ a_ j_ : Nat, ¬ (a_ = 341 ∧ j_ = 1) → bpat h' a_ j_ = bpat h_ a_ j_) ∧ (∀ D_, 60 ≤ D_ → xrun D_ 200 0 [(0, .index 338), (1, .int v1_), (2, .int v2)] [] h_ (some (.int (Int32.ofInt (-1000001))), h', [])))
  ∨ ((v2.toInt < (0 : Int32).toInt) ∧ (v1_.toInt ≤ (v310 - (1 : Int32)).toInt) ∧ ((0 : Int32).toInt ≤ v1_.toInt) ∧ (bpat h' 341 1 = some (.int (v400 + (1 : Int32)))) ∧ (∀ a_ j_ : Nat, ¬ (a_ = 341 ∧ j_ = 1) → bpat h' a_ j_ = bpat h_ a_ j_) ∧ (∀ D_, 60 ≤ D_ → xrun D_ 200 0 [(0, .index 338), (1, .int v1_), (2, .int v2)] [] h_ (some (.int (Int32.ofInt (-1000001))), h', [])))
  ∨ (((1 : Int32).toInt < v2.toInt) ∧ ((0 : Int32).toInt ≤ v2.toInt) ∧ (v1_.toInt ≤ (v310 - (1 : Int32)).toInt) ∧ ((0 : Int32).toInt ≤ v1_.toInt) ∧ (bpat h' 341 1 = some (.int (v400 + (1 : Int32)))) ∧ (∀ a_ j_ : Nat, ¬ (a_ = 341 ∧ j_ = 1) → bpat h' a_ j_ = bpat h_ a_ j_) ∧ (∀ D_, 60 ≤ D_ → xrun D_ 200 0 [(0, .index 338), (1, .int v1_), (2, .int v2)] [] h_ (some (.int (Int32.ofInt (-1000001))), h', [])))) := by
  have hA : yas msaE_A (msaE_r v1_ v2 v310 v400) (yg msaE_s) := ⟨fun q_ hq => absurd hq List.not_mem_nil, fun q_ hq => absurd hq List.not_mem_nil, fun q_ hq => absurd hq List.not_mem_nil, fun n_ hn => yg_lo hn, fun q_ hq => absurd hq List.not_mem_nil⟩
  have Hs : ysh msaE_A.1 (yg msaE_s) h_ := ysh_of2 hs (fun q_ hq => absurd hq List.not_mem_nil)
  have Ho : ymem (msaE_r v1_ v2 v310 v400) (yg msaE_s) msaE_O h_ := List.forall_mem_cons.mpr ⟨bpat_some (fxr_at hs.2 (show fxk fxl 338 0 = some 339 by decide +kernel)), List.forall_mem_cons.mpr ⟨bpat_some o0_, List.forall_mem_cons.mpr ⟨bpat_some (fxr_at hs.2 (show fxk fxl 338 3 = some 341 by decide +kernel)), List.forall_mem_cons.mpr ⟨bpat_some o1, fun q_ hq => absurd hq List.not_mem_nil⟩⟩⟩⟩
  have HC : ∀ q_ ∈ msaE_C, xhold (msaE_r v1_ v2 v310 v400) q_ := fun q_ hq => absurd hq List.not_mem_nil
  rcases yrun (yis_ok msaE_k) hA Hs Ho HC with ⟨q_, hq, h', K_, G_⟩ | ⟨q_, hq, h', K_, G_⟩
  · have e_ := List.mem_singleton.mp hq
    subst e_
    exact ⟨h', yfr_sm K_.2.2.2 hs K_.1 (ywa_s msaE_w List.mem_cons_self), Or.inl (⟨xq_leT rfl rfl (K_.2.2.1 _ List.mem_cons_self), xq_ltF rfl rfl (K_.2.2.1 _ (List.mem_cons_of_mem _ List.mem_cons_self)), xq_leT rfl (yv_sub2 rfl rfl) (K_.2.2.1 _ (List.mem_cons_of_mem _ (List.mem_cons_of_mem _ List.mem_cons_self))), xq_ltF rfl rfl (K_.2.2.1 _ (List.mem_cons_of_mem _ (List.mem_cons_of_mem _ (List.mem_cons_of_mem _ List.mem_cons_self)))), fun a_ j_ => yfr_bp K_.2.2.2 (fun q_ hq => absurd hq List.not_mem_nil), G_⟩)⟩
  · rcases List.mem_cons.mp hq with e_ | hq
    · subst e_
      exact ⟨h', yfr_sm K_.2.2.2 hs K_.1 (ywa_r msaE_w List.mem_cons_self), Or.inr (Or.inl (⟨xq_ltT rfl rfl (K_.2.2.1 _ List.mem_cons_self), bpat_of (K_.2.1 _ List.mem_cons_self), fun a_ j_ n0_ => yfr_bp K_.2.2.2 (List.forall_mem_cons.mpr ⟨fun e_ => n0_ ⟨e_.1.symm, e_.2.symm⟩, fun q_ hq => absurd hq List.not_mem_nil⟩), G_⟩))⟩
    rcases List.mem_cons.mp hq with e_ | hq
    · subst e_
      exact ⟨h', yfr_sm K_.2.2.2 hs K_.1 (ywa_r msaE_w (List.mem_cons_of_mem _ List.mem_cons_self)), Or.inr (Or.inr (Or.inl (⟨xq_leF rfl (yv_sub2 rfl rfl) (K_.2.2.1 _ List.mem_cons_self), xq_ltF rfl rfl (K_.2.2.1 _ (List.mem_cons_of_mem _ List.mem_cons_self)), bpat_of (K_.2.1 _ List.mem_cons_self), fun a_ j_ n0_ => yfr_bp K_.2.2.2 (List.forall_mem_cons.mpr ⟨fun e_ => n0_ ⟨e_.1.symm, e_.2.symm⟩, fun q_ hq => absurd hq List.not_mem_nil⟩), G_⟩)))⟩
    rcases List.mem_cons.mp hq with e_ | hq
    · subst e_
      exact ⟨h', yfr_sm K_.2.2.2 hs K_.1 (ywa_r msaE_w (List.mem_cons_of_mem _ (List.mem_cons_of_mem _ List.mem_cons_self))), Or.inr (Or.inr (Or.inr (Or.inl (⟨xq_ltT rfl rfl (K_.2.2.1 _ List.mem_cons_self), xq_leT rfl (yv_sub2 rfl rfl) (K_.2.2.1 _ (List.mem_cons_of_mem _ List.mem_cons_self)), xq_ltF rfl rfl (K_.2.2.1 _ (List.mem_cons_of_mem _ (List.mem_cons_of_mem _ List.mem_cons_self))), bpat_of (K_.2.1 _ List.mem_cons_self), fun a_ j_ n0_ => yfr_bp K_.2.2.2 (List.forall_mem_cons.mpr ⟨fun e_ => n0_ ⟨e_.1.symm, e_.2.symm⟩, fun q_ hq => absurd hq List.not_mem_nil⟩), G_⟩))))⟩
    have e_ := List.mem_singleton.mp hq
    subst e_
    exact ⟨h', yfr_sm K_.2.2.2 hs K_.1 (ywa_r msaE_w (List.mem_cons_of_mem _ (List.mem_cons_of_mem _ (List.mem_cons_of_mem _ List.mem_cons_self)))), Or.inr (Or.inr (Or.inr (Or.inr (⟨xq_leF rfl rfl (K_.2.2.1 _ List.mem_cons_self), xq_ltF rfl rfl (K_.2.2.1 _ (List.mem_cons_of_mem _ List.mem_cons_self)), xq_leT rfl (yv_sub2 rfl rfl) (K_.2.2.1 _ (List.mem_cons_of_mem _ (List.mem_cons_of_mem _ List.mem_cons_self))), xq_ltF rfl rfl (K_.2.2.1 _ (List.mem_cons_of_mem _ (List.mem_cons_of_mem _ (List.mem_cons_of_mem _ List.mem_cons_self)))), bpat_of (K_.2.1 _ List.mem_cons_self), fun a_ j_ n0_ => yfr_bp K_.2.2.2 (List.forall_mem_cons.mpr ⟨fun e_ => n0_ ⟨e_.1.symm, e_.2.symm⟩, fun q_ hq => absurd hq List.not_mem_nil⟩), G_⟩))))⟩
-- msaA: 5 steps, 1 ends, 0 returns
def msaA_L : List (Nat × Nat × Nat) := []
def msaA_O : yO := []
def msaA_A : yA := (yZ msaA_L, [], [], [], [])
def msaA_C : List xB := []
def msaA_ss : List yS := [(30, [(0, .index 338), (1, .arg 1), (2, .int 0)], [.arg 1, .arg 1, .index 338], [], [], [])]
def msaA_rs : List yR := []
theorem msaA_w : ywa msaA_A msaA_ss msaA_rs = true := by decide +kernel
theorem msaA_k : yis (yev msaA_A 3000 60 200 [30] (23, [(0, .index 338), (1, .arg 1), (2, .int 0)], [], msaA_O, msaA_C, [])) msaA_ss msaA_rs = true := by decide +kernel
def msaA_r (v1_ : Int32) (k_ : Nat) : Value := bif Nat.beq k_ 1 then .int v1_ else (.int 0)
def msaA_s (n_ : Nat) : Nat := 0
theorem msaA {h_ : xH} {v1_ : Int32} (hs : sHp h_) : ∃ h', ysm h_ h' ∧ (((∀ a_ j_ : Nat, bpat h' a_ j_ = bpat h_ a_ j_) ∧ (bldD 60 200 23 [(0, .index 338), (1, .int v1_), (2, .int (0 : Int32))] [] h_ 30 [(0, .index 338), (1, .int v1_), (2, .int (0 : Int32))] [.int v1_, .int v1_, .index 338] h'))) := by
  have hA : yas msaA_A (msaA_r v1_) (yg msaA_s) := ⟨fun q_ hq => absurd hq List.not_mem_nil, fun q_ hq => absurd hq List.not_mem_nil, fun q_ hq => absurd hq List.not_mem_nil, fun n_ hn => yg_lo hn, fun q_ hq => absurd hq List.not_mem_nil⟩
  have Hs : ysh msaA_A.1 (yg msaA_s) h_ := ysh_of2 hs (fun q_ hq => absurd hq List.not_mem_nil)
  have Ho : ymem (msaA_r v1_) (yg msaA_s) msaA_O h_ := fun q_ hq => absurd hq List.not_mem_nil
  have HC : ∀ q_ ∈ msaA_C, xhold (msaA_r v1_) q_ := fun q_ hq => absurd hq List.not_mem_nil
  rcases yrun (yis_ok msaA_k) hA Hs Ho HC with ⟨q_, hq, h', K_, G_⟩ | ⟨q_, hq, h', K_, G_⟩
  · have e_ := List.mem_singleton.mp hq
    subst e_
    exact ⟨h', yfr_sm K_.2.2.2 hs K_.1 (ywa_s msaA_w List.mem_cons_self), ⟨fun a_ j_ => yfr_bp K_.2.2.2 (fun q_ hq => absurd hq List.not_mem_nil), G_⟩⟩
  · cases hq
-- msaR: 1 steps, 0 ends, 1 returns
def msaR_L : List (Nat × Nat × Nat) := []
def msaR_O : yO := []
def msaR_A : yA := (yZ msaR_L, [], [], [], [])
def msaR_C : List xB := []
def msaR_ss : List yS := []
def msaR_rs : List yR := [(some (.arg 5), [], [], [])]
theorem msaR_w : ywa msaR_A msaR_ss msaR_rs = true := by decide +kernel
theorem msaR_k : yis (yev msaR_A 3000 60 200 [] (33, [(0, .index 338), (1, .arg 1), (2, .int 0)], [.arg 5], msaR_O, msaR_C, [])) msaR_ss msaR_rs = true := by decide +kernel
def msaR_r (v1_ v5 : Int32) (k_ : Nat) : Value := bif Nat.beq k_ 1 then .int v1_ else (bif Nat.beq k_ 5 then .int v5 else (.int 0))
def msaR_s (n_ : Nat) : Nat := 0
theorem msaR {h_ : xH} {v1_ v5 : Int32} (hs : sHp h_) : ∃ h', ysm h_ h' ∧ (((∀ a_ j_ : Nat, bpat h' a_ j_ = bpat h_ a_ j_) ∧ (∀ D_, 60 ≤ D_ → xrun D_ 200 33 [(0, .index 338), (1, .int v1_), (2, .int (0 : Int32))] [.int v5] h_ (some (.int v5), h', [])))) := by
  have hA : yas msaR_A (msaR_r v1_ v5) (yg msaR_s) := ⟨fun q_ hq => absurd hq List.not_mem_nil, fun q_ hq => absurd hq List.not_mem_nil, fun q_ hq => absurd hq List.not_mem_nil, fun n_ hn => yg_lo hn, fun q_ hq => absurd hq List.not_mem_nil⟩
  have Hs : ysh msaR_A.1 (yg msaR_s) h_ := ysh_of2 hs (fun q_ hq => absurd hq List.not_mem_nil)
  have Ho : ymem (msaR_r v1_ v5) (yg msaR_s) msaR_O h_ := fun q_ hq => absurd hq List.not_mem_nil
  have HC : ∀ q_ ∈ msaR_C, xhold (msaR_r v1_ v5) q_ := fun q_ hq => absurd hq List.not_mem_nil
  rcases yrun (yis_ok msaR_k) hA Hs Ho HC with ⟨q_, hq, h', K_, G_⟩ | ⟨q_, hq, h', K_, G_⟩
  · cases hq
  · have e_ := List.mem_singleton.mp hq
    subst e_
    exact ⟨h', yfr_sm K_.2.2.2 hs K_.1 (ywa_r msaR_w List.mem_cons_self), ⟨fun a_ j_ => yfr_bp K_.2.2.2 (fun q_ hq => absurd hq List.not_mem_nil), G_⟩⟩
-- msaB: 10 steps, 1 ends, 0 returns
def msaB_L : List (Nat × Nat × Nat) := []
def msaB_O : yO := [(338, .int 4, .index 342)]
def msaB_A : yA := (yZ msaB_L, [], [], [], [])
def msaB_C : List xB := []
def msaB_ss : List yS := [(46, [(0, .index 338), (1, .arg 1), (2, .int 1)], [.index 342, .add (.int 34) (.mul (.int 13) (.arg 1)), .index 338], [(338, .int 4, .index 342)], [], [])]
def msaB_rs : List yR := []
theorem msaB_w : ywa msaB_A msaB_ss msaB_rs = true := by decide +kernel
theorem msaB_k : yis (yev msaB_A 3000 60 200 [46] (23, [(0, .index 338), (1, .arg 1), (2, .int 1)], [], msaB_O, msaB_C, [])) msaB_ss msaB_rs = true := by decide +kernel
def msaB_r (v1_ : Int32) (k_ : Nat) : Value := bif Nat.beq k_ 1 then .int v1_ else (.int 0)
def msaB_s (n_ : Nat) : Nat := 0
theorem msaB {h_ : xH} {v1_ : Int32} (hs : sHp h_) : ∃ h', ysm h_ h' ∧ (((∀ a_ j_ : Nat, bpat h' a_ j_ = bpat h_ a_ j_) ∧ (bldD 60 200 23 [(0, .index 338), (1, .int v1_), (2, .int (1 : Int32))] [] h_ 46 [(0, .index 338), (1, .int v1_), (2, .int (1 : Int32))] [.index 342, .int ((34 : Int32) + ((13 : Int32) * v1_)), .index 338] h'))) := by
  have hA : yas msaB_A (msaB_r v1_) (yg msaB_s) := ⟨fun q_ hq => absurd hq List.not_mem_nil, fun q_ hq => absurd hq List.not_mem_nil, fun q_ hq => absurd hq List.not_mem_nil, fun n_ hn => yg_lo hn, fun q_ hq => absurd hq List.not_mem_nil⟩
  have Hs : ysh msaB_A.1 (yg msaB_s) h_ := ysh_of2 hs (fun q_ hq => absurd hq List.not_mem_nil)
  have Ho : ymem (msaB_r v1_) (yg msaB_s) msaB_O h_ := List.forall_mem_cons.mpr ⟨bpat_some (fxr_at hs.2 (show fxk fxl 338 4 = some 342 by decide +kernel)), fun q_ hq => absurd hq List.not_mem_nil⟩
  have HC : ∀ q_ ∈ msaB_C, xhold (msaB_r v1_) q_ := fun q_ hq => absurd hq List.not_mem_nil
  rcases yrun (yis_ok msaB_k) hA Hs Ho HC with ⟨q_, hq, h', K_, G_⟩ | ⟨q_, hq, h', K_, G_⟩
  · have e_ := List.mem_singleton.mp hq
    subst e_
    exact ⟨h', yfr_sm K_.2.2.2 hs K_.1 (ywa_s msaB_w List.mem_cons_self), ⟨fun a_ j_ => yfr_bp K_.2.2.2 (fun q_ hq => absurd hq List.not_mem_nil), G_⟩⟩
  · cases hq
-- msaC: 4 steps, 1 ends, 0 returns
def msaC_L : List (Nat × Nat × Nat) := []
def msaC_O : yO := []
def msaC_A : yA := (yZ msaC_L, [], [], [], [])
def msaC_C : List xB := []
def msaC_ss : List yS := [(54, [(4, .int 1), (3, .int 0), (0, .index 338), (1, .arg 1), (2, .int 1)], [], [], [], [])]
def msaC_rs : List yR := []
theorem msaC_w : ywa msaC_A msaC_ss msaC_rs = true := by decide +kernel
theorem msaC_k : yis (yev msaC_A 3000 60 200 [54] (49, [(0, .index 338), (1, .arg 1), (2, .int 1)], [], msaC_O, msaC_C, [])) msaC_ss msaC_rs = true := by decide +kernel
def msaC_r (v1_ : Int32) (k_ : Nat) : Value := bif Nat.beq k_ 1 then .int v1_ else (.int 0)
def msaC_s (n_ : Nat) : Nat := 0
theorem msaC {h_ : xH} {v1_ : Int32} (hs : sHp h_) : ∃ h', ysm h_ h' ∧ (((∀ a_ j_ : Nat, bpat h' a_ j_ = bpat h_ a_ j_) ∧ (bldD 60 200 49 [(0, .index 338), (1, .int v1_), (2, .int (1 : Int32))] [] h_ 54 [(4, .int (1 : Int32)), (3, .int (0 : Int32)), (0, .index 338), (1, .int v1_), (2, .int (1 : Int32))] [] h'))) := by
  have hA : yas msaC_A (msaC_r v1_) (yg msaC_s) := ⟨fun q_ hq => absurd hq List.not_mem_nil, fun q_ hq => absurd hq List.not_mem_nil, fun q_ hq => absurd hq List.not_mem_nil, fun n_ hn => yg_lo hn, fun q_ hq => absurd hq List.not_mem_nil⟩
  have Hs : ysh msaC_A.1 (yg msaC_s) h_ := ysh_of2 hs (fun q_ hq => absurd hq List.not_mem_nil)
  have Ho : ymem (msaC_r v1_) (yg msaC_s) msaC_O h_ := fun q_ hq => absurd hq List.not_mem_nil
  have HC : ∀ q_ ∈ msaC_C, xhold (msaC_r v1_) q_ := fun q_ hq => absurd hq List.not_mem_nil
  rcases yrun (yis_ok msaC_k) hA Hs Ho HC with ⟨q_, hq, h', K_, G_⟩ | ⟨q_, hq, h', K_, G_⟩
  · have e_ := List.mem_singleton.mp hq
    subst e_
    exact ⟨h', yfr_sm K_.2.2.2 hs K_.1 (ywa_s msaC_w List.mem_cons_self), ⟨fun a_ j_ => yfr_bp K_.2.2.2 (fun q_ hq => absurd hq List.not_mem_nil), G_⟩⟩
  · cases hq
-- msaT0: 23 steps, 1 ends, 0 returns
def msaT0_L : List (Nat × Nat × Nat) := []
def msaT0_O : yO := [(338, .int 4, .index 342), (342, .int 0, .arg 300), (342, .arg 4, .arg 302)]
def msaT0_A : yA := (yZ msaT0_L, [(.arg 4, 13)], [], [], [(143, [.arg 302], .arg 500)])
def msaT0_C : List xB := [(.eq, .arg 500, .arg 302, true), (.le, .arg 4, .arg 300, true)]
def msaT0_ss : List yS := [(54, [(4, .add (.arg 4) (.int 1)), (3, .add (.arg 3) (.int 0)), (0, .index 338), (1, .arg 1), (2, .int 1)], [], [(338, .int 4, .index 342), (342, .int 0, .arg 300), (342, .arg 4, .arg 302)], [(.eq, .arg 500, .arg 302, true), (.le, .arg 4, .arg 300, true)], [])]
def msaT0_rs : List yR := []
theorem msaT0_w : ywa msaT0_A msaT0_ss msaT0_rs = true := by decide +kernel
theorem msaT0_k : yis (yev msaT0_A 3000 60 200 [54] (54, [(4, .arg 4), (3, .arg 3), (0, .index 338), (1, .arg 1), (2, .int 1)], [], msaT0_O, msaT0_C, [])) msaT0_ss msaT0_rs = true := by decide +kernel
def msaT0_r (v1_ v3 v4_ v300 v302 v500 : Int32) (k_ : Nat) : Value := bif Nat.beq k_ 1 then .int v1_ else (bif Nat.beq k_ 3 then .int v3 else (bif Nat.beq k_ 4 then .int v4_ else (bif Nat.beq k_ 300 then .int v300 else (bif Nat.beq k_ 302 then .int v302 else (bif Nat.beq k_ 500 then .int v500 else (.int 0))))))
def msaT0_s (n_ : Nat) : Nat := 0
theorem msaT0 {h_ : xH} {v1_ v3 v4_ v300 v302 v500 : Int32} (hs : sHp h_) (o0_ : bpat h_ 342 0 = some (.int v300)) (o1 : bpat h_ 342 (v4_).toInt.toNat = some (.int v302)) (b0 : 0 ≤ (v4_).toInt ∧ (v4_).toInt < 13) (p0_ : ∀ (h_ : xH) (D_ : Nat), 5 ≤ D_ → xrun D_ 143 0 [(0, .int v302)] [] h_ (some (.int v500), h_, [])) (c0_ : v500 = v302) (c1_ : v4_.toInt ≤ v300.toInt) : ∃ h', ysm h_ h' ∧ (((∀ a_ j_ : Nat, bpat h' a_ j_ = bpat h_ a_ j_) ∧ (bldD 60 200 54 [(4, .int v4_), (3, .int v3), (0, .index 338), (1, .int v1_), (2, .int (1 : Int32))] [] h_ 54 [(4, .int (v4_ + (1 : Int32))), (3, .int (v3 + (0 : Int32))), (0, .index 338), (1, .int v1_), (2, .int (1 : Int32))] [] h'))) := by
  have hA : yas msaT0_A (msaT0_r v1_ v3 v4_ v300 v302 v500) (yg msaT0_s) := ⟨List.forall_mem_cons.mpr ⟨b0, fun q_ hq => absurd hq List.not_mem_nil⟩, fun q_ hq => absurd hq List.not_mem_nil, fun q_ hq => absurd hq List.not_mem_nil, fun n_ hn => yg_lo hn, List.forall_mem_cons.mpr ⟨p0_, fun q_ hq => absurd hq List.not_mem_nil⟩⟩
  have Hs : ysh msaT0_A.1 (yg msaT0_s) h_ := ysh_of2 hs (fun q_ hq => absurd hq List.not_mem_nil)
  have Ho : ymem (msaT0_r v1_ v3 v4_ v300 v302 v500) (yg msaT0_s) msaT0_O h_ := List.forall_mem_cons.mpr ⟨bpat_some (fxr_at hs.2 (show fxk fxl 338 4 = some 342 by decide +kernel)), List.forall_mem_cons.mpr ⟨bpat_some o0_, List.forall_mem_cons.mpr ⟨bpat_some o1, fun q_ hq => absurd hq List.not_mem_nil⟩⟩⟩
  have HC : ∀ q_ ∈ msaT0_C, xhold (msaT0_r v1_ v3 v4_ v300 v302 v500) q_ := List.forall_mem_cons.mpr ⟨xh_eqT2 c0_, List.forall_mem_cons.mpr ⟨xh_leT c1_, fun q_ hq => absurd hq List.not_mem_nil⟩⟩
  rcases yrun (yis_ok msaT0_k) hA Hs Ho HC with ⟨q_, hq, h', K_, G_⟩ | ⟨q_, hq, h', K_, G_⟩
  · have e_ := List.mem_singleton.mp hq
    subst e_
    exact ⟨h', yfr_sm K_.2.2.2 hs K_.1 (ywa_s msaT0_w List.mem_cons_self), ⟨fun a_ j_ => yfr_bp K_.2.2.2 (fun q_ hq => absurd hq List.not_mem_nil), G_⟩⟩
  · cases hq
-- msaT1: 22 steps, 1 ends, 0 returns
def msaT1_L : List (Nat × Nat × Nat) := []
def msaT1_O : yO := [(338, .int 4, .index 342), (342, .int 0, .arg 300), (342, .arg 4, .arg 302)]
def msaT1_A : yA := (yZ msaT1_L, [(.arg 4, 13)], [], [], [(143, [.arg 302], .arg 500)])
def msaT1_C : List xB := [(.eq, .arg 500, .arg 302, false), (.le, .arg 4, .arg 300, true)]
def msaT1_ss : List yS := [(54, [(4, .add (.arg 4) (.int 1)), (3, .add (.arg 3) (.int 1)), (0, .index 338), (1, .arg 1), (2, .int 1)], [], [(338, .int 4, .index 342), (342, .int 0, .arg 300), (342, .arg 4, .arg 302)], [(.eq, .arg 500, .arg 302, false), (.le, .arg 4, .arg 300, true)], [])]
def msaT1_rs : List yR := []
theorem msaT1_w : ywa msaT1_A msaT1_ss msaT1_rs = true := by decide +kernel
theorem msaT1_k : yis (yev msaT1_A 3000 60 200 [54] (54, [(4, .arg 4), (3, .arg 3), (0, .index 338), (1, .arg 1), (2, .int 1)], [], msaT1_O, msaT1_C, [])) msaT1_ss msaT1_rs = true := by decide +kernel
def msaT1_r (v1_ v3 v4_ v300 v302 v500 : Int32) (k_ : Nat) : Value := bif Nat.beq k_ 1 then .int v1_ else (bif Nat.beq k_ 3 then .int v3 else (bif Nat.beq k_ 4 then .int v4_ else (bif Nat.beq k_ 300 then .int v300 else (bif Nat.beq k_ 302 then .int v302 else (bif Nat.beq k_ 500 then .int v500 else (.int 0))))))
def msaT1_s (n_ : Nat) : Nat := 0
theorem msaT1 {h_ : xH} {v1_ v3 v4_ v300 v302 v500 : Int32} (hs : sHp h_) (o0_ : bpat h_ 342 0 = some (.int v300)) (o1 : bpat h_ 342 (v4_).toInt.toNat = some (.int v302)) (b0 : 0 ≤ (v4_).toInt ∧ (v4_).toInt < 13) (p0_ : ∀ (h_ : xH) (D_ : Nat), 5 ≤ D_ → xrun D_ 143 0 [(0, .int v302)] [] h_ (some (.int v500), h_, [])) (c0_ : ¬ v500 = v302) (c1_ : v4_.toInt ≤ v300.toInt) : ∃ h', ysm h_ h' ∧ (((∀ a_ j_ : Nat, bpat h' a_ j_ = bpat h_ a_ j_) ∧ (bldD 60 200 54 [(4, .int v4_), (3, .int v3), (0, .index 338), (1, .int v1_), (2, .int (1 : Int32))] [] h_ 54 [(4, .int (v4_ + (1 : Int32))), (3, .int (v3 + (1 : Int32))), (0, .index 338), (1, .int v1_), (2, .int (1 : Int32))] [] h'))) := by
  have hA : yas msaT1_A (msaT1_r v1_ v3 v4_ v300 v302 v500) (yg msaT1_s) := ⟨List.forall_mem_cons.mpr ⟨b0, fun q_ hq => absurd hq List.not_mem_nil⟩, fun q_ hq => absurd hq List.not_mem_nil, fun q_ hq => absurd hq List.not_mem_nil, fun n_ hn => yg_lo hn, List.forall_mem_cons.mpr ⟨p0_, fun q_ hq => absurd hq List.not_mem_nil⟩⟩
  have Hs : ysh msaT1_A.1 (yg msaT1_s) h_ := ysh_of2 hs (fun q_ hq => absurd hq List.not_mem_nil)
  have Ho : ymem (msaT1_r v1_ v3 v4_ v300 v302 v500) (yg msaT1_s) msaT1_O h_ := List.forall_mem_cons.mpr ⟨bpat_some (fxr_at hs.2 (show fxk fxl 338 4 = some 342 by decide +kernel)), List.forall_mem_cons.mpr ⟨bpat_some o0_, List.forall_mem_cons.mpr ⟨bpat_some o1, fun q_ hq => absurd hq List.not_mem_nil⟩⟩⟩
  have HC : ∀ q_ ∈ msaT1_C, xhold (msaT1_r v1_ v3 v4_ v300 v302 v500) q_ := List.forall_mem_cons.mpr ⟨xh_eqF2 c0_, List.forall_mem_cons.mpr ⟨xh_leT c1_, fun q_ hq => absurd hq List.not_mem_nil⟩⟩
  rcases yrun (yis_ok msaT1_k) hA Hs Ho HC with ⟨q_, hq, h', K_, G_⟩ | ⟨q_, hq, h', K_, G_⟩
  · have e_ := List.mem_singleton.mp hq
    subst e_
    exact ⟨h', yfr_sm K_.2.2.2 hs K_.1 (ywa_s msaT1_w List.mem_cons_self), ⟨fun a_ j_ => yfr_bp K_.2.2.2 (fun q_ hq => absurd hq List.not_mem_nil), G_⟩⟩
  · cases hq
-- msaX: 8 steps, 0 ends, 1 returns
def msaX_L : List (Nat × Nat × Nat) := []
def msaX_O : yO := [(338, .int 4, .index 342), (342, .int 0, .arg 300)]
def msaX_A : yA := (yZ msaX_L, [], [], [], [])
def msaX_C : List xB := [(.le, .arg 4, .arg 300, false)]
def msaX_ss : List yS := []
def msaX_rs : List yR := [(some (.arg 3), [(338, .int 4, .index 342), (342, .int 0, .arg 300)], [(.le, .arg 4, .arg 300, false)], [])]
theorem msaX_w : ywa msaX_A msaX_ss msaX_rs = true := by decide +kernel
theorem msaX_k : yis (yev msaX_A 3000 60 200 [] (54, [(4, .arg 4), (3, .arg 3), (0, .index 338), (1, .arg 1), (2, .int 1)], [], msaX_O, msaX_C, [])) msaX_ss msaX_rs = true := by decide +kernel
def msaX_r (v1_ v3 v4_ v300 : Int32) (k_ : Nat) : Value := bif Nat.beq k_ 1 then .int v1_ else (bif Nat.beq k_ 3 then .int v3 else (bif Nat.beq k_ 4 then .int v4_ else (bif Nat.beq k_ 300 then .int v300 else (.int 0))))
def msaX_s (n_ : Nat) : Nat := 0
theorem msaX {h_ : xH} {v1_ v3 v4_ v300 : Int32} (hs : sHp h_) (o0_ : bpat h_ 342 0 = some (.int v300)) (c0_ : v300.toInt < v4_.toInt) : ∃ h', ysm h_ h' ∧ (((∀ a_ j_ : Nat, bpat h' a_ j_ = bpat h_ a_ j_) ∧ (∀ D_, 60 ≤ D_ → xrun D_ 200 54 [(4, .int v4_), (3, .int v3), (0, .index 338), (1, .int v1_), (2, .int (1 : Int32))] [] h_ (some (.int v3), h', [])))) := by
  have hA : yas msaX_A (msaX_r v1_ v3 v4_ v300) (yg msaX_s) := ⟨fun q_ hq => absurd hq List.not_mem_nil, fun q_ hq => absurd hq List.not_mem_nil, fun q_ hq => absurd hq List.not_mem_nil, fun n_ hn => yg_lo hn, fun q_ hq => absurd hq List.not_mem_nil⟩
  have Hs : ysh msaX_A.1 (yg msaX_s) h_ := ysh_of2 hs (fun q_ hq => absurd hq List.not_mem_nil)
  have Ho : ymem (msaX_r v1_ v3 v4_ v300) (yg msaX_s) msaX_O h_ := List.forall_mem_cons.mpr ⟨bpat_some (fxr_at hs.2 (show fxk fxl 338 4 = some 342 by decide +kernel)), List.forall_mem_cons.mpr ⟨bpat_some o0_, fun q_ hq => absurd hq List.not_mem_nil⟩⟩
  have HC : ∀ q_ ∈ msaX_C, xhold (msaX_r v1_ v3 v4_ v300) q_ := List.forall_mem_cons.mpr ⟨xh_leF c0_, fun q_ hq => absurd hq List.not_mem_nil⟩
  rcases yrun (yis_ok msaX_k) hA Hs Ho HC with ⟨q_, hq, h', K_, G_⟩ | ⟨q_, hq, h', K_, G_⟩
  · cases hq
  · have e_ := List.mem_singleton.mp hq
    subst e_
    exact ⟨h', yfr_sm K_.2.2.2 hs K_.1 (ywa_r msaX_w List.mem_cons_self), ⟨fun a_ j_ => yfr_bp K_.2.2.2 (fun q_ hq => absurd hq List.not_mem_nil), G_⟩⟩
section
variable {W_ : Nat → List Int32} {V : Nat → Int32} {h_ : xH}
/-- what a ROCK sends back -/
def stp (W_ : Nat → List Int32) (V : Nat → Int32) (r_ : Nat) (l : List Int32) : List Int32 := sdo (kdV V r_) (mV_ V r_) (W_ 23) l
def rbs (f_ : Nat → List Int32) (g_ : List Int32) (n_ r_ : Nat) (acc : Int32) : Int32 := match n_ with
  | 0 => acc
  | n_ + 1 => rbs f_ g_ n_ (r_ + 1) (acc ||| ((if f_ r_ = g_ then (1 : Int32) else 0) <<< (Int32.ofNat r_ &&& 31)))
theorem way1 {r_ : Nat} (hr : r_ < 8) : wyl (Int32.ofNat (r_ + 1)) = [Int32.ofNat r_] ∧ wln (r_ + 1) = 1 := by
  have k_ : (List.range 8).all (fun r_ => decide (wyl (Int32.ofNat (r_ + 1)) = [Int32.ofNat r_]) && decide (wln (r_ + 1) = 1)) = true := by decide +kernel
  have k1_ := List.all_eq_true.mp k_ r_ (List.mem_range.mpr hr)
  rw [Bool.and_eq_true] at k1_
  exact ⟨of_decide_eq_true k1_.1, of_decide_eq_true k1_.2⟩
theorem isW1 {N_ r_ : Nat} (hN_ : N_ ≤ 8) (hr : r_ < N_) : isW N_ (Int32.ofNat (r_ + 1)) := by
  have e_ : (Int32.ofNat (r_ + 1)).toInt = ((r_ + 1 : Nat) : Int) := i32n (by omega)
  refine ⟨⟨by omega, by omega⟩, ?_⟩
  rw [show (Int32.ofNat (r_ + 1)).toInt.toNat = r_ + 1 by rw [e_]; rfl, (way1 (r_ := r_) (by omega)).2]
  intro j_ hj
  have ej : j_ = 0 := by omega
  subst ej
  rw [Nat.pow_zero, Nat.div_one, Nat.mod_eq_of_lt (by omega)]
  exact ⟨by omega, by omega⟩
theorem hrd1 {r_ : Nat} (hr : r_ < 8) (l : List Int32) : hrd W_ V (Int32.ofNat (r_ + 1)) l = stp W_ V r_ l := by
  unfold hrd
  rw [(way1 hr).1]
  show sdo (kdV V (Int32.ofNat r_).toInt.toNat) (mV_ V (Int32.ofNat r_).toInt.toNat) (W_ 23) l = _
  rw [i32t (by omega)]
  rfl
-- ===== the class
theorem rm_lp (K_ : okS W_ V) {c_ : Nat} (hc_ : c_ < 12) : ∀ (n_ r_ : Nat) (acc : Int32) (h_ : xH), r_ + n_ = nR V → SX W_ V h_ → ∃ h', (SX W_ V h' ∧ ysm h_ h') ∧ ∀ D_, 66 ≤ D_ → xrun D_ 128 5 [(4, .int (Int32.ofNat r_)), (3, .int acc), (0, .index 0), (1, .index (34 + 2 * c_)), (2, .index (34 + 2 * c_))] [] h_ (some (.int (rbs (fun r_ => stp W_ V r_ (W_ c_)) (W_ c_) n_ r_ acc)), h', []) := by
  intro n_
  have n8 := (nR_le K_).1
  have en := (nR_le K_).2
  induction n_ with
  | zero =>
    intro r_ acc h_ hi_ H_
    obtain ⟨s1_, s2_, s3_⟩ := cl_s H_.1 hc_
    obtain ⟨h1, m1_, f1_, r1_⟩ := xrmX (v3 := acc) (v4_ := Int32.ofNat r_) (v300 := V 1) H_.1 s2_ s2_ (SX_v H_ (show ((1, 10), 1) ∈ wvX by decide)) (by rw [en, i32n (by omega), i32n (by omega)]; omega)
    exact ⟨h1, ⟨SX_fr H_ m1_ (fun c_ j_ _ => f1_ c_ j_), m1_⟩, fun D_ hD => r1_ D_ (by omega)⟩
  | succ n_ ih_ =>
    intro r_ acc h_ hi_ H_
    have r8 : r_ < 8 := by omega
    have ir := i32n (i_ := r_) (by omega)
    obtain ⟨s1_, s2_, s3_⟩ := cl_s H_.1 hc_
    obtain ⟨h1, m1_, f1_, ld1⟩ := xrmT (v3 := acc) (v4_ := Int32.ofNat r_) (v300 := V 1) H_.1 s2_ s2_ (SX_v H_ (show ((1, 10), 1) ∈ wvX by decide)) (by rw [en, i32n (by omega), i32n (by omega)]; omega)
    have H1_ := SX_fr H_ m1_ (fun c_ j_ _ => f1_ c_ j_)
    have RC := SX_w H1_ (cl_x hc_)
    obtain ⟨⟨q1_, q2_⟩, q3_, q4_⟩ := rwC_s H1_.1 (Or.inl ⟨rfl, rfl⟩ : rwC 318 319)
    obtain ⟨h2, S2, R2, m2_, f2_, r2⟩ := copyFrom12 H1_.1 q1_ q2_ q3_ RC.2.2.1 RC
    have ld2 := ycv (d_ := 60) (mi := 128) (pc := 22) (cm := 39) (lo_ := [(4, .int (Int32.ofNat r_)), (3, .int acc), (0, .index 0), (1, .index (34 + 2 * c_)), (2, .index (34 + 2 * c_))]) (st_ := [.index (34 + 2 * c_), .index 318]) (as_ := [.index (34 + 2 * c_)]) (s' := []) rfl rfl q1_ rfl (xcc_l (List.forall_mem_cons.mpr ⟨rfl, List.forall_mem_cons.mpr ⟨rfl, List.forall_mem_cons.mpr ⟨xidx_i (bcq_lt (bcq_of (n_ := 0) (z_ := (11, 15)) H1_.1 rfl)), List.forall_mem_cons.mpr ⟨xidx_i (bcq_lt RC.1.1), List.forall_mem_cons.mpr ⟨xidx_i (bcq_lt RC.1.1), fun q_ hq => absurd hq List.not_mem_nil⟩⟩⟩⟩⟩) (fun t_ ht => absurd ht List.not_mem_nil) (Nat.le_of_ble_eq_true rfl)) r2
    have H2_ := SX_fr H1_ m2_ (fun c_ j_ hc_ => f2_ c_ j_ (fun q_ => by rw [q_] at hc_; exact absurd hc_ (by decide)) (fun q_ => by rw [q_] at hc_; exact absurd hc_ (by decide)))
    have R2' : rW 318 319 h2 (W_ c_) := ⟨S2, R2, RC.2.2.1⟩
    obtain ⟨p1_, p2_⟩ := rck_ok (k_ := r_) H2_.1 r8
    have t2_ := (cl_s H2_.1 hc_).2.1
    obtain ⟨h3, m3_, f3_, ld3⟩ := xrmU (v3 := acc) (v4_ := Int32.ofNat r_) H2_.1 t2_ t2_ p2_ (by rw [i32t (by omega)]; exact p1_) ⟨by omega, by omega⟩
    have H3 := SX_fr H2_ m3_ (fun c_ j_ _ => f3_ c_ j_)
    have t3_ := (cl_s H3.1 hc_).2.1
    obtain ⟨h4, ⟨H4, F4⟩, R4, ld4⟩ := c_sb (mi := 128) (pc := 43) (k_ := r_) (lo_ := [(4, .int (Int32.ofNat r_)), (3, .int acc), (0, .index 0), (1, .index (34 + 2 * c_)), (2, .index (34 + 2 * c_))]) (s' := []) rfl (xcc_l (List.forall_mem_cons.mpr ⟨rfl, List.forall_mem_cons.mpr ⟨rfl, List.forall_mem_cons.mpr ⟨xidx_i (bcq_lt (bcq_of (n_ := 0) (z_ := (11, 15)) H3.1 rfl)), List.forall_mem_cons.mpr ⟨xidx_i (bcq_lt t3_), List.forall_mem_cons.mpr ⟨xidx_i (bcq_lt t3_), fun q_ hq => absurd hq List.not_mem_nil⟩⟩⟩⟩⟩) (fun t_ ht => absurd ht List.not_mem_nil) (Nat.le_of_ble_eq_true rfl)) K_ H3 r8 (by decide) (by decide) (by decide) (rW_all R2' m3_ f3_)
    have t4_ := (cl_s H4.1 hc_).2.1
    obtain ⟨h5, m5_, f5_, ld5⟩ := xrmV (v3 := acc) (v4_ := Int32.ofNat r_) H4.1 t4_ t4_
    have H5 := SX_fr H4 m5_ (fun c_ j_ _ => f5_ c_ j_)
    have R5 := rW_all R4 m5_ f5_
    have RC5 := SX_w H5 (cl_x hc_)
    obtain ⟨h6, m6_, f6_, r6⟩ := ilX H5.1 R5.2.1 RC5
    have ld6 := ycv (d_ := 62) (mi := 128) (pc := 51) (cm := 41) (lo_ := [(4, .int (Int32.ofNat r_)), (3, .int acc), (0, .index 0), (1, .index (34 + 2 * c_)), (2, .index (34 + 2 * c_))]) (st_ := [.index (34 + 2 * c_), .index 318]) (as_ := [.index (34 + 2 * c_)]) (s' := []) rfl rfl R5.2.1.1.1 rfl (xcc_l (List.forall_mem_cons.mpr ⟨rfl, List.forall_mem_cons.mpr ⟨rfl, List.forall_mem_cons.mpr ⟨xidx_i (bcq_lt (bcq_of (n_ := 0) (z_ := (11, 15)) H5.1 rfl)), List.forall_mem_cons.mpr ⟨xidx_i (bcq_lt RC5.1.1), List.forall_mem_cons.mpr ⟨xidx_i (bcq_lt RC5.1.1), fun q_ hq => absurd hq List.not_mem_nil⟩⟩⟩⟩⟩) (fun t_ ht => absurd ht List.not_mem_nil) (Nat.le_of_ble_eq_true rfl)) r6
    have H6 := SX_fr H5 m6_ (fun c_ j_ _ => f6_ c_ j_)
    have t6 := (cl_s H6.1 hc_).2.1
    have M6_ := ysm_tr m1_ (ysm_tr m2_ (ysm_tr m3_ (ysm_tr F4.1 (ysm_tr m5_ m6_))))
    have LD_ : bldD 65 128 5 [(4, .int (Int32.ofNat r_)), (3, .int acc), (0, .index 0), (1, .index (34 + 2 * c_)), (2, .index (34 + 2 * c_))] [] h_ 54 [(4, .int (Int32.ofNat r_)), (3, .int acc), (0, .index 0), (1, .index (34 + 2 * c_)), (2, .index (34 + 2 * c_))] [.int (if stp W_ V r_ (W_ c_) = W_ c_ then 1 else 0)] h6 := fun D_ hD oo z_ => ld1 D_ (by omega) _ (ld2 D_ (by omega) _ (ld3 D_ (by omega) _ (ld4 D_ (by omega) _ (ld5 D_ (by omega) _ (ld6 D_ (by omega) oo z_)))))
    have es : rbs (fun r_ => stp W_ V r_ (W_ c_)) (W_ c_) (n_ + 1) r_ acc = rbs (fun r_ => stp W_ V r_ (W_ c_)) (W_ c_) n_ (r_ + 1) (acc ||| ((if stp W_ V r_ (W_ c_) = W_ c_ then (1 : Int32) else 0) <<< (Int32.ofNat r_ &&& 31))) := rfl
    rw [es]
    by_cases g_ : stp W_ V r_ (W_ c_) = W_ c_
    · rw [if_pos g_] at LD_ ⊢
      obtain ⟨h7, m7_, f7_, ld7⟩ := xrmW1 (v3 := acc) (v4_ := Int32.ofNat r_) H6.1 t6 t6
      rw [i32s] at ld7
      obtain ⟨h8, ⟨H8, M8_⟩, r8_⟩ := ih_ (r_ + 1) (acc ||| ((1 : Int32) <<< (Int32.ofNat r_ &&& 31))) h7 (by omega) (SX_fr H6 m7_ (fun c_ j_ _ => f7_ c_ j_))
      exact ⟨h8, ⟨H8, ysm_tr M6_ (ysm_tr m7_ M8_)⟩, fun D_ hD => LD_ D_ (by omega) _ (ld7 D_ (by omega) _ (r8_ D_ hD))⟩
    · rw [if_neg g_] at LD_ ⊢
      obtain ⟨h7, m7_, f7_, ld7⟩ := xrmW0 (v3 := acc) (v4_ := Int32.ofNat r_) H6.1 t6 t6
      rw [i32s] at ld7
      rw [Int32.zero_shiftLeft, Int32.or_zero]
      obtain ⟨h8, ⟨H8, M8_⟩, r8_⟩ := ih_ (r_ + 1) acc h7 (by omega) (SX_fr H6 m7_ (fun c_ j_ _ => f7_ c_ j_))
      exact ⟨h8, ⟨H8, ysm_tr M6_ (ysm_tr m7_ M8_)⟩, fun D_ hD => LD_ D_ (by omega) _ (ld7 D_ (by omega) _ (r8_ D_ hD))⟩
theorem rmX (K_ : okS W_ V) {c_ : Nat} (hc_ : c_ < 12) (H_ : SX W_ V h_) : ∃ h', (SX W_ V h' ∧ ysm h_ h') ∧ ∀ D_, 66 ≤ D_ → xrun D_ 128 0 [(0, .index 0), (1, .index (34 + 2 * c_)), (2, .index (34 + 2 * c_))] [] h_ (some (.int (rbs (fun r_ => stp W_ V r_ (W_ c_)) (W_ c_) (nR V) 0 0)), h', []) := by
  obtain ⟨s1_, s2_, s3_⟩ := cl_s H_.1 hc_
  obtain ⟨h1, m1_, f1_, ld1⟩ := xrmE H_.1 s2_ s2_
  obtain ⟨h2, ⟨H2_, M2_⟩, r2⟩ := rm_lp K_ hc_ (nR V) 0 0 h1 (by omega) (SX_fr H_ m1_ (fun c_ j_ _ => f1_ c_ j_))
  exact ⟨h2, ⟨H2_, ysm_tr m1_ M2_⟩, fun D_ hD => ld1 D_ (by omega) _ (r2 D_ hD)⟩
def safeF (W_ : Nat → List Int32) (V : Nat → Int32) (z_ d_ : Int32) : (Nat → List Int32) × (Nat → Int32) × Int32 := if (0 ≤ z_.toInt ∧ z_.toInt < (V 0).toInt) ∧ (0 ≤ d_.toInt ∧ d_.toInt ≤ 1) then (W_, V, if d_.toInt = 0 then rbs (fun r_ => stp W_ V r_ (W_ z_.toInt.toNat)) (W_ z_.toInt.toNat) (nR V) 0 0 else Int32.ofNat (uns (W_ z_.toInt.toNat))) else (W_, V, Int32.ofInt (-1000001))
theorem ok_safe (K_ : okS W_ V) (z_ d_ : Int32) : okS (safeF W_ V z_ d_).1 (safeF W_ V z_ d_).2.1 := by
  unfold safeF
  split <;> exact K_
end
theorem x_safe {W_ : Nat → List Int32} {V : Nat → Int32} {h_ : xH} {z_ d_ : Int32} (B_ : bInv bZ bIj h_) (K_ : okS W_ V) (H_ : SX W_ V h_) : ∃ h', ysm h_ h' ∧ (SX (safeF W_ V z_ d_).1 (safeF W_ V z_ d_).2.1 h' ∧ ∀ D_, 70 ≤ D_ → xrun D_ 96 0 [(0, .index 0), (1, .int z_), (2, .int d_)] [] h_ (some (.int (safeF W_ V z_ d_).2.2), h', [])) := by
  obtain ⟨y_, oy⟩ := xerr (k_ := 1) B_ (by omega)
  have zz := z0_
  have z1 := i1_
  unfold safeF
  obtain ⟨h0, m0_, e_⟩ := xsaE (v1_ := z_) (v2 := d_) H_.1 (xNc H_) oy
  rcases e_ with ⟨g1, g2, g3_, g4, f_, r_⟩ | ⟨g1, w0_, f_, r_⟩ | ⟨g1, g2, w0_, f_, r_⟩ | ⟨g1, g2, g3_, w0_, f_, r_⟩ | ⟨g1, g2, g3_, g4, w0_, f_, r_⟩
  rotate_left
  · rw [if_neg (fun q_ => by omega)]; exact ⟨h0, m0_, SX_e H_ m0_ f_, fun D_ hD => r_ D_ (by omega)⟩
  · rw [if_neg (fun q_ => by omega)]; exact ⟨h0, m0_, SX_e H_ m0_ f_, fun D_ hD => r_ D_ (by omega)⟩
  · rw [if_neg (fun q_ => by omega)]; exact ⟨h0, m0_, SX_e H_ m0_ f_, fun D_ hD => r_ D_ (by omega)⟩
  · rw [if_neg (fun q_ => by omega)]; exact ⟨h0, m0_, SX_e H_ m0_ f_, fun D_ hD => r_ D_ (by omega)⟩
  have H0 := SX_fr H_ m0_ (fun c_ j_ _ => f_ c_ j_)
  obtain ⟨c_, hc_, hN_, rfl, ec⟩ := isC_n (z_ := z_) K_ ⟨by omega, by omega⟩
  rw [if_pos ⟨⟨by omega, by omega⟩, by omega, by omega⟩, ec]
  obtain ⟨s1_, s2_, s3_⟩ := cl_s H0.1 hc_
  by_cases gd_ : d_.toInt = 0
  · have ed : d_ = 0 := Int32.toInt_inj.mp gd_
    subst ed
    rw [if_pos gd_]
    obtain ⟨h1, m1_, f1_, ld1⟩ := xsaA (v1_ := Int32.ofNat c_) H0.1 s2_ (by rw [ec]; exact s1_) ⟨by omega, by omega⟩
    have H1_ := SX_fr H0 m1_ (fun c_ j_ _ => f1_ c_ j_)
    obtain ⟨h2, ⟨H2_, M2_⟩, r2⟩ := rmX K_ hc_ H1_
    have t1_ := (cl_s H1_.1 hc_).2.1
    have ld2 := ycv (d_ := 66) (mi := 96) (pc := 40) (cm := 128) (lo_ := [(3, .index (34 + 2 * c_)), (0, .index 0), (1, .int (Int32.ofNat c_)), (2, .int 0)]) (st_ := [.index (34 + 2 * c_), .index (34 + 2 * c_), .index 0]) (as_ := [.index (34 + 2 * c_), .index (34 + 2 * c_)]) (s' := []) rfl rfl (bcq_of (n_ := 0) (z_ := (11, 15)) H1_.1 rfl) rfl (xcc_l (List.forall_mem_cons.mpr ⟨xidx_i (bcq_lt t1_), List.forall_mem_cons.mpr ⟨xidx_i (bcq_lt (bcq_of (n_ := 0) (z_ := (11, 15)) H1_.1 rfl)), List.forall_mem_cons.mpr ⟨rfl, List.forall_mem_cons.mpr ⟨rfl, fun q_ hq => absurd hq List.not_mem_nil⟩⟩⟩⟩) (fun t_ ht => absurd ht List.not_mem_nil) (Nat.le_of_ble_eq_true rfl)) r2
    obtain ⟨h3, m3_, f3_, r3⟩ := xsaR (v1_ := Int32.ofNat c_) (v2 := 0) (v5 := rbs (fun r_ => stp W_ V r_ (W_ c_)) (W_ c_) (nR V) 0 0) H2_.1 (cl_s H2_.1 hc_).2.1
    exact ⟨h3, ysm_tr m0_ (ysm_tr m1_ (ysm_tr M2_ m3_)), SX_fr H2_ m3_ (fun c_ j_ _ => f3_ c_ j_), fun D_ hD => r_ D_ (by omega) _ (ld1 D_ (by omega) _ (ld2 D_ (by omega) _ (r3 D_ (by omega))))⟩
  · have ed : d_ = 1 := Int32.toInt_inj.mp (by omega)
    subst ed
    rw [if_neg gd_]
    obtain ⟨h1, m1_, f1_, ld1⟩ := xsaB (v1_ := Int32.ofNat c_) H0.1 s2_ (by rw [ec]; exact s1_) ⟨by omega, by omega⟩
    have H1_ := SX_fr H0 m1_ (fun c_ j_ _ => f1_ c_ j_)
    have RC := SX_w H1_ (cl_x hc_)
    obtain ⟨h2, R2, m2_, f2_, r2⟩ := usX (show rW (34 + 2 * c_) (35 + 2 * c_) h1 (W_ c_) from ⟨H1_.1, RC, RC.2.2.1⟩)
    have t1_ := RC.1.1
    have ld2 := ycv (d_ := 60) (mi := 96) (pc := 47) (cm := 42) (lo_ := [(3, .index (34 + 2 * c_)), (0, .index 0), (1, .int (Int32.ofNat c_)), (2, .int 1)]) (st_ := [.index (34 + 2 * c_)]) (as_ := []) (s' := []) rfl rfl t1_ rfl (xcc_l (List.forall_mem_cons.mpr ⟨xidx_i (bcq_lt t1_), List.forall_mem_cons.mpr ⟨xidx_i (bcq_lt (bcq_of (n_ := 0) (z_ := (11, 15)) H1_.1 rfl)), List.forall_mem_cons.mpr ⟨rfl, List.forall_mem_cons.mpr ⟨rfl, fun q_ hq => absurd hq List.not_mem_nil⟩⟩⟩⟩) (fun t_ ht => absurd ht List.not_mem_nil) (Nat.le_of_ble_eq_true rfl)) r2
    have H2_ := SX_fr H1_ m2_ (fun c_ j_ _ => f2_ c_ j_)
    obtain ⟨h3, m3_, f3_, r3⟩ := xsaQ (v1_ := Int32.ofNat c_) (v2 := 1) (v5 := Int32.ofNat (uns (W_ c_))) H2_.1 (cl_s H2_.1 hc_).2.1
    exact ⟨h3, ysm_tr m0_ (ysm_tr m1_ (ysm_tr m2_ m3_)), SX_fr H2_ m3_ (fun c_ j_ _ => f3_ c_ j_), fun D_ hD => r_ D_ (by omega) _ (ld1 D_ (by omega) _ (ld2 D_ (by omega) _ (r3 D_ (by omega))))⟩
-- ===== the reference
section
variable {W_ : Nat → List Int32} {V : Nat → Int32} {h_ : xH}
theorem cbM (K_ : okS W_ V) {c_ : Nat} (hc_ : c_ < 12) {z_ : Int32} {g_ : List Int32} (gw : isW (nR V) z_) (H_ : SM W_ V h_) (hz : ∀ j_, j_ < 768 → ∃ y_ : Int32, bpat h_ 339 j_ = some (.int y_)) (G_ : rM 344 h_ g_) : ∃ h', (SM W_ V h' ∧ frz 342 h_ h') ∧ (rM 344 h' g_ ∧ ∀ D_, 68 ≤ D_ → xrun D_ 192 0 [(0, .index 338), (1, .int (Int32.ofNat c_)), (2, .int z_), (3, .index 344)] [] h_ (some (.int (if hrd W_ V z_ (W_ c_) = g_ then 1 else 0)), h', [])) := by
  obtain ⟨h0, m0_, f0_, ld0⟩ := mcbA (v1_ := Int32.ofNat c_) (v2 := z_) H_.1
  have H0 := SM_fr H_ m0_ (fun c_ j_ _ => f0_ c_ j_)
  obtain ⟨h1, ⟨H1_, F1_⟩, R1, ld1⟩ := c_hears (mi := 192) (pc := 7) (lo_ := [(0, .index 338), (1, .int (Int32.ofNat c_)), (2, .int z_), (3, .index 344)]) (b_ := 342) (s' := []) rfl (xcc_l (List.forall_mem_cons.mpr ⟨xidx_i (bcq_lt (bcq_of (n_ := 338) (z_ := (12, 26)) H0.1 rfl)), List.forall_mem_cons.mpr ⟨rfl, List.forall_mem_cons.mpr ⟨rfl, List.forall_mem_cons.mpr ⟨xidx_i (bcq_lt (bcq_of (n_ := 344) (z_ := (20, 13)) H0.1 rfl)), fun q_ hq => absurd hq List.not_mem_nil⟩⟩⟩⟩) (fun t_ ht => absurd ht List.not_mem_nil) (Nat.le_of_ble_eq_true rfl)) K_ H0 (Or.inl rfl) hc_ gw (fun j_ hj => by rw [f0_]; exact hz j_ hj)
  have G0_ := rM_all G_ m0_ f0_
  have G1_ : rM 344 h1 g_ := ⟨F1_.1.1, rwm_keep G0_.2.1 F1_.1 (fun j_ _ _ => F1_.2 344 j_ (by omega) (by omega) (by omega)), G0_.2.2⟩
  obtain ⟨h2, m2_, f2_, ld2⟩ := mcbB (v1_ := Int32.ofNat c_) (v2 := z_) H1_.1
  obtain ⟨h3, m3_, f3_, r3⟩ := alM (rM_all R1 m2_ f2_) (rM_all G1_ m2_ f2_)
  have H2_ := SM_fr H1_ m2_ (fun c_ j_ _ => f2_ c_ j_)
  have ld3 := ycs (d_ := 60) (mi := 192) (pc := 15) (cm := 144) (lo_ := [(0, .index 338), (1, .int (Int32.ofNat c_)), (2, .int z_), (3, .index 344)]) (st_ := [.index 344, .index 342]) (as_ := [.index 342, .index 344]) (s' := []) (h_ := h2) rfl rfl rfl (xcc_l (List.forall_mem_cons.mpr ⟨xidx_i (bcq_lt (bcq_of (n_ := 338) (z_ := (12, 26)) H2_.1 rfl)), List.forall_mem_cons.mpr ⟨rfl, List.forall_mem_cons.mpr ⟨rfl, List.forall_mem_cons.mpr ⟨xidx_i (bcq_lt (bcq_of (n_ := 344) (z_ := (20, 13)) H2_.1 rfl)), fun q_ hq => absurd hq List.not_mem_nil⟩⟩⟩⟩) (fun t_ ht => absurd ht List.not_mem_nil) (Nat.le_of_ble_eq_true rfl)) r3
  have H3 := SM_fr H2_ m3_ (fun c_ j_ _ => f3_ c_ j_)
  have G3 := rM_all (rM_all G1_ m2_ f2_) m3_ f3_
  have F3 : frz 342 h_ h3 := frz_tr ⟨m0_, fun c_ j_ _ _ _ => f0_ c_ j_⟩ (frz_tr F1_ (frz_tr ⟨m2_, fun c_ j_ _ _ _ => f2_ c_ j_⟩ ⟨m3_, fun c_ j_ _ _ _ => f3_ c_ j_⟩))
  by_cases q_ : hrd W_ V z_ (W_ c_) = g_
  · rw [if_pos q_] at ld3 ⊢
    obtain ⟨h4, m4_, f4_, r4⟩ := mcbR1 (v1_ := Int32.ofNat c_) (v2 := z_) H3.1
    exact ⟨h4, ⟨SM_fr H3 m4_ (fun c_ j_ _ => f4_ c_ j_), frz_tr F3 ⟨m4_, fun c_ j_ _ _ _ => f4_ c_ j_⟩⟩, rM_all G3 m4_ f4_, fun D_ hD => ld0 D_ (by omega) _ (ld1 D_ (by omega) _ (ld2 D_ (by omega) _ (ld3 D_ (by omega) _ (r4 D_ (by omega)))))⟩
  · rw [if_neg q_] at ld3 ⊢
    obtain ⟨h4, m4_, f4_, r4⟩ := mcbR0 (v1_ := Int32.ofNat c_) (v2 := z_) H3.1
    exact ⟨h4, ⟨SM_fr H3 m4_ (fun c_ j_ _ => f4_ c_ j_), frz_tr F3 ⟨m4_, fun c_ j_ _ _ _ => f4_ c_ j_⟩⟩, rM_all G3 m4_ f4_, fun D_ hD => ld0 D_ (by omega) _ (ld1 D_ (by omega) _ (ld2 D_ (by omega) _ (ld3 D_ (by omega) _ (r4 D_ (by omega)))))⟩
theorem wh_lp (K_ : okS W_ V) {c_ : Nat} (hc_ : c_ < 12) : ∀ (n_ r_ : Nat) (acc : Int32) (h_ : xH), r_ + n_ = nR V → SM W_ V h_ → (∀ j_, j_ < 768 → ∃ y_ : Int32, bpat h_ 339 j_ = some (.int y_)) → rM 344 h_ (W_ c_) → ∃ h', (SM W_ V h' ∧ ysm h_ h') ∧ ∀ D_, 70 ≤ D_ → xrun D_ 193 42 [(4, .int (Int32.ofNat r_)), (3, .int acc), (0, .index 338), (1, .int (Int32.ofNat c_)), (2, .int (Int32.ofNat c_))] [] h_ (some (.int (rbs (fun r_ => stp W_ V r_ (W_ c_)) (W_ c_) n_ r_ acc)), h', []) := by
  intro n_
  have n8 := (nR_le K_).1
  have en := (nR_le K_).2
  induction n_ with
  | zero =>
    intro r_ acc h_ hi_ H_ hz G_
    obtain ⟨h1, m1_, f1_, r1_⟩ := mwhX (v1_ := Int32.ofNat c_) (v2 := Int32.ofNat c_) (v3 := acc) (v4_ := Int32.ofNat r_) (v310 := V 1) H_.1 (SM_v H_ (show (1, 1) ∈ wvM by decide)) (by rw [en, i32n (by omega), i32n (by omega)]; omega)
    exact ⟨h1, ⟨SM_fr H_ m1_ (fun c_ j_ _ => f1_ c_ j_), m1_⟩, fun D_ hD => r1_ D_ (by omega)⟩
  | succ n_ ih_ =>
    intro r_ acc h_ hi_ H_ hz G_
    have r8 : r_ < 8 := by omega
    obtain ⟨h1, m1_, f1_, ld1⟩ := mwhT (v1_ := Int32.ofNat c_) (v2 := Int32.ofNat c_) (v3 := acc) (v4_ := Int32.ofNat r_) (v310 := V 1) H_.1 (SM_v H_ (show (1, 1) ∈ wvM by decide)) (by rw [en, i32n (by omega), i32n (by omega)]; omega)
    rw [i32s] at ld1
    have H1_ := SM_fr H_ m1_ (fun c_ j_ _ => f1_ c_ j_)
    obtain ⟨h2, ⟨H2_, F2⟩, G2_, r2⟩ := cbM (z_ := Int32.ofNat (r_ + 1)) K_ hc_ (isW1 n8 (by omega)) H1_ (fun j_ hj => by rw [f1_]; exact hz j_ hj) (rM_all G_ m1_ f1_)
    rw [hrd1 r8] at r2
    have ld2 := ycv (d_ := 68) (mi := 193) (pc := 64) (cm := 192) (lo_ := [(4, .int (Int32.ofNat r_)), (3, .int acc), (0, .index 338), (1, .int (Int32.ofNat c_)), (2, .int (Int32.ofNat c_))]) (st_ := [.index 344, .int (Int32.ofNat (r_ + 1)), .int (Int32.ofNat c_), .index 338, .int acc]) (as_ := [.int (Int32.ofNat c_), .int (Int32.ofNat (r_ + 1)), .index 344]) (s' := [.int acc]) rfl rfl (bcq_of (n_ := 338) (z_ := (12, 26)) H1_.1 rfl) rfl (xcc_l (List.forall_mem_cons.mpr ⟨rfl, List.forall_mem_cons.mpr ⟨rfl, List.forall_mem_cons.mpr ⟨xidx_i (bcq_lt (bcq_of (n_ := 338) (z_ := (12, 26)) H1_.1 rfl)), List.forall_mem_cons.mpr ⟨rfl, List.forall_mem_cons.mpr ⟨rfl, fun q_ hq => absurd hq List.not_mem_nil⟩⟩⟩⟩⟩) (List.forall_mem_cons.mpr ⟨⟨rfl, rfl⟩, fun t_ ht => absurd ht List.not_mem_nil⟩) (Nat.le_of_ble_eq_true rfl)) r2
    obtain ⟨h3, m3_, f3_, ld3⟩ := mwhU (v1_ := Int32.ofNat c_) (v2 := Int32.ofNat c_) (v3 := acc) (v4_ := Int32.ofNat r_) (v5 := if stp W_ V r_ (W_ c_) = W_ c_ then 1 else 0) (v6 := acc) H2_.1
    rw [i32s] at ld3
    have H3 := SM_fr H2_ m3_ (fun c_ j_ _ => f3_ c_ j_)
    obtain ⟨h4, ⟨H4, M4_⟩, r4⟩ := ih_ (r_ + 1) _ h3 (by omega) H3 (fun j_ hj => by rw [f3_, F2.2 _ _ (by omega) (by omega) (by omega), f1_]; exact hz j_ hj) (rM_all G2_ m3_ f3_)
    exact ⟨h4, ⟨H4, ysm_tr m1_ (ysm_tr F2.1 (ysm_tr m3_ M4_))⟩, fun D_ hD => ld1 D_ (by omega) _ (ld2 D_ (by omega) _ (ld3 D_ (by omega) _ (r4 D_ hD)))⟩
theorem whM (K_ : okS W_ V) {c_ : Nat} (hc_ : c_ < 12) (hN_ : (c_ : Int) < (V 0).toInt) (H_ : SM W_ V h_) (hz : ∀ j_, j_ < 768 → ∃ y_ : Int32, bpat h_ 339 j_ = some (.int y_)) : ∃ h', (SM W_ V h' ∧ ysm h_ h') ∧ ∀ D_, 70 ≤ D_ → xrun D_ 193 0 [(0, .index 338), (1, .int (Int32.ofNat c_)), (2, .int (Int32.ofNat c_))] [] h_ (some (.int (rbs (fun r_ => stp W_ V r_ (W_ c_)) (W_ c_) (nR V) 0 0)), h', []) := by
  have kN_ := okN K_
  have n1_ := i32j (V 0) kN_.1 (by omega)
  have ic := i32n (i_ := c_) (by omega)
  have z0 := z0_
  obtain ⟨h0, m0_, f0_, ld0⟩ := mwhE (v1_ := Int32.ofNat c_) (v2 := Int32.ofNat c_) (v310 := V 0) H_.1 (mNc H_) (by omega) (by omega) (by omega) (by omega)
  rw [i34e hc_] at ld0
  have H0 := SM_fr H_ m0_ (fun c_ j_ _ => f0_ c_ j_)
  obtain ⟨h1, ⟨H1_, F1_⟩, R1, ld1⟩ := c_take (mi := 193) (pc := 34) (lo_ := [(0, .index 338), (1, .int (Int32.ofNat c_)), (2, .int (Int32.ofNat c_))]) (b_ := 344) (s' := []) rfl (xcc_l (List.forall_mem_cons.mpr ⟨xidx_i (bcq_lt (bcq_of (n_ := 338) (z_ := (12, 26)) H0.1 rfl)), List.forall_mem_cons.mpr ⟨rfl, List.forall_mem_cons.mpr ⟨rfl, fun q_ hq => absurd hq List.not_mem_nil⟩⟩⟩) (fun t_ ht => absurd ht List.not_mem_nil) (Nat.le_of_ble_eq_true rfl)) K_ H0 (Or.inr (Or.inr rfl)) hc_ (fun j_ hj => by rw [f0_]; exact hz j_ hj)
  obtain ⟨h2, m2_, f2_, ld2⟩ := mwh0 (v1_ := Int32.ofNat c_) (v2 := Int32.ofNat c_) H1_.1
  obtain ⟨h3, ⟨H3, M3_⟩, r3⟩ := wh_lp K_ hc_ (nR V) 0 0 h2 (by omega) (SM_fr H1_ m2_ (fun c_ j_ _ => f2_ c_ j_)) (fun j_ hj => by rw [f2_, F1_.2 _ _ (by omega), f0_]; exact hz j_ hj) (rM_all R1 m2_ f2_)
  exact ⟨h3, ⟨H3, ysm_tr m0_ (ysm_tr F1_.1 (ysm_tr m2_ M3_))⟩, fun D_ hD => ld0 D_ (by omega) _ (ld1 D_ (by omega) _ (ld2 D_ (by omega) _ (r3 D_ hD)))⟩
theorem us_m {x1_ : Int32} {l : List Int32} (S_ : snds l) : ∀ (n_ i_ k_ : Nat) (h_ : xH), i_ + n_ = l.length → rM 342 h_ l → ∃ h', (ysm h_ h' ∧ ∀ c_ j_, bpat h' c_ j_ = bpat h_ c_ j_) ∧ ∀ D_, 60 ≤ D_ → xrun D_ 200 54 [(4, .int (Int32.ofNat (i_ + 1))), (3, .int (Int32.ofNat k_)), (0, .index 338), (1, .int x1_), (2, .int 1)] [] h_ (some (.int (Int32.ofNat (k_ + uns (l.drop i_)))), h', []) := by
  intro n_
  induction n_ with
  | zero =>
    intro i_ k_ h_ hi_ R_
    have ll := R_.2.2
    obtain ⟨h1, m1_, f1_, r1_⟩ := msaX (v1_ := x1_) (v3 := Int32.ofNat k_) (v4_ := Int32.ofNat (i_ + 1)) (v300 := Int32.ofNat l.length) R_.1 R_.2.1.2.1 (by rw [i32n (by omega), i32n (by omega)]; omega)
    rw [List.drop_eq_nil_of_le (by omega)]
    exact ⟨h1, ⟨m1_, f1_⟩, r1_⟩
  | succ n_ ih_ =>
    intro i_ k_ h_ hi_ R_
    have ll := R_.2.2
    have lt_ : i_ < l.length := by omega
    have ii := i32n (i_ := i_ + 1) (by omega)
    have il := i32n (i_ := l.length) (by omega)
    have o1 := R_.2.1.2.2 i_ _ (List.getElem?_eq_getElem lt_)
    rw [show 0 + 1 + i_ = i_ + 1 by omega] at o1
    have sn := snd_r (S_ _ (List.getElem_mem lt_))
    have ed : uns (l.drop i_) = (if puC_F l[i_] = l[i_] then 0 else 1) + uns (l.drop (i_ + 1)) := by rw [List.drop_eq_getElem_cons lt_]; rfl
    have ep : pmC_F l[i_] = puC_F l[i_] := pu_C sn.1 (by omega)
    rw [ed]
    by_cases g_ : puC_F l[i_] = l[i_]
    · rw [if_pos g_, Nat.zero_add]
      obtain ⟨h1, m1_, f1_, ld1⟩ := msaT0 (v1_ := x1_) (v3 := Int32.ofNat k_) (v4_ := Int32.ofNat (i_ + 1)) (v300 := Int32.ofNat l.length) (v302 := l[i_]) (v500 := pmC_F l[i_]) R_.1 R_.2.1.2.1 (by rw [i32t (by omega)]; exact o1) ⟨by omega, by omega⟩ (fun h_ D_ hD => pmC _ h_ D_ hD) (by rw [ep]; exact g_) (by omega)
      rw [i32s, Int32.add_zero] at ld1
      obtain ⟨h2, ⟨m2_, f2_⟩, r2⟩ := ih_ (i_ + 1) k_ h1 (by omega) (rM_all R_ m1_ f1_)
      exact ⟨h2, ⟨ysm_tr m1_ m2_, fun c_ j_ => (f2_ c_ j_).trans (f1_ c_ j_)⟩, fun D_ hD => ld1 D_ hD _ (r2 D_ hD)⟩
    · rw [if_neg g_, ← Nat.add_assoc]
      obtain ⟨h1, m1_, f1_, ld1⟩ := msaT1 (v1_ := x1_) (v3 := Int32.ofNat k_) (v4_ := Int32.ofNat (i_ + 1)) (v300 := Int32.ofNat l.length) (v302 := l[i_]) (v500 := pmC_F l[i_]) R_.1 R_.2.1.2.1 (by rw [i32t (by omega)]; exact o1) ⟨by omega, by omega⟩ (fun h_ D_ hD => pmC _ h_ D_ hD) (by rw [ep]; exact g_) (by omega)
      rw [i32s, i32s] at ld1
      obtain ⟨h2, ⟨m2_, f2_⟩, r2⟩ := ih_ (i_ + 1) (k_ + 1) h1 (by omega) (rM_all R_ m1_ f1_)
      exact ⟨h2, ⟨ysm_tr m1_ m2_, fun c_ j_ => (f2_ c_ j_).trans (f1_ c_ j_)⟩, fun D_ hD => ld1 D_ hD _ (r2 D_ hD)⟩
end
theorem m_safe {W_ : Nat → List Int32} {V : Nat → Int32} {h_ : xH} {z_ d_ : Int32} (B_ : bInv bZ bIj h_) (K_ : okS W_ V) (H_ : SM W_ V h_) : ∃ h', ysm h_ h' ∧ (SM (safeF W_ V z_ d_).1 (safeF W_ V z_ d_).2.1 h' ∧ ∀ D_, 74 ≤ D_ → xrun D_ 200 0 [(0, .index 338), (1, .int z_), (2, .int d_)] [] h_ (some (.int (safeF W_ V z_ d_).2.2), h', [])) := by
  obtain ⟨y_, oy⟩ := merr (k_ := 1) B_ (by omega)
  have zz := z0_
  have z1 := i1_
  have kN_ := okN K_
  have n1_ := i32j (V 0) kN_.1 (by omega)
  have hz := m339 B_
  unfold safeF
  obtain ⟨h0, m0_, e_⟩ := msaE (v1_ := z_) (v2 := d_) H_.1 (mNc H_) oy
  rcases e_ with ⟨g1, g2, g3_, g4, f_, r_⟩ | ⟨g1, w0_, f_, r_⟩ | ⟨g1, g2, w0_, f_, r_⟩ | ⟨g1, g2, g3_, w0_, f_, r_⟩ | ⟨g1, g2, g3_, g4, w0_, f_, r_⟩
  rotate_left
  · rw [if_neg (fun q_ => by omega)]; exact ⟨h0, m0_, SM_e H_ m0_ f_, fun D_ hD => r_ D_ (by omega)⟩
  · rw [if_neg (fun q_ => by omega)]; exact ⟨h0, m0_, SM_e H_ m0_ f_, fun D_ hD => r_ D_ (by omega)⟩
  · rw [if_neg (fun q_ => by omega)]; exact ⟨h0, m0_, SM_e H_ m0_ f_, fun D_ hD => r_ D_ (by omega)⟩
  · rw [if_neg (fun q_ => by omega)]; exact ⟨h0, m0_, SM_e H_ m0_ f_, fun D_ hD => r_ D_ (by omega)⟩
  have H0 := SM_fr H_ m0_ (fun c_ j_ _ => f_ c_ j_)
  obtain ⟨c_, hc_, hN_, rfl, ec⟩ := isC_n (z_ := z_) K_ ⟨by omega, by omega⟩
  rw [if_pos ⟨⟨by omega, by omega⟩, by omega, by omega⟩, ec]
  by_cases gd_ : d_.toInt = 0
  · have ed : d_ = 0 := Int32.toInt_inj.mp gd_
    subst ed
    rw [if_pos gd_]
    obtain ⟨h1, m1_, f1_, ld1⟩ := msaA (v1_ := Int32.ofNat c_) H0.1
    have H1_ := SM_fr H0 m1_ (fun c_ j_ _ => f1_ c_ j_)
    obtain ⟨h2, ⟨H2_, M2_⟩, r2⟩ := whM K_ hc_ hN_ H1_ (fun j_ hj => by rw [f1_, f_]; exact hz j_ hj)
    have ld2 := ycv (d_ := 70) (mi := 200) (pc := 30) (cm := 193) (lo_ := [(0, .index 338), (1, .int (Int32.ofNat c_)), (2, .int 0)]) (st_ := [.int (Int32.ofNat c_), .int (Int32.ofNat c_), .index 338]) (as_ := [.int (Int32.ofNat c_), .int (Int32.ofNat c_)]) (s' := []) rfl rfl (bcq_of (n_ := 338) (z_ := (12, 26)) H1_.1 rfl) rfl (xcc_l (List.forall_mem_cons.mpr ⟨xidx_i (bcq_lt (bcq_of (n_ := 338) (z_ := (12, 26)) H1_.1 rfl)), List.forall_mem_cons.mpr ⟨rfl, List.forall_mem_cons.mpr ⟨rfl, fun q_ hq => absurd hq List.not_mem_nil⟩⟩⟩) (fun t_ ht => absurd ht List.not_mem_nil) (Nat.le_of_ble_eq_true rfl)) r2
    obtain ⟨h3, m3_, f3_, r3⟩ := msaR (v1_ := Int32.ofNat c_) (v5 := rbs (fun r_ => stp W_ V r_ (W_ c_)) (W_ c_) (nR V) 0 0) H2_.1
    exact ⟨h3, ysm_tr m0_ (ysm_tr m1_ (ysm_tr M2_ m3_)), SM_fr H2_ m3_ (fun c_ j_ _ => f3_ c_ j_), fun D_ hD => r_ D_ (by omega) _ (ld1 D_ (by omega) _ (ld2 D_ (by omega) _ (r3 D_ (by omega))))⟩
  · have ed : d_ = 1 := Int32.toInt_inj.mp (by omega)
    subst ed
    rw [if_neg gd_]
    obtain ⟨h1, m1_, f1_, ld1⟩ := msaB (v1_ := Int32.ofNat c_) H0.1
    rw [i34e hc_] at ld1
    have H1_ := SM_fr H0 m1_ (fun c_ j_ _ => f1_ c_ j_)
    obtain ⟨h2, ⟨H2_, F2⟩, R2, ld2⟩ := c_take (mi := 200) (pc := 46) (lo_ := [(0, .index 338), (1, .int (Int32.ofNat c_)), (2, .int 1)]) (b_ := 342) (s' := []) rfl (xcc_l (List.forall_mem_cons.mpr ⟨xidx_i (bcq_lt (bcq_of (n_ := 338) (z_ := (12, 26)) H1_.1 rfl)), List.forall_mem_cons.mpr ⟨rfl, List.forall_mem_cons.mpr ⟨rfl, fun q_ hq => absurd hq List.not_mem_nil⟩⟩⟩) (fun t_ ht => absurd ht List.not_mem_nil) (Nat.le_of_ble_eq_true rfl)) K_ H1_ (Or.inl rfl) hc_ (fun j_ hj => by rw [f1_, f_]; exact hz j_ hj)
    obtain ⟨h3, m3_, f3_, ld3⟩ := msaC (v1_ := Int32.ofNat c_) H2_.1
    have H3 := SM_fr H2_ m3_ (fun c_ j_ _ => f3_ c_ j_)
    have kc_ := K_.1.2.2.1 c_ hc_
    rw [Nat.zero_add] at kc_
    obtain ⟨h4, ⟨m4_, f4_⟩, r4⟩ := us_m (x1_ := Int32.ofNat c_) kc_.2 (W_ c_).length 0 0 h3 (by omega) (rM_all R2 m3_ f3_)
    rw [List.drop_zero, show 0 + uns (W_ c_) = uns (W_ c_) from Nat.zero_add _] at r4
    exact ⟨h4, ysm_tr m0_ (ysm_tr m1_ (ysm_tr F2.1 (ysm_tr m3_ m4_))), SM_fr H3 m4_ (fun c_ j_ _ => f4_ c_ j_), fun D_ hD => r_ D_ (by omega) _ (ld1 D_ (by omega) _ (ld2 D_ (by omega) _ (ld3 D_ (by omega) _ (r4 D_ (by omega)))))⟩
