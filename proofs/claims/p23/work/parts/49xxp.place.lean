-- ===== place, the class
-- xbc0: 8 steps, 1 ends, 0 returns
def xbc0_L : List (Nat × Nat × Nat) := []
def xbc0_O : yO := []
def xbc0_A : yA := (yZ xbc0_L, [], [], [], [])
def xbc0_C : List xB := []
def xbc0_ss : List yS := [(10, [(0, .op2 .lsub (.arg 52) (.op2 .land (.op2 .lushr (.arg 52) (.int 1)) (.long 6148914691236517205)))], [], [], [], [])]
def xbc0_rs : List yR := []
theorem xbc0_w : ywa xbc0_A xbc0_ss xbc0_rs = true := by decide +kernel
theorem xbc0_k : yis (yev xbc0_A 3000 60 238 [10] (0, [(0, .arg 52)], [], xbc0_O, xbc0_C, [])) xbc0_ss xbc0_rs = true := by decide +kernel
def xbc0_r (w52 : Int64) (k_ : Nat) : Value := bif Nat.beq k_ 52 then .long w52 else (.int 0)
def xbc0_s (n_ : Nat) : Nat := 0
theorem xbc0 {h_ : xH} {w52 : Int64} (hs : sHp h_) : ∃ h', ysm h_ h' ∧ (((∀ a_ j_ : Nat, bpat h' a_ j_ = bpat h_ a_ j_) ∧ (bldD 60 238 0 [(0, .long w52)] [] h_ 10 [(0, .long (w52 - (((w52).toUInt64 >>> (((1 : Int32)).toInt64.toUInt64 &&& Int64.toUInt64 63)).toInt64 &&& (6148914691236517205 : Int64))))] [] h'))) := by
  have hA : yas xbc0_A (xbc0_r w52) (yg xbc0_s) := ⟨fun q_ hq => absurd hq List.not_mem_nil, fun q_ hq => absurd hq List.not_mem_nil, fun q_ hq => absurd hq List.not_mem_nil, fun n_ hn => yg_lo hn, fun q_ hq => absurd hq List.not_mem_nil⟩
  have Hs : ysh xbc0_A.1 (yg xbc0_s) h_ := ysh_of2 hs (fun q_ hq => absurd hq List.not_mem_nil)
  have Ho : ymem (xbc0_r w52) (yg xbc0_s) xbc0_O h_ := fun q_ hq => absurd hq List.not_mem_nil
  have HC : ∀ q_ ∈ xbc0_C, xhold (xbc0_r w52) q_ := fun q_ hq => absurd hq List.not_mem_nil
  rcases yrun (yis_ok xbc0_k) hA Hs Ho HC with ⟨q_, hq, h', K_, G_⟩ | ⟨q_, hq, h', K_, G_⟩
  · have e_ := List.mem_singleton.mp hq
    subst e_
    exact ⟨h', yfr_sm K_.2.2.2 hs K_.1 (ywa_s xbc0_w List.mem_cons_self), ⟨fun a_ j_ => yfr_bp K_.2.2.2 (fun q_ hq => absurd hq List.not_mem_nil), G_⟩⟩
  · cases hq
-- xbc1: 10 steps, 1 ends, 0 returns
def xbc1_L : List (Nat × Nat × Nat) := []
def xbc1_O : yO := []
def xbc1_A : yA := (yZ xbc1_L, [], [], [], [])
def xbc1_C : List xB := []
def xbc1_ss : List yS := [(24, [(0, .op2 .ladd (.op2 .land (.arg 52) (.long 3689348814741910323)) (.op2 .land (.op2 .lushr (.arg 52) (.int 2)) (.long 3689348814741910323)))], [], [], [], [])]
def xbc1_rs : List yR := []
theorem xbc1_w : ywa xbc1_A xbc1_ss xbc1_rs = true := by decide +kernel
theorem xbc1_k : yis (yev xbc1_A 3000 60 238 [24] (10, [(0, .arg 52)], [], xbc1_O, xbc1_C, [])) xbc1_ss xbc1_rs = true := by decide +kernel
def xbc1_r (w52 : Int64) (k_ : Nat) : Value := bif Nat.beq k_ 52 then .long w52 else (.int 0)
def xbc1_s (n_ : Nat) : Nat := 0
theorem xbc1 {h_ : xH} {w52 : Int64} (hs : sHp h_) : ∃ h', ysm h_ h' ∧ (((∀ a_ j_ : Nat, bpat h' a_ j_ = bpat h_ a_ j_) ∧ (bldD 60 238 10 [(0, .long w52)] [] h_ 24 [(0, .long ((w52 &&& (3689348814741910323 : Int64)) + (((w52).toUInt64 >>> (((2 : Int32)).toInt64.toUInt64 &&& Int64.toUInt64 63)).toInt64 &&& (3689348814741910323 : Int64))))] [] h'))) := by
  have hA : yas xbc1_A (xbc1_r w52) (yg xbc1_s) := ⟨fun q_ hq => absurd hq List.not_mem_nil, fun q_ hq => absurd hq List.not_mem_nil, fun q_ hq => absurd hq List.not_mem_nil, fun n_ hn => yg_lo hn, fun q_ hq => absurd hq List.not_mem_nil⟩
  have Hs : ysh xbc1_A.1 (yg xbc1_s) h_ := ysh_of2 hs (fun q_ hq => absurd hq List.not_mem_nil)
  have Ho : ymem (xbc1_r w52) (yg xbc1_s) xbc1_O h_ := fun q_ hq => absurd hq List.not_mem_nil
  have HC : ∀ q_ ∈ xbc1_C, xhold (xbc1_r w52) q_ := fun q_ hq => absurd hq List.not_mem_nil
  rcases yrun (yis_ok xbc1_k) hA Hs Ho HC with ⟨q_, hq, h', K_, G_⟩ | ⟨q_, hq, h', K_, G_⟩
  · have e_ := List.mem_singleton.mp hq
    subst e_
    exact ⟨h', yfr_sm K_.2.2.2 hs K_.1 (ywa_s xbc1_w List.mem_cons_self), ⟨fun a_ j_ => yfr_bp K_.2.2.2 (fun q_ hq => absurd hq List.not_mem_nil), G_⟩⟩
  · cases hq
-- xbc2: 8 steps, 1 ends, 0 returns
def xbc2_L : List (Nat × Nat × Nat) := []
def xbc2_O : yO := []
def xbc2_A : yA := (yZ xbc2_L, [], [], [], [])
def xbc2_C : List xB := []
def xbc2_ss : List yS := [(34, [(0, .op2 .land (.op2 .ladd (.arg 52) (.op2 .lushr (.arg 52) (.int 4))) (.long 1085102592571150095))], [], [], [], [])]
def xbc2_rs : List yR := []
theorem xbc2_w : ywa xbc2_A xbc2_ss xbc2_rs = true := by decide +kernel
theorem xbc2_k : yis (yev xbc2_A 3000 60 238 [34] (24, [(0, .arg 52)], [], xbc2_O, xbc2_C, [])) xbc2_ss xbc2_rs = true := by decide +kernel
def xbc2_r (w52 : Int64) (k_ : Nat) : Value := bif Nat.beq k_ 52 then .long w52 else (.int 0)
def xbc2_s (n_ : Nat) : Nat := 0
theorem xbc2 {h_ : xH} {w52 : Int64} (hs : sHp h_) : ∃ h', ysm h_ h' ∧ (((∀ a_ j_ : Nat, bpat h' a_ j_ = bpat h_ a_ j_) ∧ (bldD 60 238 24 [(0, .long w52)] [] h_ 34 [(0, .long ((w52 + ((w52).toUInt64 >>> (((4 : Int32)).toInt64.toUInt64 &&& Int64.toUInt64 63)).toInt64) &&& (1085102592571150095 : Int64)))] [] h'))) := by
  have hA : yas xbc2_A (xbc2_r w52) (yg xbc2_s) := ⟨fun q_ hq => absurd hq List.not_mem_nil, fun q_ hq => absurd hq List.not_mem_nil, fun q_ hq => absurd hq List.not_mem_nil, fun n_ hn => yg_lo hn, fun q_ hq => absurd hq List.not_mem_nil⟩
  have Hs : ysh xbc2_A.1 (yg xbc2_s) h_ := ysh_of2 hs (fun q_ hq => absurd hq List.not_mem_nil)
  have Ho : ymem (xbc2_r w52) (yg xbc2_s) xbc2_O h_ := fun q_ hq => absurd hq List.not_mem_nil
  have HC : ∀ q_ ∈ xbc2_C, xhold (xbc2_r w52) q_ := fun q_ hq => absurd hq List.not_mem_nil
  rcases yrun (yis_ok xbc2_k) hA Hs Ho HC with ⟨q_, hq, h', K_, G_⟩ | ⟨q_, hq, h', K_, G_⟩
  · have e_ := List.mem_singleton.mp hq
    subst e_
    exact ⟨h', yfr_sm K_.2.2.2 hs K_.1 (ywa_s xbc2_w List.mem_cons_self), ⟨fun a_ j_ => yfr_bp K_.2.2.2 (fun q_ hq => absurd hq List.not_mem_nil), G_⟩⟩
  · cases hq
-- xbc3: 6 steps, 1 ends, 0 returns
def xbc3_L : List (Nat × Nat × Nat) := []
def xbc3_O : yO := []
def xbc3_A : yA := (yZ xbc3_L, [], [], [], [])
def xbc3_C : List xB := []
def xbc3_ss : List yS := [(41, [(0, .op2 .ladd (.arg 52) (.op2 .lushr (.arg 52) (.int 8)))], [], [], [], [])]
def xbc3_rs : List yR := []
theorem xbc3_w : ywa xbc3_A xbc3_ss xbc3_rs = true := by decide +kernel
theorem xbc3_k : yis (yev xbc3_A 3000 60 238 [41] (34, [(0, .arg 52)], [], xbc3_O, xbc3_C, [])) xbc3_ss xbc3_rs = true := by decide +kernel
def xbc3_r (w52 : Int64) (k_ : Nat) : Value := bif Nat.beq k_ 52 then .long w52 else (.int 0)
def xbc3_s (n_ : Nat) : Nat := 0
theorem xbc3 {h_ : xH} {w52 : Int64} (hs : sHp h_) : ∃ h', ysm h_ h' ∧ (((∀ a_ j_ : Nat, bpat h' a_ j_ = bpat h_ a_ j_) ∧ (bldD 60 238 34 [(0, .long w52)] [] h_ 41 [(0, .long (w52 + ((w52).toUInt64 >>> (((8 : Int32)).toInt64.toUInt64 &&& Int64.toUInt64 63)).toInt64))] [] h'))) := by
  have hA : yas xbc3_A (xbc3_r w52) (yg xbc3_s) := ⟨fun q_ hq => absurd hq List.not_mem_nil, fun q_ hq => absurd hq List.not_mem_nil, fun q_ hq => absurd hq List.not_mem_nil, fun n_ hn => yg_lo hn, fun q_ hq => absurd hq List.not_mem_nil⟩
  have Hs : ysh xbc3_A.1 (yg xbc3_s) h_ := ysh_of2 hs (fun q_ hq => absurd hq List.not_mem_nil)
  have Ho : ymem (xbc3_r w52) (yg xbc3_s) xbc3_O h_ := fun q_ hq => absurd hq List.not_mem_nil
  have HC : ∀ q_ ∈ xbc3_C, xhold (xbc3_r w52) q_ := fun q_ hq => absurd hq List.not_mem_nil
  rcases yrun (yis_ok xbc3_k) hA Hs Ho HC with ⟨q_, hq, h', K_, G_⟩ | ⟨q_, hq, h', K_, G_⟩
  · have e_ := List.mem_singleton.mp hq
    subst e_
    exact ⟨h', yfr_sm K_.2.2.2 hs K_.1 (ywa_s xbc3_w List.mem_cons_self), ⟨fun a_ j_ => yfr_bp K_.2.2.2 (fun q_ hq => absurd hq List.not_mem_nil), G_⟩⟩
  · cases hq
-- xbc4: 6 steps, 1 ends, 0 returns
def xbc4_L : List (Nat × Nat × Nat) := []
def xbc4_O : yO := []
def xbc4_A : yA := (yZ xbc4_L, [], [], [], [])
def xbc4_C : List xB := []
def xbc4_ss : List yS := [(48, [(0, .op2 .ladd (.arg 52) (.op2 .lushr (.arg 52) (.int 16)))], [], [], [], [])]
def xbc4_rs : List yR := []
theorem xbc4_w : ywa xbc4_A xbc4_ss xbc4_rs = true := by decide +kernel
theorem xbc4_k : yis (yev xbc4_A 3000 60 238 [48] (41, [(0, .arg 52)], [], xbc4_O, xbc4_C, [])) xbc4_ss xbc4_rs = true := by decide +kernel
def xbc4_r (w52 : Int64) (k_ : Nat) : Value := bif Nat.beq k_ 52 then .long w52 else (.int 0)
def xbc4_s (n_ : Nat) : Nat := 0
theorem xbc4 {h_ : xH} {w52 : Int64} (hs : sHp h_) : ∃ h', ysm h_ h' ∧ (((∀ a_ j_ : Nat, bpat h' a_ j_ = bpat h_ a_ j_) ∧ (bldD 60 238 41 [(0, .long w52)] [] h_ 48 [(0, .long (w52 + ((w52).toUInt64 >>> (((16 : Int32)).toInt64.toUInt64 &&& Int64.toUInt64 63)).toInt64))] [] h'))) := by
  have hA : yas xbc4_A (xbc4_r w52) (yg xbc4_s) := ⟨fun q_ hq => absurd hq List.not_mem_nil, fun q_ hq => absurd hq List.not_mem_nil, fun q_ hq => absurd hq List.not_mem_nil, fun n_ hn => yg_lo hn, fun q_ hq => absurd hq List.not_mem_nil⟩
  have Hs : ysh xbc4_A.1 (yg xbc4_s) h_ := ysh_of2 hs (fun q_ hq => absurd hq List.not_mem_nil)
  have Ho : ymem (xbc4_r w52) (yg xbc4_s) xbc4_O h_ := fun q_ hq => absurd hq List.not_mem_nil
  have HC : ∀ q_ ∈ xbc4_C, xhold (xbc4_r w52) q_ := fun q_ hq => absurd hq List.not_mem_nil
  rcases yrun (yis_ok xbc4_k) hA Hs Ho HC with ⟨q_, hq, h', K_, G_⟩ | ⟨q_, hq, h', K_, G_⟩
  · have e_ := List.mem_singleton.mp hq
    subst e_
    exact ⟨h', yfr_sm K_.2.2.2 hs K_.1 (ywa_s xbc4_w List.mem_cons_self), ⟨fun a_ j_ => yfr_bp K_.2.2.2 (fun q_ hq => absurd hq List.not_mem_nil), G_⟩⟩
  · cases hq
-- xbc5: 6 steps, 1 ends, 0 returns
def xbc5_L : List (Nat × Nat × Nat) := []
def xbc5_O : yO := []
def xbc5_A : yA := (yZ xbc5_L, [], [], [], [])
def xbc5_C : List xB := []
def xbc5_ss : List yS := [(55, [(0, .op2 .ladd (.arg 52) (.op2 .lushr (.arg 52) (.int 32)))], [], [], [], [])]
def xbc5_rs : List yR := []
theorem xbc5_w : ywa xbc5_A xbc5_ss xbc5_rs = true := by decide +kernel
theorem xbc5_k : yis (yev xbc5_A 3000 60 238 [55] (48, [(0, .arg 52)], [], xbc5_O, xbc5_C, [])) xbc5_ss xbc5_rs = true := by decide +kernel
def xbc5_r (w52 : Int64) (k_ : Nat) : Value := bif Nat.beq k_ 52 then .long w52 else (.int 0)
def xbc5_s (n_ : Nat) : Nat := 0
theorem xbc5 {h_ : xH} {w52 : Int64} (hs : sHp h_) : ∃ h', ysm h_ h' ∧ (((∀ a_ j_ : Nat, bpat h' a_ j_ = bpat h_ a_ j_) ∧ (bldD 60 238 48 [(0, .long w52)] [] h_ 55 [(0, .long (w52 + ((w52).toUInt64 >>> (((32 : Int32)).toInt64.toUInt64 &&& Int64.toUInt64 63)).toInt64))] [] h'))) := by
  have hA : yas xbc5_A (xbc5_r w52) (yg xbc5_s) := ⟨fun q_ hq => absurd hq List.not_mem_nil, fun q_ hq => absurd hq List.not_mem_nil, fun q_ hq => absurd hq List.not_mem_nil, fun n_ hn => yg_lo hn, fun q_ hq => absurd hq List.not_mem_nil⟩
  have Hs : ysh xbc5_A.1 (yg xbc5_s) h_ := ysh_of2 hs (fun q_ hq => absurd hq List.not_mem_nil)
  have Ho : ymem (xbc5_r w52) (yg xbc5_s) xbc5_O h_ := fun q_ hq => absurd hq List.not_mem_nil
  have HC : ∀ q_ ∈ xbc5_C, xhold (xbc5_r w52) q_ := fun q_ hq => absurd hq List.not_mem_nil
  rcases yrun (yis_ok xbc5_k) hA Hs Ho HC with ⟨q_, hq, h', K_, G_⟩ | ⟨q_, hq, h', K_, G_⟩
  · have e_ := List.mem_singleton.mp hq
    subst e_
    exact ⟨h', yfr_sm K_.2.2.2 hs K_.1 (ywa_s xbc5_w List.mem_cons_self), ⟨fun a_ j_ => yfr_bp K_.2.2.2 (fun q_ hq => absurd hq List.not_mem_nil), G_⟩⟩
  · cases hq
-- xbc6: 5 steps, 0 ends, 1 returns
def xbc6_L : List (Nat × Nat × Nat) := []
def xbc6_O : yO := []
def xbc6_A : yA := (yZ xbc6_L, [], [], [], [])
def xbc6_C : List xB := []
def xbc6_ss : List yS := []
def xbc6_rs : List yR := [(some (.op2 .iand (.op1 .l2i (.arg 52)) (.int 127)), [], [], [])]
theorem xbc6_w : ywa xbc6_A xbc6_ss xbc6_rs = true := by decide +kernel
theorem xbc6_k : yis (yev xbc6_A 3000 60 238 [] (55, [(0, .arg 52)], [], xbc6_O, xbc6_C, [])) xbc6_ss xbc6_rs = true := by decide +kernel
def xbc6_r (w52 : Int64) (k_ : Nat) : Value := bif Nat.beq k_ 52 then .long w52 else (.int 0)
def xbc6_s (n_ : Nat) : Nat := 0
theorem xbc6 {h_ : xH} {w52 : Int64} (hs : sHp h_) : ∃ h', ysm h_ h' ∧ (((∀ a_ j_ : Nat, bpat h' a_ j_ = bpat h_ a_ j_) ∧ (∀ D_, 60 ≤ D_ → xrun D_ 238 55 [(0, .long w52)] [] h_ (some (.int ((w52).toInt32 &&& (127 : Int32))), h', [])))) := by
  have hA : yas xbc6_A (xbc6_r w52) (yg xbc6_s) := ⟨fun q_ hq => absurd hq List.not_mem_nil, fun q_ hq => absurd hq List.not_mem_nil, fun q_ hq => absurd hq List.not_mem_nil, fun n_ hn => yg_lo hn, fun q_ hq => absurd hq List.not_mem_nil⟩
  have Hs : ysh xbc6_A.1 (yg xbc6_s) h_ := ysh_of2 hs (fun q_ hq => absurd hq List.not_mem_nil)
  have Ho : ymem (xbc6_r w52) (yg xbc6_s) xbc6_O h_ := fun q_ hq => absurd hq List.not_mem_nil
  have HC : ∀ q_ ∈ xbc6_C, xhold (xbc6_r w52) q_ := fun q_ hq => absurd hq List.not_mem_nil
  rcases yrun (yis_ok xbc6_k) hA Hs Ho HC with ⟨q_, hq, h', K_, G_⟩ | ⟨q_, hq, h', K_, G_⟩
  · cases hq
  · have e_ := List.mem_singleton.mp hq
    subst e_
    exact ⟨h', yfr_sm K_.2.2.2 hs K_.1 (ywa_r xbc6_w List.mem_cons_self), ⟨fun a_ j_ => yfr_bp K_.2.2.2 (fun q_ hq => absurd hq List.not_mem_nil), G_⟩⟩
-- xulE: 6 steps, 1 ends, 0 returns
def xulE_L : List (Nat × Nat × Nat) := []
def xulE_O : yO := []
def xulE_A : yA := (yZ xulE_L, [], [], [], [])
def xulE_C : List xB := []
def xulE_ss : List yS := [(8, [(6, .int 0), (4, .long 0), (2, .long 0), (0, .index 155), (1, .arg 1)], [], [], [], [])]
def xulE_rs : List yR := []
theorem xulE_w : ywa xulE_A xulE_ss xulE_rs = true := by decide +kernel
theorem xulE_k : yis (yev xulE_A 3000 60 19 [8] (0, [(0, .index 155), (1, .arg 1)], [], xulE_O, xulE_C, [])) xulE_ss xulE_rs = true := by decide +kernel
def xulE_r (v1_ : Int32) (k_ : Nat) : Value := bif Nat.beq k_ 1 then .int v1_ else (.int 0)
def xulE_s (n_ : Nat) : Nat := 0
theorem xulE {h_ : xH} {v1_ : Int32} (hs : sHp h_) : ∃ h', ysm h_ h' ∧ (((∀ a_ j_ : Nat, bpat h' a_ j_ = bpat h_ a_ j_) ∧ (bldD 60 19 0 [(0, .index 155), (1, .int v1_)] [] h_ 8 [(6, .int (0 : Int32)), (4, .long (0 : Int64)), (2, .long (0 : Int64)), (0, .index 155), (1, .int v1_)] [] h'))) := by
  have hA : yas xulE_A (xulE_r v1_) (yg xulE_s) := ⟨fun q_ hq => absurd hq List.not_mem_nil, fun q_ hq => absurd hq List.not_mem_nil, fun q_ hq => absurd hq List.not_mem_nil, fun n_ hn => yg_lo hn, fun q_ hq => absurd hq List.not_mem_nil⟩
  have Hs : ysh xulE_A.1 (yg xulE_s) h_ := ysh_of2 hs (fun q_ hq => absurd hq List.not_mem_nil)
  have Ho : ymem (xulE_r v1_) (yg xulE_s) xulE_O h_ := fun q_ hq => absurd hq List.not_mem_nil
  have HC : ∀ q_ ∈ xulE_C, xhold (xulE_r v1_) q_ := fun q_ hq => absurd hq List.not_mem_nil
  rcases yrun (yis_ok xulE_k) hA Hs Ho HC with ⟨q_, hq, h', K_, G_⟩ | ⟨q_, hq, h', K_, G_⟩
  · have e_ := List.mem_singleton.mp hq
    subst e_
    exact ⟨h', yfr_sm K_.2.2.2 hs K_.1 (ywa_s xulE_w List.mem_cons_self), ⟨fun a_ j_ => yfr_bp K_.2.2.2 (fun q_ hq => absurd hq List.not_mem_nil), G_⟩⟩
  · cases hq
-- xulSA: 13 steps, 1 ends, 0 returns
def xulSA_L : List (Nat × Nat × Nat) := [(1000, 6, 2)]
def xulSA_O : yO := [(155, .int 2, .arg 300), (155, .int 0, .index 156), (156, .arg 6, .index 1000), (1000, .int 1, .arg 302)]
def xulSA_A : yA := (yZ xulSA_L, [(.arg 6, 73)], [], [], [])
def xulSA_C : List xB := [(.lt, .arg 1, .arg 302, false), (.lt, .arg 6, .arg 300, true)]
def xulSA_ss : List yS := [(8, [(6, .add (.arg 6) (.int 1)), (4, .arg 54), (2, .arg 52), (0, .index 155), (1, .arg 1)], [], [(155, .int 2, .arg 300), (155, .int 0, .index 156), (156, .arg 6, .index 1000), (1000, .int 1, .arg 302)], [(.lt, .arg 1, .arg 302, false), (.lt, .arg 6, .arg 300, true)], [])]
def xulSA_rs : List yR := []
theorem xulSA_w : ywa xulSA_A xulSA_ss xulSA_rs = true := by decide +kernel
theorem xulSA_k : yis (yev xulSA_A 3000 60 19 [8] (8, [(6, .arg 6), (4, .arg 54), (2, .arg 52), (0, .index 155), (1, .arg 1)], [], xulSA_O, xulSA_C, [])) xulSA_ss xulSA_rs = true := by decide +kernel
def xulSA_r (v1_ v6 v300 v302 : Int32) (w52 w54 : Int64) (k_ : Nat) : Value := bif Nat.beq k_ 52 then .long w52 else (bif Nat.beq k_ 54 then .long w54 else (bif Nat.beq k_ 1 then .int v1_ else (bif Nat.beq k_ 6 then .int v6 else (bif Nat.beq k_ 300 then .int v300 else (bif Nat.beq k_ 302 then .int v302 else (.int 0))))))
def xulSA_s (a1000 : Nat) (n_ : Nat) : Nat := bif Nat.beq n_ 1000 then a1000 else (0)
theorem xulSA {h_ : xH} {a1000 : Nat} {v1_ v6 v300 v302 : Int32} {w52 w54 : Int64} (hs : sHp h_) (k1000 : bcq h_ a1000 6 2) (o0_ : bpat h_ 155 2 = some (.int v300)) (o1 : bpat h_ 156 (v6).toInt.toNat = some (.index a1000)) (o2 : bpat h_ a1000 1 = some (.int v302)) (b0 : 0 ≤ (v6).toInt ∧ (v6).toInt < 73) (c0_ : v302.toInt ≤ v1_.toInt) (c1_ : v6.toInt < v300.toInt) : ∃ h', ysm h_ h' ∧ (((∀ a_ j_ : Nat, bpat h' a_ j_ = bpat h_ a_ j_) ∧ (bldD 60 19 8 [(6, .int v6), (4, .long w54), (2, .long w52), (0, .index 155), (1, .int v1_)] [] h_ 8 [(6, .int (v6 + (1 : Int32))), (4, .long w54), (2, .long w52), (0, .index 155), (1, .int v1_)] [] h'))) := by
  have hA : yas xulSA_A (xulSA_r v1_ v6 v300 v302 w52 w54) (yg (xulSA_s a1000)) := ⟨List.forall_mem_cons.mpr ⟨b0, fun q_ hq => absurd hq List.not_mem_nil⟩, fun q_ hq => absurd hq List.not_mem_nil, fun q_ hq => absurd hq List.not_mem_nil, fun n_ hn => yg_lo hn, fun q_ hq => absurd hq List.not_mem_nil⟩
  have Hs : ysh xulSA_A.1 (yg (xulSA_s a1000)) h_ := ysh_of2 hs (List.forall_mem_cons.mpr ⟨⟨by decide, k1000⟩, fun q_ hq => absurd hq List.not_mem_nil⟩)
  have Ho : ymem (xulSA_r v1_ v6 v300 v302 w52 w54) (yg (xulSA_s a1000)) xulSA_O h_ := List.forall_mem_cons.mpr ⟨bpat_some o0_, List.forall_mem_cons.mpr ⟨bpat_some (fxr_at hs.2 (show fxk fxl 155 0 = some 156 by decide +kernel)), List.forall_mem_cons.mpr ⟨bpat_some o1, List.forall_mem_cons.mpr ⟨bpat_some o2, fun q_ hq => absurd hq List.not_mem_nil⟩⟩⟩⟩
  have HC : ∀ q_ ∈ xulSA_C, xhold (xulSA_r v1_ v6 v300 v302 w52 w54) q_ := List.forall_mem_cons.mpr ⟨xh_ltF c0_, List.forall_mem_cons.mpr ⟨xh_ltT c1_, fun q_ hq => absurd hq List.not_mem_nil⟩⟩
  rcases yrun (yis_ok xulSA_k) hA Hs Ho HC with ⟨q_, hq, h', K_, G_⟩ | ⟨q_, hq, h', K_, G_⟩
  · have e_ := List.mem_singleton.mp hq
    subst e_
    exact ⟨h', yfr_sm K_.2.2.2 hs K_.1 (ywa_s xulSA_w List.mem_cons_self), ⟨fun a_ j_ => yfr_bp K_.2.2.2 (fun q_ hq => absurd hq List.not_mem_nil), G_⟩⟩
  · cases hq
-- xulLA: 31 steps, 1 ends, 0 returns
def xulLA_L : List (Nat × Nat × Nat) := [(1000, 6, 2), (1001, 20, 12)]
def xulLA_O : yO := [(155, .int 2, .arg 300), (155, .int 0, .index 156), (156, .arg 6, .index 1000), (1000, .int 1, .arg 302), (1000, .int 0, .index 1001), (1001, .arg 1, .arg 301)]
def xulLA_A : yA := (yZ xulLA_L, [(.arg 6, 73), (.arg 1, 12)], [], [], [])
def xulLA_C : List xB := [(.lt, .arg 301, .int 50, true), (.lt, .arg 1, .arg 302, true), (.lt, .arg 6, .arg 300, true)]
def xulLA_ss : List yS := [(8, [(6, .add (.arg 6) (.int 1)), (2, .op2 .lor (.arg 52) (.op2 .lshl (.long 1) (.arg 301))), (7, .arg 301), (4, .arg 54), (0, .index 155), (1, .arg 1)], [], [(155, .int 2, .arg 300), (155, .int 0, .index 156), (156, .arg 6, .index 1000), (1000, .int 1, .arg 302), (1000, .int 0, .index 1001), (1001, .arg 1, .arg 301)], [(.lt, .arg 301, .int 50, true), (.lt, .arg 1, .arg 302, true), (.lt, .arg 6, .arg 300, true)], [])]
def xulLA_rs : List yR := []
theorem xulLA_w : ywa xulLA_A xulLA_ss xulLA_rs = true := by decide +kernel
theorem xulLA_k : yis (yev xulLA_A 3000 60 19 [8] (8, [(6, .arg 6), (4, .arg 54), (2, .arg 52), (0, .index 155), (1, .arg 1)], [], xulLA_O, xulLA_C, [])) xulLA_ss xulLA_rs = true := by decide +kernel
def xulLA_r (v1_ v6 v300 v301 v302 : Int32) (w52 w54 : Int64) (k_ : Nat) : Value := bif Nat.beq k_ 52 then .long w52 else (bif Nat.beq k_ 54 then .long w54 else (bif Nat.beq k_ 1 then .int v1_ else (bif Nat.beq k_ 6 then .int v6 else (bif Nat.beq k_ 300 then .int v300 else (bif Nat.beq k_ 301 then .int v301 else (bif Nat.beq k_ 302 then .int v302 else (.int 0)))))))
def xulLA_s (a1000 a1001 : Nat) (n_ : Nat) : Nat := bif Nat.beq n_ 1000 then a1000 else (bif Nat.beq n_ 1001 then a1001 else (0))
theorem xulLA {h_ : xH} {a1000 a1001 : Nat} {v1_ v6 v300 v301 v302 : Int32} {w52 w54 : Int64} (hs : sHp h_) (k1000 : bcq h_ a1000 6 2) (k1001 : bcq h_ a1001 20 12) (o0_ : bpat h_ 155 2 = some (.int v300)) (o1 : bpat h_ 156 (v6).toInt.toNat = some (.index a1000)) (o2 : bpat h_ a1000 1 = some (.int v302)) (o3_ : bpat h_ a1000 0 = some (.index a1001)) (o4_ : bpat h_ a1001 (v1_).toInt.toNat = some (.int v301)) (b0 : 0 ≤ (v6).toInt ∧ (v6).toInt < 73) (b1 : 0 ≤ (v1_).toInt ∧ (v1_).toInt < 12) (c0_ : v301.toInt < (50 : Int32).toInt) (c1_ : v1_.toInt < v302.toInt) (c2_ : v6.toInt < v300.toInt) : ∃ h', ysm h_ h' ∧ (((∀ a_ j_ : Nat, bpat h' a_ j_ = bpat h_ a_ j_) ∧ (bldD 60 19 8 [(6, .int v6), (4, .long w54), (2, .long w52), (0, .index 155), (1, .int v1_)] [] h_ 8 [(6, .int (v6 + (1 : Int32))), (2, .long (w52 ||| ((1 : Int64) <<< ((v301).toInt64 &&& 63)))), (7, .int v301), (4, .long w54), (0, .index 155), (1, .int v1_)] [] h'))) := by
  have hA : yas xulLA_A (xulLA_r v1_ v6 v300 v301 v302 w52 w54) (yg (xulLA_s a1000 a1001)) := ⟨List.forall_mem_cons.mpr ⟨b0, List.forall_mem_cons.mpr ⟨b1, fun q_ hq => absurd hq List.not_mem_nil⟩⟩, fun q_ hq => absurd hq List.not_mem_nil, fun q_ hq => absurd hq List.not_mem_nil, fun n_ hn => yg_lo hn, fun q_ hq => absurd hq List.not_mem_nil⟩
  have Hs : ysh xulLA_A.1 (yg (xulLA_s a1000 a1001)) h_ := ysh_of2 hs (List.forall_mem_cons.mpr ⟨⟨by decide, k1000⟩, List.forall_mem_cons.mpr ⟨⟨by decide, k1001⟩, fun q_ hq => absurd hq List.not_mem_nil⟩⟩)
  have Ho : ymem (xulLA_r v1_ v6 v300 v301 v302 w52 w54) (yg (xulLA_s a1000 a1001)) xulLA_O h_ := List.forall_mem_cons.mpr ⟨bpat_some o0_, List.forall_mem_cons.mpr ⟨bpat_some (fxr_at hs.2 (show fxk fxl 155 0 = some 156 by decide +kernel)), List.forall_mem_cons.mpr ⟨bpat_some o1, List.forall_mem_cons.mpr ⟨bpat_some o2, List.forall_mem_cons.mpr ⟨bpat_some o3_, List.forall_mem_cons.mpr ⟨bpat_some o4_, fun q_ hq => absurd hq List.not_mem_nil⟩⟩⟩⟩⟩⟩
  have HC : ∀ q_ ∈ xulLA_C, xhold (xulLA_r v1_ v6 v300 v301 v302 w52 w54) q_ := List.forall_mem_cons.mpr ⟨xh_ltT c0_, List.forall_mem_cons.mpr ⟨xh_ltT c1_, List.forall_mem_cons.mpr ⟨xh_ltT c2_, fun q_ hq => absurd hq List.not_mem_nil⟩⟩⟩
  rcases yrun (yis_ok xulLA_k) hA Hs Ho HC with ⟨q_, hq, h', K_, G_⟩ | ⟨q_, hq, h', K_, G_⟩
  · have e_ := List.mem_singleton.mp hq
    subst e_
    exact ⟨h', yfr_sm K_.2.2.2 hs K_.1 (ywa_s xulLA_w List.mem_cons_self), ⟨fun a_ j_ => yfr_bp K_.2.2.2 (fun q_ hq => absurd hq List.not_mem_nil), G_⟩⟩
  · cases hq
-- xulHA: 32 steps, 1 ends, 0 returns
def xulHA_L : List (Nat × Nat × Nat) := [(1000, 6, 2), (1001, 20, 12)]
def xulHA_O : yO := [(155, .int 2, .arg 300), (155, .int 0, .index 156), (156, .arg 6, .index 1000), (1000, .int 1, .arg 302), (1000, .int 0, .index 1001), (1001, .arg 1, .arg 301)]
def xulHA_A : yA := (yZ xulHA_L, [(.arg 6, 73), (.arg 1, 12)], [], [], [])
def xulHA_C : List xB := [(.lt, .arg 301, .int 50, false), (.lt, .arg 1, .arg 302, true), (.lt, .arg 6, .arg 300, true)]
def xulHA_ss : List yS := [(8, [(6, .add (.arg 6) (.int 1)), (4, .op2 .lor (.arg 54) (.op2 .lshl (.long 1) (.sub (.arg 301) (.int 50)))), (7, .arg 301), (2, .arg 52), (0, .index 155), (1, .arg 1)], [], [(155, .int 2, .arg 300), (155, .int 0, .index 156), (156, .arg 6, .index 1000), (1000, .int 1, .arg 302), (1000, .int 0, .index 1001), (1001, .arg 1, .arg 301)], [(.lt, .arg 301, .int 50, false), (.lt, .arg 1, .arg 302, true), (.lt, .arg 6, .arg 300, true)], [])]
def xulHA_rs : List yR := []
theorem xulHA_w : ywa xulHA_A xulHA_ss xulHA_rs = true := by decide +kernel
theorem xulHA_k : yis (yev xulHA_A 3000 60 19 [8] (8, [(6, .arg 6), (4, .arg 54), (2, .arg 52), (0, .index 155), (1, .arg 1)], [], xulHA_O, xulHA_C, [])) xulHA_ss xulHA_rs = true := by decide +kernel
def xulHA_r (v1_ v6 v300 v301 v302 : Int32) (w52 w54 : Int64) (k_ : Nat) : Value := bif Nat.beq k_ 52 then .long w52 else (bif Nat.beq k_ 54 then .long w54 else (bif Nat.beq k_ 1 then .int v1_ else (bif Nat.beq k_ 6 then .int v6 else (bif Nat.beq k_ 300 then .int v300 else (bif Nat.beq k_ 301 then .int v301 else (bif Nat.beq k_ 302 then .int v302 else (.int 0)))))))
def xulHA_s (a1000 a1001 : Nat) (n_ : Nat) : Nat := bif Nat.beq n_ 1000 then a1000 else (bif Nat.beq n_ 1001 then a1001 else (0))
theorem xulHA {h_ : xH} {a1000 a1001 : Nat} {v1_ v6 v300 v301 v302 : Int32} {w52 w54 : Int64} (hs : sHp h_) (k1000 : bcq h_ a1000 6 2) (k1001 : bcq h_ a1001 20 12) (o0_ : bpat h_ 155 2 = some (.int v300)) (o1 : bpat h_ 156 (v6).toInt.toNat = some (.index a1000)) (o2 : bpat h_ a1000 1 = some (.int v302)) (o3_ : bpat h_ a1000 0 = some (.index a1001)) (o4_ : bpat h_ a1001 (v1_).toInt.toNat = some (.int v301)) (b0 : 0 ≤ (v6).toInt ∧ (v6).toInt < 73) (b1 : 0 ≤ (v1_).toInt ∧ (v1_).toInt < 12) (c0_ : (50 : Int32).toInt ≤ v301.toInt) (c1_ : v1_.toInt < v302.toInt) (c2_ : v6.toInt < v300.toInt) : ∃ h', ysm h_ h' ∧ (((∀ a_ j_ : Nat, bpat h' a_ j_ = bpat h_ a_ j_) ∧ (bldD 60 19 8 [(6, .int v6), (4, .long w54), (2, .long w52), (0, .index 155), (1, .int v1_)] [] h_ 8 [(6, .int (v6 + (1 : Int32))), (4, .long (w54 ||| ((1 : Int64) <<< (((v301 - (50 : Int32))).toInt64 &&& 63)))), (7, .int v301), (2, .long w52), (0, .index 155), (1, .int v1_)] [] h'))) := by
  have hA : yas xulHA_A (xulHA_r v1_ v6 v300 v301 v302 w52 w54) (yg (xulHA_s a1000 a1001)) := ⟨List.forall_mem_cons.mpr ⟨b0, List.forall_mem_cons.mpr ⟨b1, fun q_ hq => absurd hq List.not_mem_nil⟩⟩, fun q_ hq => absurd hq List.not_mem_nil, fun q_ hq => absurd hq List.not_mem_nil, fun n_ hn => yg_lo hn, fun q_ hq => absurd hq List.not_mem_nil⟩
  have Hs : ysh xulHA_A.1 (yg (xulHA_s a1000 a1001)) h_ := ysh_of2 hs (List.forall_mem_cons.mpr ⟨⟨by decide, k1000⟩, List.forall_mem_cons.mpr ⟨⟨by decide, k1001⟩, fun q_ hq => absurd hq List.not_mem_nil⟩⟩)
  have Ho : ymem (xulHA_r v1_ v6 v300 v301 v302 w52 w54) (yg (xulHA_s a1000 a1001)) xulHA_O h_ := List.forall_mem_cons.mpr ⟨bpat_some o0_, List.forall_mem_cons.mpr ⟨bpat_some (fxr_at hs.2 (show fxk fxl 155 0 = some 156 by decide +kernel)), List.forall_mem_cons.mpr ⟨bpat_some o1, List.forall_mem_cons.mpr ⟨bpat_some o2, List.forall_mem_cons.mpr ⟨bpat_some o3_, List.forall_mem_cons.mpr ⟨bpat_some o4_, fun q_ hq => absurd hq List.not_mem_nil⟩⟩⟩⟩⟩⟩
  have HC : ∀ q_ ∈ xulHA_C, xhold (xulHA_r v1_ v6 v300 v301 v302 w52 w54) q_ := List.forall_mem_cons.mpr ⟨xh_ltF c0_, List.forall_mem_cons.mpr ⟨xh_ltT c1_, List.forall_mem_cons.mpr ⟨xh_ltT c2_, fun q_ hq => absurd hq List.not_mem_nil⟩⟩⟩
  rcases yrun (yis_ok xulHA_k) hA Hs Ho HC with ⟨q_, hq, h', K_, G_⟩ | ⟨q_, hq, h', K_, G_⟩
  · have e_ := List.mem_singleton.mp hq
    subst e_
    exact ⟨h', yfr_sm K_.2.2.2 hs K_.1 (ywa_s xulHA_w List.mem_cons_self), ⟨fun a_ j_ => yfr_bp K_.2.2.2 (fun q_ hq => absurd hq List.not_mem_nil), G_⟩⟩
  · cases hq
-- xulXA: 5 steps, 1 ends, 0 returns
def xulXA_L : List (Nat × Nat × Nat) := []
def xulXA_O : yO := [(155, .int 2, .arg 300)]
def xulXA_A : yA := (yZ xulXA_L, [], [], [], [])
def xulXA_C : List xB := [(.lt, .arg 6, .arg 300, false)]
def xulXA_ss : List yS := [(81, [(6, .arg 6), (4, .arg 54), (2, .arg 52), (0, .index 155), (1, .arg 1)], [.arg 52], [(155, .int 2, .arg 300)], [(.lt, .arg 6, .arg 300, false)], [])]
def xulXA_rs : List yR := []
theorem xulXA_w : ywa xulXA_A xulXA_ss xulXA_rs = true := by decide +kernel
theorem xulXA_k : yis (yev xulXA_A 3000 60 19 [81] (8, [(6, .arg 6), (4, .arg 54), (2, .arg 52), (0, .index 155), (1, .arg 1)], [], xulXA_O, xulXA_C, [])) xulXA_ss xulXA_rs = true := by decide +kernel
def xulXA_r (v1_ v6 v300 : Int32) (w52 w54 : Int64) (k_ : Nat) : Value := bif Nat.beq k_ 52 then .long w52 else (bif Nat.beq k_ 54 then .long w54 else (bif Nat.beq k_ 1 then .int v1_ else (bif Nat.beq k_ 6 then .int v6 else (bif Nat.beq k_ 300 then .int v300 else (.int 0)))))
def xulXA_s (n_ : Nat) : Nat := 0
theorem xulXA {h_ : xH} {v1_ v6 v300 : Int32} {w52 w54 : Int64} (hs : sHp h_) (o0_ : bpat h_ 155 2 = some (.int v300)) (c0_ : v300.toInt ≤ v6.toInt) : ∃ h', ysm h_ h' ∧ (((∀ a_ j_ : Nat, bpat h' a_ j_ = bpat h_ a_ j_) ∧ (bldD 60 19 8 [(6, .int v6), (4, .long w54), (2, .long w52), (0, .index 155), (1, .int v1_)] [] h_ 81 [(6, .int v6), (4, .long w54), (2, .long w52), (0, .index 155), (1, .int v1_)] [.long w52] h'))) := by
  have hA : yas xulXA_A (xulXA_r v1_ v6 v300 w52 w54) (yg xulXA_s) := ⟨fun q_ hq => absurd hq List.not_mem_nil, fun q_ hq => absurd hq List.not_mem_nil, fun q_ hq => absurd hq List.not_mem_nil, fun n_ hn => yg_lo hn, fun q_ hq => absurd hq List.not_mem_nil⟩
  have Hs : ysh xulXA_A.1 (yg xulXA_s) h_ := ysh_of2 hs (fun q_ hq => absurd hq List.not_mem_nil)
  have Ho : ymem (xulXA_r v1_ v6 v300 w52 w54) (yg xulXA_s) xulXA_O h_ := List.forall_mem_cons.mpr ⟨bpat_some o0_, fun q_ hq => absurd hq List.not_mem_nil⟩
  have HC : ∀ q_ ∈ xulXA_C, xhold (xulXA_r v1_ v6 v300 w52 w54) q_ := List.forall_mem_cons.mpr ⟨xh_ltF c0_, fun q_ hq => absurd hq List.not_mem_nil⟩
  rcases yrun (yis_ok xulXA_k) hA Hs Ho HC with ⟨q_, hq, h', K_, G_⟩ | ⟨q_, hq, h', K_, G_⟩
  · have e_ := List.mem_singleton.mp hq
    subst e_
    exact ⟨h', yfr_sm K_.2.2.2 hs K_.1 (ywa_s xulXA_w List.mem_cons_self), ⟨fun a_ j_ => yfr_bp K_.2.2.2 (fun q_ hq => absurd hq List.not_mem_nil), G_⟩⟩
  · cases hq
-- xulYA: 1 steps, 1 ends, 0 returns
def xulYA_L : List (Nat × Nat × Nat) := []
def xulYA_O : yO := []
def xulYA_A : yA := (yZ xulYA_L, [], [], [], [])
def xulYA_C : List xB := []
def xulYA_ss : List yS := [(86, [(6, .arg 6), (4, .arg 54), (2, .arg 52), (0, .index 155), (1, .arg 1)], [.arg 54, .arg 8], [], [], [])]
def xulYA_rs : List yR := []
theorem xulYA_w : ywa xulYA_A xulYA_ss xulYA_rs = true := by decide +kernel
theorem xulYA_k : yis (yev xulYA_A 3000 60 19 [86] (84, [(6, .arg 6), (4, .arg 54), (2, .arg 52), (0, .index 155), (1, .arg 1)], [.arg 8], xulYA_O, xulYA_C, [])) xulYA_ss xulYA_rs = true := by decide +kernel
def xulYA_r (v1_ v6 v8 : Int32) (w52 w54 : Int64) (k_ : Nat) : Value := bif Nat.beq k_ 52 then .long w52 else (bif Nat.beq k_ 54 then .long w54 else (bif Nat.beq k_ 1 then .int v1_ else (bif Nat.beq k_ 6 then .int v6 else (bif Nat.beq k_ 8 then .int v8 else (.int 0)))))
def xulYA_s (n_ : Nat) : Nat := 0
theorem xulYA {h_ : xH} {v1_ v6 v8 : Int32} {w52 w54 : Int64} (hs : sHp h_) : ∃ h', ysm h_ h' ∧ (((∀ a_ j_ : Nat, bpat h' a_ j_ = bpat h_ a_ j_) ∧ (bldD 60 19 84 [(6, .int v6), (4, .long w54), (2, .long w52), (0, .index 155), (1, .int v1_)] [.int v8] h_ 86 [(6, .int v6), (4, .long w54), (2, .long w52), (0, .index 155), (1, .int v1_)] [.long w54, .int v8] h'))) := by
  have hA : yas xulYA_A (xulYA_r v1_ v6 v8 w52 w54) (yg xulYA_s) := ⟨fun q_ hq => absurd hq List.not_mem_nil, fun q_ hq => absurd hq List.not_mem_nil, fun q_ hq => absurd hq List.not_mem_nil, fun n_ hn => yg_lo hn, fun q_ hq => absurd hq List.not_mem_nil⟩
  have Hs : ysh xulYA_A.1 (yg xulYA_s) h_ := ysh_of2 hs (fun q_ hq => absurd hq List.not_mem_nil)
  have Ho : ymem (xulYA_r v1_ v6 v8 w52 w54) (yg xulYA_s) xulYA_O h_ := fun q_ hq => absurd hq List.not_mem_nil
  have HC : ∀ q_ ∈ xulYA_C, xhold (xulYA_r v1_ v6 v8 w52 w54) q_ := fun q_ hq => absurd hq List.not_mem_nil
  rcases yrun (yis_ok xulYA_k) hA Hs Ho HC with ⟨q_, hq, h', K_, G_⟩ | ⟨q_, hq, h', K_, G_⟩
  · have e_ := List.mem_singleton.mp hq
    subst e_
    exact ⟨h', yfr_sm K_.2.2.2 hs K_.1 (ywa_s xulYA_w List.mem_cons_self), ⟨fun a_ j_ => yfr_bp K_.2.2.2 (fun q_ hq => absurd hq List.not_mem_nil), G_⟩⟩
  · cases hq
-- xulZA: 2 steps, 0 ends, 1 returns
def xulZA_L : List (Nat × Nat × Nat) := []
def xulZA_O : yO := []
def xulZA_A : yA := (yZ xulZA_L, [], [], [], [])
def xulZA_C : List xB := []
def xulZA_ss : List yS := []
def xulZA_rs : List yR := [(some (.add (.arg 8) (.arg 9)), [], [], [])]
theorem xulZA_w : ywa xulZA_A xulZA_ss xulZA_rs = true := by decide +kernel
theorem xulZA_k : yis (yev xulZA_A 3000 60 19 [] (89, [(6, .arg 6), (4, .arg 54), (2, .arg 52), (0, .index 155), (1, .arg 1)], [.arg 9, .arg 8], xulZA_O, xulZA_C, [])) xulZA_ss xulZA_rs = true := by decide +kernel
def xulZA_r (v1_ v6 v8 v9 : Int32) (w52 w54 : Int64) (k_ : Nat) : Value := bif Nat.beq k_ 52 then .long w52 else (bif Nat.beq k_ 54 then .long w54 else (bif Nat.beq k_ 1 then .int v1_ else (bif Nat.beq k_ 6 then .int v6 else (bif Nat.beq k_ 8 then .int v8 else (bif Nat.beq k_ 9 then .int v9 else (.int 0))))))
def xulZA_s (n_ : Nat) : Nat := 0
theorem xulZA {h_ : xH} {v1_ v6 v8 v9 : Int32} {w52 w54 : Int64} (hs : sHp h_) : ∃ h', ysm h_ h' ∧ (((∀ a_ j_ : Nat, bpat h' a_ j_ = bpat h_ a_ j_) ∧ (∀ D_, 60 ≤ D_ → xrun D_ 19 89 [(6, .int v6), (4, .long w54), (2, .long w52), (0, .index 155), (1, .int v1_)] [.int v9, .int v8] h_ (some (.int (v8 + v9)), h', [])))) := by
  have hA : yas xulZA_A (xulZA_r v1_ v6 v8 v9 w52 w54) (yg xulZA_s) := ⟨fun q_ hq => absurd hq List.not_mem_nil, fun q_ hq => absurd hq List.not_mem_nil, fun q_ hq => absurd hq List.not_mem_nil, fun n_ hn => yg_lo hn, fun q_ hq => absurd hq List.not_mem_nil⟩
  have Hs : ysh xulZA_A.1 (yg xulZA_s) h_ := ysh_of2 hs (fun q_ hq => absurd hq List.not_mem_nil)
  have Ho : ymem (xulZA_r v1_ v6 v8 v9 w52 w54) (yg xulZA_s) xulZA_O h_ := fun q_ hq => absurd hq List.not_mem_nil
  have HC : ∀ q_ ∈ xulZA_C, xhold (xulZA_r v1_ v6 v8 v9 w52 w54) q_ := fun q_ hq => absurd hq List.not_mem_nil
  rcases yrun (yis_ok xulZA_k) hA Hs Ho HC with ⟨q_, hq, h', K_, G_⟩ | ⟨q_, hq, h', K_, G_⟩
  · cases hq
  · have e_ := List.mem_singleton.mp hq
    subst e_
    exact ⟨h', yfr_sm K_.2.2.2 hs K_.1 (ywa_r xulZA_w List.mem_cons_self), ⟨fun a_ j_ => yfr_bp K_.2.2.2 (fun q_ hq => absurd hq List.not_mem_nil), G_⟩⟩
-- xulSB: 13 steps, 1 ends, 0 returns
def xulSB_L : List (Nat × Nat × Nat) := [(1000, 6, 2)]
def xulSB_O : yO := [(155, .int 2, .arg 300), (155, .int 0, .index 156), (156, .arg 6, .index 1000), (1000, .int 1, .arg 302)]
def xulSB_A : yA := (yZ xulSB_L, [(.arg 6, 73)], [], [], [])
def xulSB_C : List xB := [(.lt, .arg 1, .arg 302, false), (.lt, .arg 6, .arg 300, true)]
def xulSB_ss : List yS := [(8, [(6, .add (.arg 6) (.int 1)), (2, .arg 52), (7, .arg 7), (4, .arg 54), (0, .index 155), (1, .arg 1)], [], [(155, .int 2, .arg 300), (155, .int 0, .index 156), (156, .arg 6, .index 1000), (1000, .int 1, .arg 302)], [(.lt, .arg 1, .arg 302, false), (.lt, .arg 6, .arg 300, true)], [])]
def xulSB_rs : List yR := []
theorem xulSB_w : ywa xulSB_A xulSB_ss xulSB_rs = true := by decide +kernel
theorem xulSB_k : yis (yev xulSB_A 3000 60 19 [8] (8, [(6, .arg 6), (2, .arg 52), (7, .arg 7), (4, .arg 54), (0, .index 155), (1, .arg 1)], [], xulSB_O, xulSB_C, [])) xulSB_ss xulSB_rs = true := by decide +kernel
def xulSB_r (v1_ v6 v7 v300 v302 : Int32) (w52 w54 : Int64) (k_ : Nat) : Value := bif Nat.beq k_ 52 then .long w52 else (bif Nat.beq k_ 54 then .long w54 else (bif Nat.beq k_ 1 then .int v1_ else (bif Nat.beq k_ 6 then .int v6 else (bif Nat.beq k_ 7 then .int v7 else (bif Nat.beq k_ 300 then .int v300 else (bif Nat.beq k_ 302 then .int v302 else (.int 0)))))))
def xulSB_s (a1000 : Nat) (n_ : Nat) : Nat := bif Nat.beq n_ 1000 then a1000 else (0)
theorem xulSB {h_ : xH} {a1000 : Nat} {v1_ v6 v7 v300 v302 : Int32} {w52 w54 : Int64} (hs : sHp h_) (k1000 : bcq h_ a1000 6 2) (o0_ : bpat h_ 155 2 = some (.int v300)) (o1 : bpat h_ 156 (v6).toInt.toNat = some (.index a1000)) (o2 : bpat h_ a1000 1 = some (.int v302)) (b0 : 0 ≤ (v6).toInt ∧ (v6).toInt < 73) (c0_ : v302.toInt ≤ v1_.toInt) (c1_ : v6.toInt < v300.toInt) : ∃ h', ysm h_ h' ∧ (((∀ a_ j_ : Nat, bpat h' a_ j_ = bpat h_ a_ j_) ∧ (bldD 60 19 8 [(6, .int v6), (2, .long w52), (7, .int v7), (4, .long w54), (0, .index 155), (1, .int v1_)] [] h_ 8 [(6, .int (v6 + (1 : Int32))), (2, .long w52), (7, .int v7), (4, .long w54), (0, .index 155), (1, .int v1_)] [] h'))) := by
  have hA : yas xulSB_A (xulSB_r v1_ v6 v7 v300 v302 w52 w54) (yg (xulSB_s a1000)) := ⟨List.forall_mem_cons.mpr ⟨b0, fun q_ hq => absurd hq List.not_mem_nil⟩, fun q_ hq => absurd hq List.not_mem_nil, fun q_ hq => absurd hq List.not_mem_nil, fun n_ hn => yg_lo hn, fun q_ hq => absurd hq List.not_mem_nil⟩
  have Hs : ysh xulSB_A.1 (yg (xulSB_s a1000)) h_ := ysh_of2 hs (List.forall_mem_cons.mpr ⟨⟨by decide, k1000⟩, fun q_ hq => absurd hq List.not_mem_nil⟩)
  have Ho : ymem (xulSB_r v1_ v6 v7 v300 v302 w52 w54) (yg (xulSB_s a1000)) xulSB_O h_ := List.forall_mem_cons.mpr ⟨bpat_some o0_, List.forall_mem_cons.mpr ⟨bpat_some (fxr_at hs.2 (show fxk fxl 155 0 = some 156 by decide +kernel)), List.forall_mem_cons.mpr ⟨bpat_some o1, List.forall_mem_cons.mpr ⟨bpat_some o2, fun q_ hq => absurd hq List.not_mem_nil⟩⟩⟩⟩
  have HC : ∀ q_ ∈ xulSB_C, xhold (xulSB_r v1_ v6 v7 v300 v302 w52 w54) q_ := List.forall_mem_cons.mpr ⟨xh_ltF c0_, List.forall_mem_cons.mpr ⟨xh_ltT c1_, fun q_ hq => absurd hq List.not_mem_nil⟩⟩
  rcases yrun (yis_ok xulSB_k) hA Hs Ho HC with ⟨q_, hq, h', K_, G_⟩ | ⟨q_, hq, h', K_, G_⟩
  · have e_ := List.mem_singleton.mp hq
    subst e_
    exact ⟨h', yfr_sm K_.2.2.2 hs K_.1 (ywa_s xulSB_w List.mem_cons_self), ⟨fun a_ j_ => yfr_bp K_.2.2.2 (fun q_ hq => absurd hq List.not_mem_nil), G_⟩⟩
  · cases hq
-- xulLB: 31 steps, 1 ends, 0 returns
def xulLB_L : List (Nat × Nat × Nat) := [(1000, 6, 2), (1001, 20, 12)]
def xulLB_O : yO := [(155, .int 2, .arg 300), (155, .int 0, .index 156), (156, .arg 6, .index 1000), (1000, .int 1, .arg 302), (1000, .int 0, .index 1001), (1001, .arg 1, .arg 301)]
def xulLB_A : yA := (yZ xulLB_L, [(.arg 6, 73), (.arg 1, 12)], [], [], [])
def xulLB_C : List xB := [(.lt, .arg 301, .int 50, true), (.lt, .arg 1, .arg 302, true), (.lt, .arg 6, .arg 300, true)]
def xulLB_ss : List yS := [(8, [(6, .add (.arg 6) (.int 1)), (2, .op2 .lor (.arg 52) (.op2 .lshl (.long 1) (.arg 301))), (7, .arg 301), (4, .arg 54), (0, .index 155), (1, .arg 1)], [], [(155, .int 2, .arg 300), (155, .int 0, .index 156), (156, .arg 6, .index 1000), (1000, .int 1, .arg 302), (1000, .int 0, .index 1001), (1001, .arg 1, .arg 301)], [(.lt, .arg 301, .int 50, true), (.lt, .arg 1, .arg 302, true), (.lt, .arg 6, .arg 300, true)], [])]
def xulLB_rs : List yR := []
theorem xulLB_w : ywa xulLB_A xulLB_ss xulLB_rs = true := by decide +kernel
theorem xulLB_k : yis (yev xulLB_A 3000 60 19 [8] (8, [(6, .arg 6), (2, .arg 52), (7, .arg 7), (4, .arg 54), (0, .index 155), (1, .arg 1)], [], xulLB_O, xulLB_C, [])) xulLB_ss xulLB_rs = true := by decide +kernel
def xulLB_r (v1_ v6 v7 v300 v301 v302 : Int32) (w52 w54 : Int64) (k_ : Nat) : Value := bif Nat.beq k_ 52 then .long w52 else (bif Nat.beq k_ 54 then .long w54 else (bif Nat.beq k_ 1 then .int v1_ else (bif Nat.beq k_ 6 then .int v6 else (bif Nat.beq k_ 7 then .int v7 else (bif Nat.beq k_ 300 then .int v300 else (bif Nat.beq k_ 301 then .int v301 else (bif Nat.beq k_ 302 then .int v302 else (.int 0))))))))
def xulLB_s (a1000 a1001 : Nat) (n_ : Nat) : Nat := bif Nat.beq n_ 1000 then a1000 else (bif Nat.beq n_ 1001 then a1001 else (0))
theorem xulLB {h_ : xH} {a1000 a1001 : Nat} {v1_ v6 v7 v300 v301 v302 : Int32} {w52 w54 : Int64} (hs : sHp h_) (k1000 : bcq h_ a1000 6 2) (k1001 : bcq h_ a1001 20 12) (o0_ : bpat h_ 155 2 = some (.int v300)) (o1 : bpat h_ 156 (v6).toInt.toNat = some (.index a1000)) (o2 : bpat h_ a1000 1 = some (.int v302)) (o3_ : bpat h_ a1000 0 = some (.index a1001)) (o4_ : bpat h_ a1001 (v1_).toInt.toNat = some (.int v301)) (b0 : 0 ≤ (v6).toInt ∧ (v6).toInt < 73) (b1 : 0 ≤ (v1_).toInt ∧ (v1_).toInt < 12) (c0_ : v301.toInt < (50 : Int32).toInt) (c1_ : v1_.toInt < v302.toInt) (c2_ : v6.toInt < v300.toInt) : ∃ h', ysm h_ h' ∧ (((∀ a_ j_ : Nat, bpat h' a_ j_ = bpat h_ a_ j_) ∧ (bldD 60 19 8 [(6, .int v6), (2, .long w52), (7, .int v7), (4, .long w54), (0, .index 155), (1, .int v1_)] [] h_ 8 [(6, .int (v6 + (1 : Int32))), (2, .long (w52 ||| ((1 : Int64) <<< ((v301).toInt64 &&& 63)))), (7, .int v301), (4, .long w54), (0, .index 155), (1, .int v1_)] [] h'))) := by
  have hA : yas xulLB_A (xulLB_r v1_ v6 v7 v300 v301 v302 w52 w54) (yg (xulLB_s a1000 a1001)) := ⟨List.forall_mem_cons.mpr ⟨b0, List.forall_mem_cons.mpr ⟨b1, fun q_ hq => absurd hq List.not_mem_nil⟩⟩, fun q_ hq => absurd hq List.not_mem_nil, fun q_ hq => absurd hq List.not_mem_nil, fun n_ hn => yg_lo hn, fun q_ hq => absurd hq List.not_mem_nil⟩
  have Hs : ysh xulLB_A.1 (yg (xulLB_s a1000 a1001)) h_ := ysh_of2 hs (List.forall_mem_cons.mpr ⟨⟨by decide, k1000⟩, List.forall_mem_cons.mpr ⟨⟨by decide, k1001⟩, fun q_ hq => absurd hq List.not_mem_nil⟩⟩)
  have Ho : ymem (xulLB_r v1_ v6 v7 v300 v301 v302 w52 w54) (yg (xulLB_s a1000 a1001)) xulLB_O h_ := List.forall_mem_cons.mpr ⟨bpat_some o0_, List.forall_mem_cons.mpr ⟨bpat_some (fxr_at hs.2 (show fxk fxl 155 0 = some 156 by decide +kernel)), List.forall_mem_cons.mpr ⟨bpat_some o1, List.forall_mem_cons.mpr ⟨bpat_some o2, List.forall_mem_cons.mpr ⟨bpat_some o3_, List.forall_mem_cons.mpr ⟨bpat_some o4_, fun q_ hq => absurd hq List.not_mem_nil⟩⟩⟩⟩⟩⟩
  have HC : ∀ q_ ∈ xulLB_C, xhold (xulLB_r v1_ v6 v7 v300 v301 v302 w52 w54) q_ := List.forall_mem_cons.mpr ⟨xh_ltT c0_, List.forall_mem_cons.mpr ⟨xh_ltT c1_, List.forall_mem_cons.mpr ⟨xh_ltT c2_, fun q_ hq => absurd hq List.not_mem_nil⟩⟩⟩
  rcases yrun (yis_ok xulLB_k) hA Hs Ho HC with ⟨q_, hq, h', K_, G_⟩ | ⟨q_, hq, h', K_, G_⟩
  · have e_ := List.mem_singleton.mp hq
    subst e_
    exact ⟨h', yfr_sm K_.2.2.2 hs K_.1 (ywa_s xulLB_w List.mem_cons_self), ⟨fun a_ j_ => yfr_bp K_.2.2.2 (fun q_ hq => absurd hq List.not_mem_nil), G_⟩⟩
  · cases hq
-- xulHB: 32 steps, 1 ends, 0 returns
def xulHB_L : List (Nat × Nat × Nat) := [(1000, 6, 2), (1001, 20, 12)]
def xulHB_O : yO := [(155, .int 2, .arg 300), (155, .int 0, .index 156), (156, .arg 6, .index 1000), (1000, .int 1, .arg 302), (1000, .int 0, .index 1001), (1001, .arg 1, .arg 301)]
def xulHB_A : yA := (yZ xulHB_L, [(.arg 6, 73), (.arg 1, 12)], [], [], [])
def xulHB_C : List xB := [(.lt, .arg 301, .int 50, false), (.lt, .arg 1, .arg 302, true), (.lt, .arg 6, .arg 300, true)]
def xulHB_ss : List yS := [(8, [(6, .add (.arg 6) (.int 1)), (4, .op2 .lor (.arg 54) (.op2 .lshl (.long 1) (.sub (.arg 301) (.int 50)))), (7, .arg 301), (2, .arg 52), (0, .index 155), (1, .arg 1)], [], [(155, .int 2, .arg 300), (155, .int 0, .index 156), (156, .arg 6, .index 1000), (1000, .int 1, .arg 302), (1000, .int 0, .index 1001), (1001, .arg 1, .arg 301)], [(.lt, .arg 301, .int 50, false), (.lt, .arg 1, .arg 302, true), (.lt, .arg 6, .arg 300, true)], [])]
def xulHB_rs : List yR := []
theorem xulHB_w : ywa xulHB_A xulHB_ss xulHB_rs = true := by decide +kernel
theorem xulHB_k : yis (yev xulHB_A 3000 60 19 [8] (8, [(6, .arg 6), (2, .arg 52), (7, .arg 7), (4, .arg 54), (0, .index 155), (1, .arg 1)], [], xulHB_O, xulHB_C, [])) xulHB_ss xulHB_rs = true := by decide +kernel
def xulHB_r (v1_ v6 v7 v300 v301 v302 : Int32) (w52 w54 : Int64) (k_ : Nat) : Value := bif Nat.beq k_ 52 then .long w52 else (bif Nat.beq k_ 54 then .long w54 else (bif Nat.beq k_ 1 then .int v1_ else (bif Nat.beq k_ 6 then .int v6 else (bif Nat.beq k_ 7 then .int v7 else (bif Nat.beq k_ 300 then .int v300 else (bif Nat.beq k_ 301 then .int v301 else (bif Nat.beq k_ 302 then .int v302 else (.int 0))))))))
def xulHB_s (a1000 a1001 : Nat) (n_ : Nat) : Nat := bif Nat.beq n_ 1000 then a1000 else (bif Nat.beq n_ 1001 then a1001 else (0))
theorem xulHB {h_ : xH} {a1000 a1001 : Nat} {v1_ v6 v7 v300 v301 v302 : Int32} {w52 w54 : Int64} (hs : sHp h_) (k1000 : bcq h_ a1000 6 2) (k1001 : bcq h_ a1001 20 12) (o0_ : bpat h_ 155 2 = some (.int v300)) (o1 : bpat h_ 156 (v6).toInt.toNat = some (.index a1000)) (o2 : bpat h_ a1000 1 = some (.int v302)) (o3_ : bpat h_ a1000 0 = some (.index a1001)) (o4_ : bpat h_ a1001 (v1_).toInt.toNat = some (.int v301)) (b0 : 0 ≤ (v6).toInt ∧ (v6).toInt < 73) (b1 : 0 ≤ (v1_).toInt ∧ (v1_).toInt < 12) (c0_ : (50 : Int32).toInt ≤ v301.toInt) (c1_ : v1_.toInt < v302.toInt) (c2_ : v6.toInt < v300.toInt) : ∃ h', ysm h_ h' ∧ (((∀ a_ j_ : Nat, bpat h' a_ j_ = bpat h_ a_ j_) ∧ (bldD 60 19 8 [(6, .int v6), (2, .long w52), (7, .int v7), (4, .long w54), (0, .index 155), (1, .int v1_)] [] h_ 8 [(6, .int (v6 + (1 : Int32))), (4, .long (w54 ||| ((1 : Int64) <<< (((v301 - (50 : Int32))).toInt64 &&& 63)))), (7, .int v301), (2, .long w52), (0, .index 155), (1, .int v1_)] [] h'))) := by
  have hA : yas xulHB_A (xulHB_r v1_ v6 v7 v300 v301 v302 w52 w54) (yg (xulHB_s a1000 a1001)) := ⟨List.forall_mem_cons.mpr ⟨b0, List.forall_mem_cons.mpr ⟨b1, fun q_ hq => absurd hq List.not_mem_nil⟩⟩, fun q_ hq => absurd hq List.not_mem_nil, fun q_ hq => absurd hq List.not_mem_nil, fun n_ hn => yg_lo hn, fun q_ hq => absurd hq List.not_mem_nil⟩
  have Hs : ysh xulHB_A.1 (yg (xulHB_s a1000 a1001)) h_ := ysh_of2 hs (List.forall_mem_cons.mpr ⟨⟨by decide, k1000⟩, List.forall_mem_cons.mpr ⟨⟨by decide, k1001⟩, fun q_ hq => absurd hq List.not_mem_nil⟩⟩)
  have Ho : ymem (xulHB_r v1_ v6 v7 v300 v301 v302 w52 w54) (yg (xulHB_s a1000 a1001)) xulHB_O h_ := List.forall_mem_cons.mpr ⟨bpat_some o0_, List.forall_mem_cons.mpr ⟨bpat_some (fxr_at hs.2 (show fxk fxl 155 0 = some 156 by decide +kernel)), List.forall_mem_cons.mpr ⟨bpat_some o1, List.forall_mem_cons.mpr ⟨bpat_some o2, List.forall_mem_cons.mpr ⟨bpat_some o3_, List.forall_mem_cons.mpr ⟨bpat_some o4_, fun q_ hq => absurd hq List.not_mem_nil⟩⟩⟩⟩⟩⟩
  have HC : ∀ q_ ∈ xulHB_C, xhold (xulHB_r v1_ v6 v7 v300 v301 v302 w52 w54) q_ := List.forall_mem_cons.mpr ⟨xh_ltF c0_, List.forall_mem_cons.mpr ⟨xh_ltT c1_, List.forall_mem_cons.mpr ⟨xh_ltT c2_, fun q_ hq => absurd hq List.not_mem_nil⟩⟩⟩
  rcases yrun (yis_ok xulHB_k) hA Hs Ho HC with ⟨q_, hq, h', K_, G_⟩ | ⟨q_, hq, h', K_, G_⟩
  · have e_ := List.mem_singleton.mp hq
    subst e_
    exact ⟨h', yfr_sm K_.2.2.2 hs K_.1 (ywa_s xulHB_w List.mem_cons_self), ⟨fun a_ j_ => yfr_bp K_.2.2.2 (fun q_ hq => absurd hq List.not_mem_nil), G_⟩⟩
  · cases hq
-- xulXB: 5 steps, 1 ends, 0 returns
def xulXB_L : List (Nat × Nat × Nat) := []
def xulXB_O : yO := [(155, .int 2, .arg 300)]
def xulXB_A : yA := (yZ xulXB_L, [], [], [], [])
def xulXB_C : List xB := [(.lt, .arg 6, .arg 300, false)]
def xulXB_ss : List yS := [(81, [(6, .arg 6), (2, .arg 52), (7, .arg 7), (4, .arg 54), (0, .index 155), (1, .arg 1)], [.arg 52], [(155, .int 2, .arg 300)], [(.lt, .arg 6, .arg 300, false)], [])]
def xulXB_rs : List yR := []
theorem xulXB_w : ywa xulXB_A xulXB_ss xulXB_rs = true := by decide +kernel
theorem xulXB_k : yis (yev xulXB_A 3000 60 19 [81] (8, [(6, .arg 6), (2, .arg 52), (7, .arg 7), (4, .arg 54), (0, .index 155), (1, .arg 1)], [], xulXB_O, xulXB_C, [])) xulXB_ss xulXB_rs = true := by decide +kernel
def xulXB_r (v1_ v6 v7 v300 : Int32) (w52 w54 : Int64) (k_ : Nat) : Value := bif Nat.beq k_ 52 then .long w52 else (bif Nat.beq k_ 54 then .long w54 else (bif Nat.beq k_ 1 then .int v1_ else (bif Nat.beq k_ 6 then .int v6 else (bif Nat.beq k_ 7 then .int v7 else (bif Nat.beq k_ 300 then .int v300 else (.int 0))))))
def xulXB_s (n_ : Nat) : Nat := 0
theorem xulXB {h_ : xH} {v1_ v6 v7 v300 : Int32} {w52 w54 : Int64} (hs : sHp h_) (o0_ : bpat h_ 155 2 = some (.int v300)) (c0_ : v300.toInt ≤ v6.toInt) : ∃ h', ysm h_ h' ∧ (((∀ a_ j_ : Nat, bpat h' a_ j_ = bpat h_ a_ j_) ∧ (bldD 60 19 8 [(6, .int v6), (2, .long w52), (7, .int v7), (4, .long w54), (0, .index 155), (1, .int v1_)] [] h_ 81 [(6, .int v6), (2, .long w52), (7, .int v7), (4, .long w54), (0, .index 155), (1, .int v1_)] [.long w52] h'))) := by
  have hA : yas xulXB_A (xulXB_r v1_ v6 v7 v300 w52 w54) (yg xulXB_s) := ⟨fun q_ hq => absurd hq List.not_mem_nil, fun q_ hq => absurd hq List.not_mem_nil, fun q_ hq => absurd hq List.not_mem_nil, fun n_ hn => yg_lo hn, fun q_ hq => absurd hq List.not_mem_nil⟩
  have Hs : ysh xulXB_A.1 (yg xulXB_s) h_ := ysh_of2 hs (fun q_ hq => absurd hq List.not_mem_nil)
  have Ho : ymem (xulXB_r v1_ v6 v7 v300 w52 w54) (yg xulXB_s) xulXB_O h_ := List.forall_mem_cons.mpr ⟨bpat_some o0_, fun q_ hq => absurd hq List.not_mem_nil⟩
  have HC : ∀ q_ ∈ xulXB_C, xhold (xulXB_r v1_ v6 v7 v300 w52 w54) q_ := List.forall_mem_cons.mpr ⟨xh_ltF c0_, fun q_ hq => absurd hq List.not_mem_nil⟩
  rcases yrun (yis_ok xulXB_k) hA Hs Ho HC with ⟨q_, hq, h', K_, G_⟩ | ⟨q_, hq, h', K_, G_⟩
  · have e_ := List.mem_singleton.mp hq
    subst e_
    exact ⟨h', yfr_sm K_.2.2.2 hs K_.1 (ywa_s xulXB_w List.mem_cons_self), ⟨fun a_ j_ => yfr_bp K_.2.2.2 (fun q_ hq => absurd hq List.not_mem_nil), G_⟩⟩
  · cases hq
-- xulYB: 1 steps, 1 ends, 0 returns
def xulYB_L : List (Nat × Nat × Nat) := []
def xulYB_O : yO := []
def xulYB_A : yA := (yZ xulYB_L, [], [], [], [])
def xulYB_C : List xB := []
def xulYB_ss : List yS := [(86, [(6, .arg 6), (2, .arg 52), (7, .arg 7), (4, .arg 54), (0, .index 155), (1, .arg 1)], [.arg 54, .arg 8], [], [], [])]
def xulYB_rs : List yR := []
theorem xulYB_w : ywa xulYB_A xulYB_ss xulYB_rs = true := by decide +kernel
theorem xulYB_k : yis (yev xulYB_A 3000 60 19 [86] (84, [(6, .arg 6), (2, .arg 52), (7, .arg 7), (4, .arg 54), (0, .index 155), (1, .arg 1)], [.arg 8], xulYB_O, xulYB_C, [])) xulYB_ss xulYB_rs = true := by decide +kernel
def xulYB_r (v1_ v6 v7 v8 : Int32) (w52 w54 : Int64) (k_ : Nat) : Value := bif Nat.beq k_ 52 then .long w52 else (bif Nat.beq k_ 54 then .long w54 else (bif Nat.beq k_ 1 then .int v1_ else (bif Nat.beq k_ 6 then .int v6 else (bif Nat.beq k_ 7 then .int v7 else (bif Nat.beq k_ 8 then .int v8 else (.int 0))))))
def xulYB_s (n_ : Nat) : Nat := 0
theorem xulYB {h_ : xH} {v1_ v6 v7 v8 : Int32} {w52 w54 : Int64} (hs : sHp h_) : ∃ h', ysm h_ h' ∧ (((∀ a_ j_ : Nat, bpat h' a_ j_ = bpat h_ a_ j_) ∧ (bldD 60 19 84 [(6, .int v6), (2, .long w52), (7, .int v7), (4, .long w54), (0, .index 155), (1, .int v1_)] [.int v8] h_ 86 [(6, .int v6), (2, .long w52), (7, .int v7), (4, .long w54), (0, .index 155), (1, .int v1_)] [.long w54, .int v8] h'))) := by
  have hA : yas xulYB_A (xulYB_r v1_ v6 v7 v8 w52 w54) (yg xulYB_s) := ⟨fun q_ hq => absurd hq List.not_mem_nil, fun q_ hq => absurd hq List.not_mem_nil, fun q_ hq => absurd hq List.not_mem_nil, fun n_ hn => yg_lo hn, fun q_ hq => absurd hq List.not_mem_nil⟩
  have Hs : ysh xulYB_A.1 (yg xulYB_s) h_ := ysh_of2 hs (fun q_ hq => absurd hq List.not_mem_nil)
  have Ho : ymem (xulYB_r v1_ v6 v7 v8 w52 w54) (yg xulYB_s) xulYB_O h_ := fun q_ hq => absurd hq List.not_mem_nil
  have HC : ∀ q_ ∈ xulYB_C, xhold (xulYB_r v1_ v6 v7 v8 w52 w54) q_ := fun q_ hq => absurd hq List.not_mem_nil
  rcases yrun (yis_ok xulYB_k) hA Hs Ho HC with ⟨q_, hq, h', K_, G_⟩ | ⟨q_, hq, h', K_, G_⟩
  · have e_ := List.mem_singleton.mp hq
    subst e_
    exact ⟨h', yfr_sm K_.2.2.2 hs K_.1 (ywa_s xulYB_w List.mem_cons_self), ⟨fun a_ j_ => yfr_bp K_.2.2.2 (fun q_ hq => absurd hq List.not_mem_nil), G_⟩⟩
  · cases hq
-- xulZB: 2 steps, 0 ends, 1 returns
def xulZB_L : List (Nat × Nat × Nat) := []
def xulZB_O : yO := []
def xulZB_A : yA := (yZ xulZB_L, [], [], [], [])
def xulZB_C : List xB := []
def xulZB_ss : List yS := []
def xulZB_rs : List yR := [(some (.add (.arg 8) (.arg 9)), [], [], [])]
theorem xulZB_w : ywa xulZB_A xulZB_ss xulZB_rs = true := by decide +kernel
theorem xulZB_k : yis (yev xulZB_A 3000 60 19 [] (89, [(6, .arg 6), (2, .arg 52), (7, .arg 7), (4, .arg 54), (0, .index 155), (1, .arg 1)], [.arg 9, .arg 8], xulZB_O, xulZB_C, [])) xulZB_ss xulZB_rs = true := by decide +kernel
def xulZB_r (v1_ v6 v7 v8 v9 : Int32) (w52 w54 : Int64) (k_ : Nat) : Value := bif Nat.beq k_ 52 then .long w52 else (bif Nat.beq k_ 54 then .long w54 else (bif Nat.beq k_ 1 then .int v1_ else (bif Nat.beq k_ 6 then .int v6 else (bif Nat.beq k_ 7 then .int v7 else (bif Nat.beq k_ 8 then .int v8 else (bif Nat.beq k_ 9 then .int v9 else (.int 0)))))))
def xulZB_s (n_ : Nat) : Nat := 0
theorem xulZB {h_ : xH} {v1_ v6 v7 v8 v9 : Int32} {w52 w54 : Int64} (hs : sHp h_) : ∃ h', ysm h_ h' ∧ (((∀ a_ j_ : Nat, bpat h' a_ j_ = bpat h_ a_ j_) ∧ (∀ D_, 60 ≤ D_ → xrun D_ 19 89 [(6, .int v6), (2, .long w52), (7, .int v7), (4, .long w54), (0, .index 155), (1, .int v1_)] [.int v9, .int v8] h_ (some (.int (v8 + v9)), h', [])))) := by
  have hA : yas xulZB_A (xulZB_r v1_ v6 v7 v8 v9 w52 w54) (yg xulZB_s) := ⟨fun q_ hq => absurd hq List.not_mem_nil, fun q_ hq => absurd hq List.not_mem_nil, fun q_ hq => absurd hq List.not_mem_nil, fun n_ hn => yg_lo hn, fun q_ hq => absurd hq List.not_mem_nil⟩
  have Hs : ysh xulZB_A.1 (yg xulZB_s) h_ := ysh_of2 hs (fun q_ hq => absurd hq List.not_mem_nil)
  have Ho : ymem (xulZB_r v1_ v6 v7 v8 v9 w52 w54) (yg xulZB_s) xulZB_O h_ := fun q_ hq => absurd hq List.not_mem_nil
  have HC : ∀ q_ ∈ xulZB_C, xhold (xulZB_r v1_ v6 v7 v8 v9 w52 w54) q_ := fun q_ hq => absurd hq List.not_mem_nil
  rcases yrun (yis_ok xulZB_k) hA Hs Ho HC with ⟨q_, hq, h', K_, G_⟩ | ⟨q_, hq, h', K_, G_⟩
  · cases hq
  · have e_ := List.mem_singleton.mp hq
    subst e_
    exact ⟨h', yfr_sm K_.2.2.2 hs K_.1 (ywa_r xulZB_w List.mem_cons_self), ⟨fun a_ j_ => yfr_bp K_.2.2.2 (fun q_ hq => absurd hq List.not_mem_nil), G_⟩⟩
-- xulSC: 13 steps, 1 ends, 0 returns
def xulSC_L : List (Nat × Nat × Nat) := [(1000, 6, 2)]
def xulSC_O : yO := [(155, .int 2, .arg 300), (155, .int 0, .index 156), (156, .arg 6, .index 1000), (1000, .int 1, .arg 302)]
def xulSC_A : yA := (yZ xulSC_L, [(.arg 6, 73)], [], [], [])
def xulSC_C : List xB := [(.lt, .arg 1, .arg 302, false), (.lt, .arg 6, .arg 300, true)]
def xulSC_ss : List yS := [(8, [(6, .add (.arg 6) (.int 1)), (4, .arg 54), (7, .arg 7), (2, .arg 52), (0, .index 155), (1, .arg 1)], [], [(155, .int 2, .arg 300), (155, .int 0, .index 156), (156, .arg 6, .index 1000), (1000, .int 1, .arg 302)], [(.lt, .arg 1, .arg 302, false), (.lt, .arg 6, .arg 300, true)], [])]
def xulSC_rs : List yR := []
theorem xulSC_w : ywa xulSC_A xulSC_ss xulSC_rs = true := by decide +kernel
theorem xulSC_k : yis (yev xulSC_A 3000 60 19 [8] (8, [(6, .arg 6), (4, .arg 54), (7, .arg 7), (2, .arg 52), (0, .index 155), (1, .arg 1)], [], xulSC_O, xulSC_C, [])) xulSC_ss xulSC_rs = true := by decide +kernel
def xulSC_r (v1_ v6 v7 v300 v302 : Int32) (w52 w54 : Int64) (k_ : Nat) : Value := bif Nat.beq k_ 52 then .long w52 else (bif Nat.beq k_ 54 then .long w54 else (bif Nat.beq k_ 1 then .int v1_ else (bif Nat.beq k_ 6 then .int v6 else (bif Nat.beq k_ 7 then .int v7 else (bif Nat.beq k_ 300 then .int v300 else (bif Nat.beq k_ 302 then .int v302 else (.int 0)))))))
def xulSC_s (a1000 : Nat) (n_ : Nat) : Nat := bif Nat.beq n_ 1000 then a1000 else (0)
theorem xulSC {h_ : xH} {a1000 : Nat} {v1_ v6 v7 v300 v302 : Int32} {w52 w54 : Int64} (hs : sHp h_) (k1000 : bcq h_ a1000 6 2) (o0_ : bpat h_ 155 2 = some (.int v300)) (o1 : bpat h_ 156 (v6).toInt.toNat = some (.index a1000)) (o2 : bpat h_ a1000 1 = some (.int v302)) (b0 : 0 ≤ (v6).toInt ∧ (v6).toInt < 73) (c0_ : v302.toInt ≤ v1_.toInt) (c1_ : v6.toInt < v300.toInt) : ∃ h', ysm h_ h' ∧ (((∀ a_ j_ : Nat, bpat h' a_ j_ = bpat h_ a_ j_) ∧ (bldD 60 19 8 [(6, .int v6), (4, .long w54), (7, .int v7), (2, .long w52), (0, .index 155), (1, .int v1_)] [] h_ 8 [(6, .int (v6 + (1 : Int32))), (4, .long w54), (7, .int v7), (2, .long w52), (0, .index 155), (1, .int v1_)] [] h'))) := by
  have hA : yas xulSC_A (xulSC_r v1_ v6 v7 v300 v302 w52 w54) (yg (xulSC_s a1000)) := ⟨List.forall_mem_cons.mpr ⟨b0, fun q_ hq => absurd hq List.not_mem_nil⟩, fun q_ hq => absurd hq List.not_mem_nil, fun q_ hq => absurd hq List.not_mem_nil, fun n_ hn => yg_lo hn, fun q_ hq => absurd hq List.not_mem_nil⟩
  have Hs : ysh xulSC_A.1 (yg (xulSC_s a1000)) h_ := ysh_of2 hs (List.forall_mem_cons.mpr ⟨⟨by decide, k1000⟩, fun q_ hq => absurd hq List.not_mem_nil⟩)
  have Ho : ymem (xulSC_r v1_ v6 v7 v300 v302 w52 w54) (yg (xulSC_s a1000)) xulSC_O h_ := List.forall_mem_cons.mpr ⟨bpat_some o0_, List.forall_mem_cons.mpr ⟨bpat_some (fxr_at hs.2 (show fxk fxl 155 0 = some 156 by decide +kernel)), List.forall_mem_cons.mpr ⟨bpat_some o1, List.forall_mem_cons.mpr ⟨bpat_some o2, fun q_ hq => absurd hq List.not_mem_nil⟩⟩⟩⟩
  have HC : ∀ q_ ∈ xulSC_C, xhold (xulSC_r v1_ v6 v7 v300 v302 w52 w54) q_ := List.forall_mem_cons.mpr ⟨xh_ltF c0_, List.forall_mem_cons.mpr ⟨xh_ltT c1_, fun q_ hq => absurd hq List.not_mem_nil⟩⟩
  rcases yrun (yis_ok xulSC_k) hA Hs Ho HC with ⟨q_, hq, h', K_, G_⟩ | ⟨q_, hq, h', K_, G_⟩
  · have e_ := List.mem_singleton.mp hq
    subst e_
    exact ⟨h', yfr_sm K_.2.2.2 hs K_.1 (ywa_s xulSC_w List.mem_cons_self), ⟨fun a_ j_ => yfr_bp K_.2.2.2 (fun q_ hq => absurd hq List.not_mem_nil), G_⟩⟩
  · cases hq
-- xulLC: 31 steps, 1 ends, 0 returns
def xulLC_L : List (Nat × Nat × Nat) := [(1000, 6, 2), (1001, 20, 12)]
def xulLC_O : yO := [(155, .int 2, .arg 300), (155, .int 0, .index 156), (156, .arg 6, .index 1000), (1000, .int 1, .arg 302), (1000, .int 0, .index 1001), (1001, .arg 1, .arg 301)]
def xulLC_A : yA := (yZ xulLC_L, [(.arg 6, 73), (.arg 1, 12)], [], [], [])
def xulLC_C : List xB := [(.lt, .arg 301, .int 50, true), (.lt, .arg 1, .arg 302, true), (.lt, .arg 6, .arg 300, true)]
def xulLC_ss : List yS := [(8, [(6, .add (.arg 6) (.int 1)), (2, .op2 .lor (.arg 52) (.op2 .lshl (.long 1) (.arg 301))), (7, .arg 301), (4, .arg 54), (0, .index 155), (1, .arg 1)], [], [(155, .int 2, .arg 300), (155, .int 0, .index 156), (156, .arg 6, .index 1000), (1000, .int 1, .arg 302), (1000, .int 0, .index 1001), (1001, .arg 1, .arg 301)], [(.lt, .arg 301, .int 50, true), (.lt, .arg 1, .arg 302, true), (.lt, .arg 6, .arg 300, true)], [])]
def xulLC_rs : List yR := []
theorem xulLC_w : ywa xulLC_A xulLC_ss xulLC_rs = true := by decide +kernel
theorem xulLC_k : yis (yev xulLC_A 3000 60 19 [8] (8, [(6, .arg 6), (4, .arg 54), (7, .arg 7), (2, .arg 52), (0, .index 155), (1, .arg 1)], [], xulLC_O, xulLC_C, [])) xulLC_ss xulLC_rs = true := by decide +kernel
def xulLC_r (v1_ v6 v7 v300 v301 v302 : Int32) (w52 w54 : Int64) (k_ : Nat) : Value := bif Nat.beq k_ 52 then .long w52 else (bif Nat.beq k_ 54 then .long w54 else (bif Nat.beq k_ 1 then .int v1_ else (bif Nat.beq k_ 6 then .int v6 else (bif Nat.beq k_ 7 then .int v7 else (bif Nat.beq k_ 300 then .int v300 else (bif Nat.beq k_ 301 then .int v301 else (bif Nat.beq k_ 302 then .int v302 else (.int 0))))))))
def xulLC_s (a1000 a1001 : Nat) (n_ : Nat) : Nat := bif Nat.beq n_ 1000 then a1000 else (bif Nat.beq n_ 1001 then a1001 else (0))
theorem xulLC {h_ : xH} {a1000 a1001 : Nat} {v1_ v6 v7 v300 v301 v302 : Int32} {w52 w54 : Int64} (hs : sHp h_) (k1000 : bcq h_ a1000 6 2) (k1001 : bcq h_ a1001 20 12) (o0_ : bpat h_ 155 2 = some (.int v300)) (o1 : bpat h_ 156 (v6).toInt.toNat = some (.index a1000)) (o2 : bpat h_ a1000 1 = some (.int v302)) (o3_ : bpat h_ a1000 0 = some (.index a1001)) (o4_ : bpat h_ a1001 (v1_).toInt.toNat = some (.int v301)) (b0 : 0 ≤ (v6).toInt ∧ (v6).toInt < 73) (b1 : 0 ≤ (v1_).toInt ∧ (v1_).toInt < 12) (c0_ : v301.toInt < (50 : Int32).toInt) (c1_ : v1_.toInt < v302.toInt) (c2_ : v6.toInt < v300.toInt) : ∃ h', ysm h_ h' ∧ (((∀ a_ j_ : Nat, bpat h' a_ j_ = bpat h_ a_ j_) ∧ (bldD 60 19 8 [(6, .int v6), (4, .long w54), (7, .int v7), (2, .long w52), (0, .index 155), (1, .int v1_)] [] h_ 8 [(6, .int (v6 + (1 : Int32))), (2, .long (w52 ||| ((1 : Int64) <<< ((v301).toInt64 &&& 63)))), (7, .int v301), (4, .long w54), (0, .index 155), (1, .int v1_)] [] h'))) := by
  have hA : yas xulLC_A (xulLC_r v1_ v6 v7 v300 v301 v302 w52 w54) (yg (xulLC_s a1000 a1001)) := ⟨List.forall_mem_cons.mpr ⟨b0, List.forall_mem_cons.mpr ⟨b1, fun q_ hq => absurd hq List.not_mem_nil⟩⟩, fun q_ hq => absurd hq List.not_mem_nil, fun q_ hq => absurd hq List.not_mem_nil, fun n_ hn => yg_lo hn, fun q_ hq => absurd hq List.not_mem_nil⟩
  have Hs : ysh xulLC_A.1 (yg (xulLC_s a1000 a1001)) h_ := ysh_of2 hs (List.forall_mem_cons.mpr ⟨⟨by decide, k1000⟩, List.forall_mem_cons.mpr ⟨⟨by decide, k1001⟩, fun q_ hq => absurd hq List.not_mem_nil⟩⟩)
  have Ho : ymem (xulLC_r v1_ v6 v7 v300 v301 v302 w52 w54) (yg (xulLC_s a1000 a1001)) xulLC_O h_ := List.forall_mem_cons.mpr ⟨bpat_some o0_, List.forall_mem_cons.mpr ⟨bpat_some (fxr_at hs.2 (show fxk fxl 155 0 = some 156 by decide +kernel)), List.forall_mem_cons.mpr ⟨bpat_some o1, List.forall_mem_cons.mpr ⟨bpat_some o2, List.forall_mem_cons.mpr ⟨bpat_some o3_, List.forall_mem_cons.mpr ⟨bpat_some o4_, fun q_ hq => absurd hq List.not_mem_nil⟩⟩⟩⟩⟩⟩
  have HC : ∀ q_ ∈ xulLC_C, xhold (xulLC_r v1_ v6 v7 v300 v301 v302 w52 w54) q_ := List.forall_mem_cons.mpr ⟨xh_ltT c0_, List.forall_mem_cons.mpr ⟨xh_ltT c1_, List.forall_mem_cons.mpr ⟨xh_ltT c2_, fun q_ hq => absurd hq List.not_mem_nil⟩⟩⟩
  rcases yrun (yis_ok xulLC_k) hA Hs Ho HC with ⟨q_, hq, h', K_, G_⟩ | ⟨q_, hq, h', K_, G_⟩
  · have e_ := List.mem_singleton.mp hq
    subst e_
    exact ⟨h', yfr_sm K_.2.2.2 hs K_.1 (ywa_s xulLC_w List.mem_cons_self), ⟨fun a_ j_ => yfr_bp K_.2.2.2 (fun q_ hq => absurd hq List.not_mem_nil), G_⟩⟩
  · cases hq
-- xulHC: 32 steps, 1 ends, 0 returns
def xulHC_L : List (Nat × Nat × Nat) := [(1000, 6, 2), (1001, 20, 12)]
def xulHC_O : yO := [(155, .int 2, .arg 300), (155, .int 0, .index 156), (156, .arg 6, .index 1000), (1000, .int 1, .arg 302), (1000, .int 0, .index 1001), (1001, .arg 1, .arg 301)]
def xulHC_A : yA := (yZ xulHC_L, [(.arg 6, 73), (.arg 1, 12)], [], [], [])
def xulHC_C : List xB := [(.lt, .arg 301, .int 50, false), (.lt, .arg 1, .arg 302, true), (.lt, .arg 6, .arg 300, true)]
def xulHC_ss : List yS := [(8, [(6, .add (.arg 6) (.int 1)), (4, .op2 .lor (.arg 54) (.op2 .lshl (.long 1) (.sub (.arg 301) (.int 50)))), (7, .arg 301), (2, .arg 52), (0, .index 155), (1, .arg 1)], [], [(155, .int 2, .arg 300), (155, .int 0, .index 156), (156, .arg 6, .index 1000), (1000, .int 1, .arg 302), (1000, .int 0, .index 1001), (1001, .arg 1, .arg 301)], [(.lt, .arg 301, .int 50, false), (.lt, .arg 1, .arg 302, true), (.lt, .arg 6, .arg 300, true)], [])]
def xulHC_rs : List yR := []
theorem xulHC_w : ywa xulHC_A xulHC_ss xulHC_rs = true := by decide +kernel
theorem xulHC_k : yis (yev xulHC_A 3000 60 19 [8] (8, [(6, .arg 6), (4, .arg 54), (7, .arg 7), (2, .arg 52), (0, .index 155), (1, .arg 1)], [], xulHC_O, xulHC_C, [])) xulHC_ss xulHC_rs = true := by decide +kernel
def xulHC_r (v1_ v6 v7 v300 v301 v302 : Int32) (w52 w54 : Int64) (k_ : Nat) : Value := bif Nat.beq k_ 52 then .long w52 else (bif Nat.beq k_ 54 then .long w54 else (bif Nat.beq k_ 1 then .int v1_ else (bif Nat.beq k_ 6 then .int v6 else (bif Nat.beq k_ 7 then .int v7 else (bif Nat.beq k_ 300 then .int v300 else (bif Nat.beq k_ 301 then .int v301 else (bif Nat.beq k_ 302 then .int v302 else (.int 0))))))))
def xulHC_s (a1000 a1001 : Nat) (n_ : Nat) : Nat := bif Nat.beq n_ 1000 then a1000 else (bif Nat.beq n_ 1001 then a1001 else (0))
theorem xulHC {h_ : xH} {a1000 a1001 : Nat} {v1_ v6 v7 v300 v301 v302 : Int32} {w52 w54 : Int64} (hs : sHp h_) (k1000 : bcq h_ a1000 6 2) (k1001 : bcq h_ a1001 20 12) (o0_ : bpat h_ 155 2 = some (.int v300)) (o1 : bpat h_ 156 (v6).toInt.toNat = some (.index a1000)) (o2 : bpat h_ a1000 1 = some (.int v302)) (o3_ : bpat h_ a1000 0 = some (.index a1001)) (o4_ : bpat h_ a1001 (v1_).toInt.toNat = some (.int v301)) (b0 : 0 ≤ (v6).toInt ∧ (v6).toInt < 73) (b1 : 0 ≤ (v1_).toInt ∧ (v1_).toInt < 12) (c0_ : (50 : Int32).toInt ≤ v301.toInt) (c1_ : v1_.toInt < v302.toInt) (c2_ : v6.toInt < v300.toInt) : ∃ h', ysm h_ h' ∧ (((∀ a_ j_ : Nat, bpat h' a_ j_ = bpat h_ a_ j_) ∧ (bldD 60 19 8 [(6, .int v6), (4, .long w54), (7, .int v7), (2, .long w52), (0, .index 155), (1, .int v1_)] [] h_ 8 [(6, .int (v6 + (1 : Int32))), (4, .long (w54 ||| ((1 : Int64) <<< (((v301 - (50 : Int32))).toInt64 &&& 63)))), (7, .int v301), (2, .long w52), (0, .index 155), (1, .int v1_)] [] h'))) := by
  have hA : yas xulHC_A (xulHC_r v1_ v6 v7 v300 v301 v302 w52 w54) (yg (xulHC_s a1000 a1001)) := ⟨List.forall_mem_cons.mpr ⟨b0, List.forall_mem_cons.mpr ⟨b1, fun q_ hq => absurd hq List.not_mem_nil⟩⟩, fun q_ hq => absurd hq List.not_mem_nil, fun q_ hq => absurd hq List.not_mem_nil, fun n_ hn => yg_lo hn, fun q_ hq => absurd hq List.not_mem_nil⟩
  have Hs : ysh xulHC_A.1 (yg (xulHC_s a1000 a1001)) h_ := ysh_of2 hs (List.forall_mem_cons.mpr ⟨⟨by decide, k1000⟩, List.forall_mem_cons.mpr ⟨⟨by decide, k1001⟩, fun q_ hq => absurd hq List.not_mem_nil⟩⟩)
  have Ho : ymem (xulHC_r v1_ v6 v7 v300 v301 v302 w52 w54) (yg (xulHC_s a1000 a1001)) xulHC_O h_ := List.forall_mem_cons.mpr ⟨bpat_some o0_, List.forall_mem_cons.mpr ⟨bpat_some (fxr_at hs.2 (show fxk fxl 155 0 = some 156 by decide +kernel)), List.forall_mem_cons.mpr ⟨bpat_some o1, List.forall_mem_cons.mpr ⟨bpat_some o2, List.forall_mem_cons.mpr ⟨bpat_some o3_, List.forall_mem_cons.mpr ⟨bpat_some o4_, fun q_ hq => absurd hq List.not_mem_nil⟩⟩⟩⟩⟩⟩
  have HC : ∀ q_ ∈ xulHC_C, xhold (xulHC_r v1_ v6 v7 v300 v301 v302 w52 w54) q_ := List.forall_mem_cons.mpr ⟨xh_ltF c0_, List.forall_mem_cons.mpr ⟨xh_ltT c1_, List.forall_mem_cons.mpr ⟨xh_ltT c2_, fun q_ hq => absurd hq List.not_mem_nil⟩⟩⟩
  rcases yrun (yis_ok xulHC_k) hA Hs Ho HC with ⟨q_, hq, h', K_, G_⟩ | ⟨q_, hq, h', K_, G_⟩
  · have e_ := List.mem_singleton.mp hq
    subst e_
    exact ⟨h', yfr_sm K_.2.2.2 hs K_.1 (ywa_s xulHC_w List.mem_cons_self), ⟨fun a_ j_ => yfr_bp K_.2.2.2 (fun q_ hq => absurd hq List.not_mem_nil), G_⟩⟩
  · cases hq
-- xulXC: 5 steps, 1 ends, 0 returns
def xulXC_L : List (Nat × Nat × Nat) := []
def xulXC_O : yO := [(155, .int 2, .arg 300)]
def xulXC_A : yA := (yZ xulXC_L, [], [], [], [])
def xulXC_C : List xB := [(.lt, .arg 6, .arg 300, false)]
def xulXC_ss : List yS := [(81, [(6, .arg 6), (4, .arg 54), (7, .arg 7), (2, .arg 52), (0, .index 155), (1, .arg 1)], [.arg 52], [(155, .int 2, .arg 300)], [(.lt, .arg 6, .arg 300, false)], [])]
def xulXC_rs : List yR := []
theorem xulXC_w : ywa xulXC_A xulXC_ss xulXC_rs = true := by decide +kernel
theorem xulXC_k : yis (yev xulXC_A 3000 60 19 [81] (8, [(6, .arg 6), (4, .arg 54), (7, .arg 7), (2, .arg 52), (0, .index 155), (1, .arg 1)], [], xulXC_O, xulXC_C, [])) xulXC_ss xulXC_rs = true := by decide +kernel
def xulXC_r (v1_ v6 v7 v300 : Int32) (w52 w54 : Int64) (k_ : Nat) : Value := bif Nat.beq k_ 52 then .long w52 else (bif Nat.beq k_ 54 then .long w54 else (bif Nat.beq k_ 1 then .int v1_ else (bif Nat.beq k_ 6 then .int v6 else (bif Nat.beq k_ 7 then .int v7 else (bif Nat.beq k_ 300 then .int v300 else (.int 0))))))
def xulXC_s (n_ : Nat) : Nat := 0
theorem xulXC {h_ : xH} {v1_ v6 v7 v300 : Int32} {w52 w54 : Int64} (hs : sHp h_) (o0_ : bpat h_ 155 2 = some (.int v300)) (c0_ : v300.toInt ≤ v6.toInt) : ∃ h', ysm h_ h' ∧ (((∀ a_ j_ : Nat, bpat h' a_ j_ = bpat h_ a_ j_) ∧ (bldD 60 19 8 [(6, .int v6), (4, .long w54), (7, .int v7), (2, .long w52), (0, .index 155), (1, .int v1_)] [] h_ 81 [(6, .int v6), (4, .long w54), (7, .int v7), (2, .long w52), (0, .index 155), (1, .int v1_)] [.long w52] h'))) := by
  have hA : yas xulXC_A (xulXC_r v1_ v6 v7 v300 w52 w54) (yg xulXC_s) := ⟨fun q_ hq => absurd hq List.not_mem_nil, fun q_ hq => absurd hq List.not_mem_nil, fun q_ hq => absurd hq List.not_mem_nil, fun n_ hn => yg_lo hn, fun q_ hq => absurd hq List.not_mem_nil⟩
  have Hs : ysh xulXC_A.1 (yg xulXC_s) h_ := ysh_of2 hs (fun q_ hq => absurd hq List.not_mem_nil)
  have Ho : ymem (xulXC_r v1_ v6 v7 v300 w52 w54) (yg xulXC_s) xulXC_O h_ := List.forall_mem_cons.mpr ⟨bpat_some o0_, fun q_ hq => absurd hq List.not_mem_nil⟩
  have HC : ∀ q_ ∈ xulXC_C, xhold (xulXC_r v1_ v6 v7 v300 w52 w54) q_ := List.forall_mem_cons.mpr ⟨xh_ltF c0_, fun q_ hq => absurd hq List.not_mem_nil⟩
  rcases yrun (yis_ok xulXC_k) hA Hs Ho HC with ⟨q_, hq, h', K_, G_⟩ | ⟨q_, hq, h', K_, G_⟩
  · have e_ := List.mem_singleton.mp hq
    subst e_
    exact ⟨h', yfr_sm K_.2.2.2 hs K_.1 (ywa_s xulXC_w List.mem_cons_self), ⟨fun a_ j_ => yfr_bp K_.2.2.2 (fun q_ hq => absurd hq List.not_mem_nil), G_⟩⟩
  · cases hq
-- xulYC: 1 steps, 1 ends, 0 returns
def xulYC_L : List (Nat × Nat × Nat) := []
def xulYC_O : yO := []
def xulYC_A : yA := (yZ xulYC_L, [], [], [], [])
def xulYC_C : List xB := []
def xulYC_ss : List yS := [(86, [(6, .arg 6), (4, .arg 54), (7, .arg 7), (2, .arg 52), (0, .index 155), (1, .arg 1)], [.arg 54, .arg 8], [], [], [])]
def xulYC_rs : List yR := []
theorem xulYC_w : ywa xulYC_A xulYC_ss xulYC_rs = true := by decide +kernel
theorem xulYC_k : yis (yev xulYC_A 3000 60 19 [86] (84, [(6, .arg 6), (4, .arg 54), (7, .arg 7), (2, .arg 52), (0, .index 155), (1, .arg 1)], [.arg 8], xulYC_O, xulYC_C, [])) xulYC_ss xulYC_rs = true := by decide +kernel
def xulYC_r (v1_ v6 v7 v8 : Int32) (w52 w54 : Int64) (k_ : Nat) : Value := bif Nat.beq k_ 52 then .long w52 else (bif Nat.beq k_ 54 then .long w54 else (bif Nat.beq k_ 1 then .int v1_ else (bif Nat.beq k_ 6 then .int v6 else (bif Nat.beq k_ 7 then .int v7 else (bif Nat.beq k_ 8 then .int v8 else (.int 0))))))
def xulYC_s (n_ : Nat) : Nat := 0
theorem xulYC {h_ : xH} {v1_ v6 v7 v8 : Int32} {w52 w54 : Int64} (hs : sHp h_) : ∃ h', ysm h_ h' ∧ (((∀ a_ j_ : Nat, bpat h' a_ j_ = bpat h_ a_ j_) ∧ (bldD 60 19 84 [(6, .int v6), (4, .long w54), (7, .int v7), (2, .long w52), (0, .index 155), (1, .int v1_)] [.int v8] h_ 86 [(6, .int v6), (4, .long w54), (7, .int v7), (2, .long w52), (0, .index 155), (1, .int v1_)] [.long w54, .int v8] h'))) := by
  have hA : yas xulYC_A (xulYC_r v1_ v6 v7 v8 w52 w54) (yg xulYC_s) := ⟨fun q_ hq => absurd hq List.not_mem_nil, fun q_ hq => absurd hq List.not_mem_nil, fun q_ hq => absurd hq List.not_mem_nil, fun n_ hn => yg_lo hn, fun q_ hq => absurd hq List.not_mem_nil⟩
  have Hs : ysh xulYC_A.1 (yg xulYC_s) h_ := ysh_of2 hs (fun q_ hq => absurd hq List.not_mem_nil)
  have Ho : ymem (xulYC_r v1_ v6 v7 v8 w52 w54) (yg xulYC_s) xulYC_O h_ := fun q_ hq => absurd hq List.not_mem_nil
  have HC : ∀ q_ ∈ xulYC_C, xhold (xulYC_r v1_ v6 v7 v8 w52 w54) q_ := fun q_ hq => absurd hq List.not_mem_nil
  rcases yrun (yis_ok xulYC_k) hA Hs Ho HC with ⟨q_, hq, h', K_, G_⟩ | ⟨q_, hq, h', K_, G_⟩
  · have e_ := List.mem_singleton.mp hq
    subst e_
    exact ⟨h', yfr_sm K_.2.2.2 hs K_.1 (ywa_s xulYC_w List.mem_cons_self), ⟨fun a_ j_ => yfr_bp K_.2.2.2 (fun q_ hq => absurd hq List.not_mem_nil), G_⟩⟩
  · cases hq
-- xulZC: 2 steps, 0 ends, 1 returns
def xulZC_L : List (Nat × Nat × Nat) := []
def xulZC_O : yO := []
def xulZC_A : yA := (yZ xulZC_L, [], [], [], [])
def xulZC_C : List xB := []
def xulZC_ss : List yS := []
def xulZC_rs : List yR := [(some (.add (.arg 8) (.arg 9)), [], [], [])]
theorem xulZC_w : ywa xulZC_A xulZC_ss xulZC_rs = true := by decide +kernel
theorem xulZC_k : yis (yev xulZC_A 3000 60 19 [] (89, [(6, .arg 6), (4, .arg 54), (7, .arg 7), (2, .arg 52), (0, .index 155), (1, .arg 1)], [.arg 9, .arg 8], xulZC_O, xulZC_C, [])) xulZC_ss xulZC_rs = true := by decide +kernel
def xulZC_r (v1_ v6 v7 v8 v9 : Int32) (w52 w54 : Int64) (k_ : Nat) : Value := bif Nat.beq k_ 52 then .long w52 else (bif Nat.beq k_ 54 then .long w54 else (bif Nat.beq k_ 1 then .int v1_ else (bif Nat.beq k_ 6 then .int v6 else (bif Nat.beq k_ 7 then .int v7 else (bif Nat.beq k_ 8 then .int v8 else (bif Nat.beq k_ 9 then .int v9 else (.int 0)))))))
def xulZC_s (n_ : Nat) : Nat := 0
theorem xulZC {h_ : xH} {v1_ v6 v7 v8 v9 : Int32} {w52 w54 : Int64} (hs : sHp h_) : ∃ h', ysm h_ h' ∧ (((∀ a_ j_ : Nat, bpat h' a_ j_ = bpat h_ a_ j_) ∧ (∀ D_, 60 ≤ D_ → xrun D_ 19 89 [(6, .int v6), (4, .long w54), (7, .int v7), (2, .long w52), (0, .index 155), (1, .int v1_)] [.int v9, .int v8] h_ (some (.int (v8 + v9)), h', [])))) := by
  have hA : yas xulZC_A (xulZC_r v1_ v6 v7 v8 v9 w52 w54) (yg xulZC_s) := ⟨fun q_ hq => absurd hq List.not_mem_nil, fun q_ hq => absurd hq List.not_mem_nil, fun q_ hq => absurd hq List.not_mem_nil, fun n_ hn => yg_lo hn, fun q_ hq => absurd hq List.not_mem_nil⟩
  have Hs : ysh xulZC_A.1 (yg xulZC_s) h_ := ysh_of2 hs (fun q_ hq => absurd hq List.not_mem_nil)
  have Ho : ymem (xulZC_r v1_ v6 v7 v8 v9 w52 w54) (yg xulZC_s) xulZC_O h_ := fun q_ hq => absurd hq List.not_mem_nil
  have HC : ∀ q_ ∈ xulZC_C, xhold (xulZC_r v1_ v6 v7 v8 v9 w52 w54) q_ := fun q_ hq => absurd hq List.not_mem_nil
  rcases yrun (yis_ok xulZC_k) hA Hs Ho HC with ⟨q_, hq, h', K_, G_⟩ | ⟨q_, hq, h', K_, G_⟩
  · cases hq
  · have e_ := List.mem_singleton.mp hq
    subst e_
    exact ⟨h', yfr_sm K_.2.2.2 hs K_.1 (ywa_r xulZC_w List.mem_cons_self), ⟨fun a_ j_ => yfr_bp K_.2.2.2 (fun q_ hq => absurd hq List.not_mem_nil), G_⟩⟩
-- xpmE: 4 steps, 1 ends, 0 returns
def xpmE_L : List (Nat × Nat × Nat) := []
def xpmE_O : yO := []
def xpmE_A : yA := (yZ xpmE_L, [], [], [], [])
def xpmE_C : List xB := []
def xpmE_ss : List yS := [(4, [(1, .int 0), (0, .index 155)], [.int 0, .index 155], [], [], [])]
def xpmE_rs : List yR := []
theorem xpmE_w : ywa xpmE_A xpmE_ss xpmE_rs = true := by decide +kernel
theorem xpmE_k : yis (yev xpmE_A 3000 60 20 [4] (0, [(0, .index 155)], [], xpmE_O, xpmE_C, [])) xpmE_ss xpmE_rs = true := by decide +kernel
def xpmE_r (k_ : Nat) : Value := .int 0
def xpmE_s (n_ : Nat) : Nat := 0
theorem xpmE {h_ : xH} (hs : sHp h_) : ∃ h', ysm h_ h' ∧ (((∀ a_ j_ : Nat, bpat h' a_ j_ = bpat h_ a_ j_) ∧ (bldD 60 20 0 [(0, .index 155)] [] h_ 4 [(1, .int (0 : Int32)), (0, .index 155)] [.int (0 : Int32), .index 155] h'))) := by
  have hA : yas xpmE_A xpmE_r (yg xpmE_s) := ⟨fun q_ hq => absurd hq List.not_mem_nil, fun q_ hq => absurd hq List.not_mem_nil, fun q_ hq => absurd hq List.not_mem_nil, fun n_ hn => yg_lo hn, fun q_ hq => absurd hq List.not_mem_nil⟩
  have Hs : ysh xpmE_A.1 (yg xpmE_s) h_ := ysh_of2 hs (fun q_ hq => absurd hq List.not_mem_nil)
  have Ho : ymem xpmE_r (yg xpmE_s) xpmE_O h_ := fun q_ hq => absurd hq List.not_mem_nil
  have HC : ∀ q_ ∈ xpmE_C, xhold xpmE_r q_ := fun q_ hq => absurd hq List.not_mem_nil
  rcases yrun (yis_ok xpmE_k) hA Hs Ho HC with ⟨q_, hq, h', K_, G_⟩ | ⟨q_, hq, h', K_, G_⟩
  · have e_ := List.mem_singleton.mp hq
    subst e_
    exact ⟨h', yfr_sm K_.2.2.2 hs K_.1 (ywa_s xpmE_w List.mem_cons_self), ⟨fun a_ j_ => yfr_bp K_.2.2.2 (fun q_ hq => absurd hq List.not_mem_nil), G_⟩⟩
  · cases hq
-- xpmA: 3 steps, 1 ends, 0 returns
def xpmA_L : List (Nat × Nat × Nat) := []
def xpmA_O : yO := []
def xpmA_A : yA := (yZ xpmA_L, [], [], [], [])
def xpmA_C : List xB := []
def xpmA_ss : List yS := [(10, [(3, .int 1), (2, .arg 8), (1, .int 0), (0, .index 155)], [], [], [], [])]
def xpmA_rs : List yR := []
theorem xpmA_w : ywa xpmA_A xpmA_ss xpmA_rs = true := by decide +kernel
theorem xpmA_k : yis (yev xpmA_A 3000 60 20 [10] (7, [(1, .int 0), (0, .index 155)], [.arg 8], xpmA_O, xpmA_C, [])) xpmA_ss xpmA_rs = true := by decide +kernel
def xpmA_r (v8 : Int32) (k_ : Nat) : Value := bif Nat.beq k_ 8 then .int v8 else (.int 0)
def xpmA_s (n_ : Nat) : Nat := 0
theorem xpmA {h_ : xH} {v8 : Int32} (hs : sHp h_) : ∃ h', ysm h_ h' ∧ (((∀ a_ j_ : Nat, bpat h' a_ j_ = bpat h_ a_ j_) ∧ (bldD 60 20 7 [(1, .int (0 : Int32)), (0, .index 155)] [.int v8] h_ 10 [(3, .int (1 : Int32)), (2, .int v8), (1, .int (0 : Int32)), (0, .index 155)] [] h'))) := by
  have hA : yas xpmA_A (xpmA_r v8) (yg xpmA_s) := ⟨fun q_ hq => absurd hq List.not_mem_nil, fun q_ hq => absurd hq List.not_mem_nil, fun q_ hq => absurd hq List.not_mem_nil, fun n_ hn => yg_lo hn, fun q_ hq => absurd hq List.not_mem_nil⟩
  have Hs : ysh xpmA_A.1 (yg xpmA_s) h_ := ysh_of2 hs (fun q_ hq => absurd hq List.not_mem_nil)
  have Ho : ymem (xpmA_r v8) (yg xpmA_s) xpmA_O h_ := fun q_ hq => absurd hq List.not_mem_nil
  have HC : ∀ q_ ∈ xpmA_C, xhold (xpmA_r v8) q_ := fun q_ hq => absurd hq List.not_mem_nil
  rcases yrun (yis_ok xpmA_k) hA Hs Ho HC with ⟨q_, hq, h', K_, G_⟩ | ⟨q_, hq, h', K_, G_⟩
  · have e_ := List.mem_singleton.mp hq
    subst e_
    exact ⟨h', yfr_sm K_.2.2.2 hs K_.1 (ywa_s xpmA_w List.mem_cons_self), ⟨fun a_ j_ => yfr_bp K_.2.2.2 (fun q_ hq => absurd hq List.not_mem_nil), G_⟩⟩
  · cases hq
-- xpmXA: 5 steps, 0 ends, 1 returns
def xpmXA_L : List (Nat × Nat × Nat) := []
def xpmXA_O : yO := []
def xpmXA_A : yA := (yZ xpmXA_L, [], [], [], [])
def xpmXA_C : List xB := [(.lt, .arg 3, .int 12, false)]
def xpmXA_ss : List yS := []
def xpmXA_rs : List yR := [(some (.arg 1), [], [(.lt, .arg 3, .int 12, false)], [])]
theorem xpmXA_w : ywa xpmXA_A xpmXA_ss xpmXA_rs = true := by decide +kernel
theorem xpmXA_k : yis (yev xpmXA_A 3000 60 20 [] (10, [(3, .arg 3), (2, .arg 2), (1, .arg 1), (0, .index 155)], [], xpmXA_O, xpmXA_C, [])) xpmXA_ss xpmXA_rs = true := by decide +kernel
def xpmXA_r (v1_ v2 v3 : Int32) (k_ : Nat) : Value := bif Nat.beq k_ 1 then .int v1_ else (bif Nat.beq k_ 2 then .int v2 else (bif Nat.beq k_ 3 then .int v3 else (.int 0)))
def xpmXA_s (n_ : Nat) : Nat := 0
theorem xpmXA {h_ : xH} {v1_ v2 v3 : Int32} (hs : sHp h_) (c0_ : (12 : Int32).toInt ≤ v3.toInt) : ∃ h', ysm h_ h' ∧ (((∀ a_ j_ : Nat, bpat h' a_ j_ = bpat h_ a_ j_) ∧ (∀ D_, 60 ≤ D_ → xrun D_ 20 10 [(3, .int v3), (2, .int v2), (1, .int v1_), (0, .index 155)] [] h_ (some (.int v1_), h', [])))) := by
  have hA : yas xpmXA_A (xpmXA_r v1_ v2 v3) (yg xpmXA_s) := ⟨fun q_ hq => absurd hq List.not_mem_nil, fun q_ hq => absurd hq List.not_mem_nil, fun q_ hq => absurd hq List.not_mem_nil, fun n_ hn => yg_lo hn, fun q_ hq => absurd hq List.not_mem_nil⟩
  have Hs : ysh xpmXA_A.1 (yg xpmXA_s) h_ := ysh_of2 hs (fun q_ hq => absurd hq List.not_mem_nil)
  have Ho : ymem (xpmXA_r v1_ v2 v3) (yg xpmXA_s) xpmXA_O h_ := fun q_ hq => absurd hq List.not_mem_nil
  have HC : ∀ q_ ∈ xpmXA_C, xhold (xpmXA_r v1_ v2 v3) q_ := List.forall_mem_cons.mpr ⟨xh_ltF c0_, fun q_ hq => absurd hq List.not_mem_nil⟩
  rcases yrun (yis_ok xpmXA_k) hA Hs Ho HC with ⟨q_, hq, h', K_, G_⟩ | ⟨q_, hq, h', K_, G_⟩
  · cases hq
  · have e_ := List.mem_singleton.mp hq
    subst e_
    exact ⟨h', yfr_sm K_.2.2.2 hs K_.1 (ywa_r xpmXA_w List.mem_cons_self), ⟨fun a_ j_ => yfr_bp K_.2.2.2 (fun q_ hq => absurd hq List.not_mem_nil), G_⟩⟩
-- xpmTA: 5 steps, 1 ends, 0 returns
def xpmTA_L : List (Nat × Nat × Nat) := []
def xpmTA_O : yO := []
def xpmTA_A : yA := (yZ xpmTA_L, [], [], [], [])
def xpmTA_C : List xB := [(.lt, .arg 3, .int 12, true)]
def xpmTA_ss : List yS := [(18, [(3, .arg 3), (2, .arg 2), (1, .arg 1), (0, .index 155)], [.arg 3, .index 155], [], [(.lt, .arg 3, .int 12, true)], [])]
def xpmTA_rs : List yR := []
theorem xpmTA_w : ywa xpmTA_A xpmTA_ss xpmTA_rs = true := by decide +kernel
theorem xpmTA_k : yis (yev xpmTA_A 3000 60 20 [18] (10, [(3, .arg 3), (2, .arg 2), (1, .arg 1), (0, .index 155)], [], xpmTA_O, xpmTA_C, [])) xpmTA_ss xpmTA_rs = true := by decide +kernel
def xpmTA_r (v1_ v2 v3 : Int32) (k_ : Nat) : Value := bif Nat.beq k_ 1 then .int v1_ else (bif Nat.beq k_ 2 then .int v2 else (bif Nat.beq k_ 3 then .int v3 else (.int 0)))
def xpmTA_s (n_ : Nat) : Nat := 0
theorem xpmTA {h_ : xH} {v1_ v2 v3 : Int32} (hs : sHp h_) (c0_ : v3.toInt < (12 : Int32).toInt) : ∃ h', ysm h_ h' ∧ (((∀ a_ j_ : Nat, bpat h' a_ j_ = bpat h_ a_ j_) ∧ (bldD 60 20 10 [(3, .int v3), (2, .int v2), (1, .int v1_), (0, .index 155)] [] h_ 18 [(3, .int v3), (2, .int v2), (1, .int v1_), (0, .index 155)] [.int v3, .index 155] h'))) := by
  have hA : yas xpmTA_A (xpmTA_r v1_ v2 v3) (yg xpmTA_s) := ⟨fun q_ hq => absurd hq List.not_mem_nil, fun q_ hq => absurd hq List.not_mem_nil, fun q_ hq => absurd hq List.not_mem_nil, fun n_ hn => yg_lo hn, fun q_ hq => absurd hq List.not_mem_nil⟩
  have Hs : ysh xpmTA_A.1 (yg xpmTA_s) h_ := ysh_of2 hs (fun q_ hq => absurd hq List.not_mem_nil)
  have Ho : ymem (xpmTA_r v1_ v2 v3) (yg xpmTA_s) xpmTA_O h_ := fun q_ hq => absurd hq List.not_mem_nil
  have HC : ∀ q_ ∈ xpmTA_C, xhold (xpmTA_r v1_ v2 v3) q_ := List.forall_mem_cons.mpr ⟨xh_ltT c0_, fun q_ hq => absurd hq List.not_mem_nil⟩
  rcases yrun (yis_ok xpmTA_k) hA Hs Ho HC with ⟨q_, hq, h', K_, G_⟩ | ⟨q_, hq, h', K_, G_⟩
  · have e_ := List.mem_singleton.mp hq
    subst e_
    exact ⟨h', yfr_sm K_.2.2.2 hs K_.1 (ywa_s xpmTA_w List.mem_cons_self), ⟨fun a_ j_ => yfr_bp K_.2.2.2 (fun q_ hq => absurd hq List.not_mem_nil), G_⟩⟩
  · cases hq
-- xpmUA: 6 steps, 1 ends, 0 returns
def xpmUA_L : List (Nat × Nat × Nat) := []
def xpmUA_O : yO := []
def xpmUA_A : yA := (yZ xpmUA_L, [], [], [], [])
def xpmUA_C : List xB := [(.le, .arg 8, .arg 2, true)]
def xpmUA_ss : List yS := [(10, [(3, .add (.arg 3) (.int 1)), (4, .arg 8), (2, .arg 2), (1, .arg 1), (0, .index 155)], [], [], [(.le, .arg 8, .arg 2, true)], [])]
def xpmUA_rs : List yR := []
theorem xpmUA_w : ywa xpmUA_A xpmUA_ss xpmUA_rs = true := by decide +kernel
theorem xpmUA_k : yis (yev xpmUA_A 3000 60 20 [10] (21, [(3, .arg 3), (2, .arg 2), (1, .arg 1), (0, .index 155)], [.arg 8], xpmUA_O, xpmUA_C, [])) xpmUA_ss xpmUA_rs = true := by decide +kernel
def xpmUA_r (v1_ v2 v3 v8 : Int32) (k_ : Nat) : Value := bif Nat.beq k_ 1 then .int v1_ else (bif Nat.beq k_ 2 then .int v2 else (bif Nat.beq k_ 3 then .int v3 else (bif Nat.beq k_ 8 then .int v8 else (.int 0))))
def xpmUA_s (n_ : Nat) : Nat := 0
theorem xpmUA {h_ : xH} {v1_ v2 v3 v8 : Int32} (hs : sHp h_) (c0_ : v8.toInt ≤ v2.toInt) : ∃ h', ysm h_ h' ∧ (((∀ a_ j_ : Nat, bpat h' a_ j_ = bpat h_ a_ j_) ∧ (bldD 60 20 21 [(3, .int v3), (2, .int v2), (1, .int v1_), (0, .index 155)] [.int v8] h_ 10 [(3, .int (v3 + (1 : Int32))), (4, .int v8), (2, .int v2), (1, .int v1_), (0, .index 155)] [] h'))) := by
  have hA : yas xpmUA_A (xpmUA_r v1_ v2 v3 v8) (yg xpmUA_s) := ⟨fun q_ hq => absurd hq List.not_mem_nil, fun q_ hq => absurd hq List.not_mem_nil, fun q_ hq => absurd hq List.not_mem_nil, fun n_ hn => yg_lo hn, fun q_ hq => absurd hq List.not_mem_nil⟩
  have Hs : ysh xpmUA_A.1 (yg xpmUA_s) h_ := ysh_of2 hs (fun q_ hq => absurd hq List.not_mem_nil)
  have Ho : ymem (xpmUA_r v1_ v2 v3 v8) (yg xpmUA_s) xpmUA_O h_ := fun q_ hq => absurd hq List.not_mem_nil
  have HC : ∀ q_ ∈ xpmUA_C, xhold (xpmUA_r v1_ v2 v3 v8) q_ := List.forall_mem_cons.mpr ⟨xh_leT c0_, fun q_ hq => absurd hq List.not_mem_nil⟩
  rcases yrun (yis_ok xpmUA_k) hA Hs Ho HC with ⟨q_, hq, h', K_, G_⟩ | ⟨q_, hq, h', K_, G_⟩
  · have e_ := List.mem_singleton.mp hq
    subst e_
    exact ⟨h', yfr_sm K_.2.2.2 hs K_.1 (ywa_s xpmUA_w List.mem_cons_self), ⟨fun a_ j_ => yfr_bp K_.2.2.2 (fun q_ hq => absurd hq List.not_mem_nil), G_⟩⟩
  · cases hq
-- xpmVA: 10 steps, 1 ends, 0 returns
def xpmVA_L : List (Nat × Nat × Nat) := []
def xpmVA_O : yO := []
def xpmVA_A : yA := (yZ xpmVA_L, [], [], [], [])
def xpmVA_C : List xB := [(.le, .arg 8, .arg 2, false)]
def xpmVA_ss : List yS := [(10, [(3, .add (.arg 3) (.int 1)), (2, .arg 8), (1, .arg 3), (4, .arg 8), (0, .index 155)], [], [], [(.le, .arg 8, .arg 2, false)], [])]
def xpmVA_rs : List yR := []
theorem xpmVA_w : ywa xpmVA_A xpmVA_ss xpmVA_rs = true := by decide +kernel
theorem xpmVA_k : yis (yev xpmVA_A 3000 60 20 [10] (21, [(3, .arg 3), (2, .arg 2), (1, .arg 1), (0, .index 155)], [.arg 8], xpmVA_O, xpmVA_C, [])) xpmVA_ss xpmVA_rs = true := by decide +kernel
def xpmVA_r (v1_ v2 v3 v8 : Int32) (k_ : Nat) : Value := bif Nat.beq k_ 1 then .int v1_ else (bif Nat.beq k_ 2 then .int v2 else (bif Nat.beq k_ 3 then .int v3 else (bif Nat.beq k_ 8 then .int v8 else (.int 0))))
def xpmVA_s (n_ : Nat) : Nat := 0
theorem xpmVA {h_ : xH} {v1_ v2 v3 v8 : Int32} (hs : sHp h_) (c0_ : v2.toInt < v8.toInt) : ∃ h', ysm h_ h' ∧ (((∀ a_ j_ : Nat, bpat h' a_ j_ = bpat h_ a_ j_) ∧ (bldD 60 20 21 [(3, .int v3), (2, .int v2), (1, .int v1_), (0, .index 155)] [.int v8] h_ 10 [(3, .int (v3 + (1 : Int32))), (2, .int v8), (1, .int v3), (4, .int v8), (0, .index 155)] [] h'))) := by
  have hA : yas xpmVA_A (xpmVA_r v1_ v2 v3 v8) (yg xpmVA_s) := ⟨fun q_ hq => absurd hq List.not_mem_nil, fun q_ hq => absurd hq List.not_mem_nil, fun q_ hq => absurd hq List.not_mem_nil, fun n_ hn => yg_lo hn, fun q_ hq => absurd hq List.not_mem_nil⟩
  have Hs : ysh xpmVA_A.1 (yg xpmVA_s) h_ := ysh_of2 hs (fun q_ hq => absurd hq List.not_mem_nil)
  have Ho : ymem (xpmVA_r v1_ v2 v3 v8) (yg xpmVA_s) xpmVA_O h_ := fun q_ hq => absurd hq List.not_mem_nil
  have HC : ∀ q_ ∈ xpmVA_C, xhold (xpmVA_r v1_ v2 v3 v8) q_ := List.forall_mem_cons.mpr ⟨xh_leF c0_, fun q_ hq => absurd hq List.not_mem_nil⟩
  rcases yrun (yis_ok xpmVA_k) hA Hs Ho HC with ⟨q_, hq, h', K_, G_⟩ | ⟨q_, hq, h', K_, G_⟩
  · have e_ := List.mem_singleton.mp hq
    subst e_
    exact ⟨h', yfr_sm K_.2.2.2 hs K_.1 (ywa_s xpmVA_w List.mem_cons_self), ⟨fun a_ j_ => yfr_bp K_.2.2.2 (fun q_ hq => absurd hq List.not_mem_nil), G_⟩⟩
  · cases hq
-- xpmXB: 5 steps, 0 ends, 1 returns
def xpmXB_L : List (Nat × Nat × Nat) := []
def xpmXB_O : yO := []
def xpmXB_A : yA := (yZ xpmXB_L, [], [], [], [])
def xpmXB_C : List xB := [(.lt, .arg 3, .int 12, false)]
def xpmXB_ss : List yS := []
def xpmXB_rs : List yR := [(some (.arg 1), [], [(.lt, .arg 3, .int 12, false)], [])]
theorem xpmXB_w : ywa xpmXB_A xpmXB_ss xpmXB_rs = true := by decide +kernel
theorem xpmXB_k : yis (yev xpmXB_A 3000 60 20 [] (10, [(3, .arg 3), (4, .arg 4), (2, .arg 2), (1, .arg 1), (0, .index 155)], [], xpmXB_O, xpmXB_C, [])) xpmXB_ss xpmXB_rs = true := by decide +kernel
def xpmXB_r (v1_ v2 v3 v4_ : Int32) (k_ : Nat) : Value := bif Nat.beq k_ 1 then .int v1_ else (bif Nat.beq k_ 2 then .int v2 else (bif Nat.beq k_ 3 then .int v3 else (bif Nat.beq k_ 4 then .int v4_ else (.int 0))))
def xpmXB_s (n_ : Nat) : Nat := 0
theorem xpmXB {h_ : xH} {v1_ v2 v3 v4_ : Int32} (hs : sHp h_) (c0_ : (12 : Int32).toInt ≤ v3.toInt) : ∃ h', ysm h_ h' ∧ (((∀ a_ j_ : Nat, bpat h' a_ j_ = bpat h_ a_ j_) ∧ (∀ D_, 60 ≤ D_ → xrun D_ 20 10 [(3, .int v3), (4, .int v4_), (2, .int v2), (1, .int v1_), (0, .index 155)] [] h_ (some (.int v1_), h', [])))) := by
  have hA : yas xpmXB_A (xpmXB_r v1_ v2 v3 v4_) (yg xpmXB_s) := ⟨fun q_ hq => absurd hq List.not_mem_nil, fun q_ hq => absurd hq List.not_mem_nil, fun q_ hq => absurd hq List.not_mem_nil, fun n_ hn => yg_lo hn, fun q_ hq => absurd hq List.not_mem_nil⟩
  have Hs : ysh xpmXB_A.1 (yg xpmXB_s) h_ := ysh_of2 hs (fun q_ hq => absurd hq List.not_mem_nil)
  have Ho : ymem (xpmXB_r v1_ v2 v3 v4_) (yg xpmXB_s) xpmXB_O h_ := fun q_ hq => absurd hq List.not_mem_nil
  have HC : ∀ q_ ∈ xpmXB_C, xhold (xpmXB_r v1_ v2 v3 v4_) q_ := List.forall_mem_cons.mpr ⟨xh_ltF c0_, fun q_ hq => absurd hq List.not_mem_nil⟩
  rcases yrun (yis_ok xpmXB_k) hA Hs Ho HC with ⟨q_, hq, h', K_, G_⟩ | ⟨q_, hq, h', K_, G_⟩
  · cases hq
  · have e_ := List.mem_singleton.mp hq
    subst e_
    exact ⟨h', yfr_sm K_.2.2.2 hs K_.1 (ywa_r xpmXB_w List.mem_cons_self), ⟨fun a_ j_ => yfr_bp K_.2.2.2 (fun q_ hq => absurd hq List.not_mem_nil), G_⟩⟩
-- xpmTB: 5 steps, 1 ends, 0 returns
def xpmTB_L : List (Nat × Nat × Nat) := []
def xpmTB_O : yO := []
def xpmTB_A : yA := (yZ xpmTB_L, [], [], [], [])
def xpmTB_C : List xB := [(.lt, .arg 3, .int 12, true)]
def xpmTB_ss : List yS := [(18, [(3, .arg 3), (4, .arg 4), (2, .arg 2), (1, .arg 1), (0, .index 155)], [.arg 3, .index 155], [], [(.lt, .arg 3, .int 12, true)], [])]
def xpmTB_rs : List yR := []
theorem xpmTB_w : ywa xpmTB_A xpmTB_ss xpmTB_rs = true := by decide +kernel
theorem xpmTB_k : yis (yev xpmTB_A 3000 60 20 [18] (10, [(3, .arg 3), (4, .arg 4), (2, .arg 2), (1, .arg 1), (0, .index 155)], [], xpmTB_O, xpmTB_C, [])) xpmTB_ss xpmTB_rs = true := by decide +kernel
def xpmTB_r (v1_ v2 v3 v4_ : Int32) (k_ : Nat) : Value := bif Nat.beq k_ 1 then .int v1_ else (bif Nat.beq k_ 2 then .int v2 else (bif Nat.beq k_ 3 then .int v3 else (bif Nat.beq k_ 4 then .int v4_ else (.int 0))))
def xpmTB_s (n_ : Nat) : Nat := 0
theorem xpmTB {h_ : xH} {v1_ v2 v3 v4_ : Int32} (hs : sHp h_) (c0_ : v3.toInt < (12 : Int32).toInt) : ∃ h', ysm h_ h' ∧ (((∀ a_ j_ : Nat, bpat h' a_ j_ = bpat h_ a_ j_) ∧ (bldD 60 20 10 [(3, .int v3), (4, .int v4_), (2, .int v2), (1, .int v1_), (0, .index 155)] [] h_ 18 [(3, .int v3), (4, .int v4_), (2, .int v2), (1, .int v1_), (0, .index 155)] [.int v3, .index 155] h'))) := by
  have hA : yas xpmTB_A (xpmTB_r v1_ v2 v3 v4_) (yg xpmTB_s) := ⟨fun q_ hq => absurd hq List.not_mem_nil, fun q_ hq => absurd hq List.not_mem_nil, fun q_ hq => absurd hq List.not_mem_nil, fun n_ hn => yg_lo hn, fun q_ hq => absurd hq List.not_mem_nil⟩
  have Hs : ysh xpmTB_A.1 (yg xpmTB_s) h_ := ysh_of2 hs (fun q_ hq => absurd hq List.not_mem_nil)
  have Ho : ymem (xpmTB_r v1_ v2 v3 v4_) (yg xpmTB_s) xpmTB_O h_ := fun q_ hq => absurd hq List.not_mem_nil
  have HC : ∀ q_ ∈ xpmTB_C, xhold (xpmTB_r v1_ v2 v3 v4_) q_ := List.forall_mem_cons.mpr ⟨xh_ltT c0_, fun q_ hq => absurd hq List.not_mem_nil⟩
  rcases yrun (yis_ok xpmTB_k) hA Hs Ho HC with ⟨q_, hq, h', K_, G_⟩ | ⟨q_, hq, h', K_, G_⟩
  · have e_ := List.mem_singleton.mp hq
    subst e_
    exact ⟨h', yfr_sm K_.2.2.2 hs K_.1 (ywa_s xpmTB_w List.mem_cons_self), ⟨fun a_ j_ => yfr_bp K_.2.2.2 (fun q_ hq => absurd hq List.not_mem_nil), G_⟩⟩
  · cases hq
-- xpmUB: 6 steps, 1 ends, 0 returns
def xpmUB_L : List (Nat × Nat × Nat) := []
def xpmUB_O : yO := []
def xpmUB_A : yA := (yZ xpmUB_L, [], [], [], [])
def xpmUB_C : List xB := [(.le, .arg 8, .arg 2, true)]
def xpmUB_ss : List yS := [(10, [(3, .add (.arg 3) (.int 1)), (4, .arg 8), (2, .arg 2), (1, .arg 1), (0, .index 155)], [], [], [(.le, .arg 8, .arg 2, true)], [])]
def xpmUB_rs : List yR := []
theorem xpmUB_w : ywa xpmUB_A xpmUB_ss xpmUB_rs = true := by decide +kernel
theorem xpmUB_k : yis (yev xpmUB_A 3000 60 20 [10] (21, [(3, .arg 3), (4, .arg 4), (2, .arg 2), (1, .arg 1), (0, .index 155)], [.arg 8], xpmUB_O, xpmUB_C, [])) xpmUB_ss xpmUB_rs = true := by decide +kernel
def xpmUB_r (v1_ v2 v3 v4_ v8 : Int32) (k_ : Nat) : Value := bif Nat.beq k_ 1 then .int v1_ else (bif Nat.beq k_ 2 then .int v2 else (bif Nat.beq k_ 3 then .int v3 else (bif Nat.beq k_ 4 then .int v4_ else (bif Nat.beq k_ 8 then .int v8 else (.int 0)))))
def xpmUB_s (n_ : Nat) : Nat := 0
theorem xpmUB {h_ : xH} {v1_ v2 v3 v4_ v8 : Int32} (hs : sHp h_) (c0_ : v8.toInt ≤ v2.toInt) : ∃ h', ysm h_ h' ∧ (((∀ a_ j_ : Nat, bpat h' a_ j_ = bpat h_ a_ j_) ∧ (bldD 60 20 21 [(3, .int v3), (4, .int v4_), (2, .int v2), (1, .int v1_), (0, .index 155)] [.int v8] h_ 10 [(3, .int (v3 + (1 : Int32))), (4, .int v8), (2, .int v2), (1, .int v1_), (0, .index 155)] [] h'))) := by
  have hA : yas xpmUB_A (xpmUB_r v1_ v2 v3 v4_ v8) (yg xpmUB_s) := ⟨fun q_ hq => absurd hq List.not_mem_nil, fun q_ hq => absurd hq List.not_mem_nil, fun q_ hq => absurd hq List.not_mem_nil, fun n_ hn => yg_lo hn, fun q_ hq => absurd hq List.not_mem_nil⟩
  have Hs : ysh xpmUB_A.1 (yg xpmUB_s) h_ := ysh_of2 hs (fun q_ hq => absurd hq List.not_mem_nil)
  have Ho : ymem (xpmUB_r v1_ v2 v3 v4_ v8) (yg xpmUB_s) xpmUB_O h_ := fun q_ hq => absurd hq List.not_mem_nil
  have HC : ∀ q_ ∈ xpmUB_C, xhold (xpmUB_r v1_ v2 v3 v4_ v8) q_ := List.forall_mem_cons.mpr ⟨xh_leT c0_, fun q_ hq => absurd hq List.not_mem_nil⟩
  rcases yrun (yis_ok xpmUB_k) hA Hs Ho HC with ⟨q_, hq, h', K_, G_⟩ | ⟨q_, hq, h', K_, G_⟩
  · have e_ := List.mem_singleton.mp hq
    subst e_
    exact ⟨h', yfr_sm K_.2.2.2 hs K_.1 (ywa_s xpmUB_w List.mem_cons_self), ⟨fun a_ j_ => yfr_bp K_.2.2.2 (fun q_ hq => absurd hq List.not_mem_nil), G_⟩⟩
  · cases hq
-- xpmVB: 10 steps, 1 ends, 0 returns
def xpmVB_L : List (Nat × Nat × Nat) := []
def xpmVB_O : yO := []
def xpmVB_A : yA := (yZ xpmVB_L, [], [], [], [])
def xpmVB_C : List xB := [(.le, .arg 8, .arg 2, false)]
def xpmVB_ss : List yS := [(10, [(3, .add (.arg 3) (.int 1)), (2, .arg 8), (1, .arg 3), (4, .arg 8), (0, .index 155)], [], [], [(.le, .arg 8, .arg 2, false)], [])]
def xpmVB_rs : List yR := []
theorem xpmVB_w : ywa xpmVB_A xpmVB_ss xpmVB_rs = true := by decide +kernel
theorem xpmVB_k : yis (yev xpmVB_A 3000 60 20 [10] (21, [(3, .arg 3), (4, .arg 4), (2, .arg 2), (1, .arg 1), (0, .index 155)], [.arg 8], xpmVB_O, xpmVB_C, [])) xpmVB_ss xpmVB_rs = true := by decide +kernel
def xpmVB_r (v1_ v2 v3 v4_ v8 : Int32) (k_ : Nat) : Value := bif Nat.beq k_ 1 then .int v1_ else (bif Nat.beq k_ 2 then .int v2 else (bif Nat.beq k_ 3 then .int v3 else (bif Nat.beq k_ 4 then .int v4_ else (bif Nat.beq k_ 8 then .int v8 else (.int 0)))))
def xpmVB_s (n_ : Nat) : Nat := 0
theorem xpmVB {h_ : xH} {v1_ v2 v3 v4_ v8 : Int32} (hs : sHp h_) (c0_ : v2.toInt < v8.toInt) : ∃ h', ysm h_ h' ∧ (((∀ a_ j_ : Nat, bpat h' a_ j_ = bpat h_ a_ j_) ∧ (bldD 60 20 21 [(3, .int v3), (4, .int v4_), (2, .int v2), (1, .int v1_), (0, .index 155)] [.int v8] h_ 10 [(3, .int (v3 + (1 : Int32))), (2, .int v8), (1, .int v3), (4, .int v8), (0, .index 155)] [] h'))) := by
  have hA : yas xpmVB_A (xpmVB_r v1_ v2 v3 v4_ v8) (yg xpmVB_s) := ⟨fun q_ hq => absurd hq List.not_mem_nil, fun q_ hq => absurd hq List.not_mem_nil, fun q_ hq => absurd hq List.not_mem_nil, fun n_ hn => yg_lo hn, fun q_ hq => absurd hq List.not_mem_nil⟩
  have Hs : ysh xpmVB_A.1 (yg xpmVB_s) h_ := ysh_of2 hs (fun q_ hq => absurd hq List.not_mem_nil)
  have Ho : ymem (xpmVB_r v1_ v2 v3 v4_ v8) (yg xpmVB_s) xpmVB_O h_ := fun q_ hq => absurd hq List.not_mem_nil
  have HC : ∀ q_ ∈ xpmVB_C, xhold (xpmVB_r v1_ v2 v3 v4_ v8) q_ := List.forall_mem_cons.mpr ⟨xh_leF c0_, fun q_ hq => absurd hq List.not_mem_nil⟩
  rcases yrun (yis_ok xpmVB_k) hA Hs Ho HC with ⟨q_, hq, h', K_, G_⟩ | ⟨q_, hq, h', K_, G_⟩
  · have e_ := List.mem_singleton.mp hq
    subst e_
    exact ⟨h', yfr_sm K_.2.2.2 hs K_.1 (ywa_s xpmVB_w List.mem_cons_self), ⟨fun a_ j_ => yfr_bp K_.2.2.2 (fun q_ hq => absurd hq List.not_mem_nil), G_⟩⟩
  · cases hq
-- xpmXC: 5 steps, 0 ends, 1 returns
def xpmXC_L : List (Nat × Nat × Nat) := []
def xpmXC_O : yO := []
def xpmXC_A : yA := (yZ xpmXC_L, [], [], [], [])
def xpmXC_C : List xB := [(.lt, .arg 3, .int 12, false)]
def xpmXC_ss : List yS := []
def xpmXC_rs : List yR := [(some (.arg 1), [], [(.lt, .arg 3, .int 12, false)], [])]
theorem xpmXC_w : ywa xpmXC_A xpmXC_ss xpmXC_rs = true := by decide +kernel
theorem xpmXC_k : yis (yev xpmXC_A 3000 60 20 [] (10, [(3, .arg 3), (2, .arg 2), (1, .arg 1), (4, .arg 4), (0, .index 155)], [], xpmXC_O, xpmXC_C, [])) xpmXC_ss xpmXC_rs = true := by decide +kernel
def xpmXC_r (v1_ v2 v3 v4_ : Int32) (k_ : Nat) : Value := bif Nat.beq k_ 1 then .int v1_ else (bif Nat.beq k_ 2 then .int v2 else (bif Nat.beq k_ 3 then .int v3 else (bif Nat.beq k_ 4 then .int v4_ else (.int 0))))
def xpmXC_s (n_ : Nat) : Nat := 0
theorem xpmXC {h_ : xH} {v1_ v2 v3 v4_ : Int32} (hs : sHp h_) (c0_ : (12 : Int32).toInt ≤ v3.toInt) : ∃ h', ysm h_ h' ∧ (((∀ a_ j_ : Nat, bpat h' a_ j_ = bpat h_ a_ j_) ∧ (∀ D_, 60 ≤ D_ → xrun D_ 20 10 [(3, .int v3), (2, .int v2), (1, .int v1_), (4, .int v4_), (0, .index 155)] [] h_ (some (.int v1_), h', [])))) := by
  have hA : yas xpmXC_A (xpmXC_r v1_ v2 v3 v4_) (yg xpmXC_s) := ⟨fun q_ hq => absurd hq List.not_mem_nil, fun q_ hq => absurd hq List.not_mem_nil, fun q_ hq => absurd hq List.not_mem_nil, fun n_ hn => yg_lo hn, fun q_ hq => absurd hq List.not_mem_nil⟩
  have Hs : ysh xpmXC_A.1 (yg xpmXC_s) h_ := ysh_of2 hs (fun q_ hq => absurd hq List.not_mem_nil)
  have Ho : ymem (xpmXC_r v1_ v2 v3 v4_) (yg xpmXC_s) xpmXC_O h_ := fun q_ hq => absurd hq List.not_mem_nil
  have HC : ∀ q_ ∈ xpmXC_C, xhold (xpmXC_r v1_ v2 v3 v4_) q_ := List.forall_mem_cons.mpr ⟨xh_ltF c0_, fun q_ hq => absurd hq List.not_mem_nil⟩
  rcases yrun (yis_ok xpmXC_k) hA Hs Ho HC with ⟨q_, hq, h', K_, G_⟩ | ⟨q_, hq, h', K_, G_⟩
  · cases hq
  · have e_ := List.mem_singleton.mp hq
    subst e_
    exact ⟨h', yfr_sm K_.2.2.2 hs K_.1 (ywa_r xpmXC_w List.mem_cons_self), ⟨fun a_ j_ => yfr_bp K_.2.2.2 (fun q_ hq => absurd hq List.not_mem_nil), G_⟩⟩
-- xpmTC: 5 steps, 1 ends, 0 returns
def xpmTC_L : List (Nat × Nat × Nat) := []
def xpmTC_O : yO := []
def xpmTC_A : yA := (yZ xpmTC_L, [], [], [], [])
def xpmTC_C : List xB := [(.lt, .arg 3, .int 12, true)]
def xpmTC_ss : List yS := [(18, [(3, .arg 3), (2, .arg 2), (1, .arg 1), (4, .arg 4), (0, .index 155)], [.arg 3, .index 155], [], [(.lt, .arg 3, .int 12, true)], [])]
def xpmTC_rs : List yR := []
theorem xpmTC_w : ywa xpmTC_A xpmTC_ss xpmTC_rs = true := by decide +kernel
theorem xpmTC_k : yis (yev xpmTC_A 3000 60 20 [18] (10, [(3, .arg 3), (2, .arg 2), (1, .arg 1), (4, .arg 4), (0, .index 155)], [], xpmTC_O, xpmTC_C, [])) xpmTC_ss xpmTC_rs = true := by decide +kernel
def xpmTC_r (v1_ v2 v3 v4_ : Int32) (k_ : Nat) : Value := bif Nat.beq k_ 1 then .int v1_ else (bif Nat.beq k_ 2 then .int v2 else (bif Nat.beq k_ 3 then .int v3 else (bif Nat.beq k_ 4 then .int v4_ else (.int 0))))
def xpmTC_s (n_ : Nat) : Nat := 0
theorem xpmTC {h_ : xH} {v1_ v2 v3 v4_ : Int32} (hs : sHp h_) (c0_ : v3.toInt < (12 : Int32).toInt) : ∃ h', ysm h_ h' ∧ (((∀ a_ j_ : Nat, bpat h' a_ j_ = bpat h_ a_ j_) ∧ (bldD 60 20 10 [(3, .int v3), (2, .int v2), (1, .int v1_), (4, .int v4_), (0, .index 155)] [] h_ 18 [(3, .int v3), (2, .int v2), (1, .int v1_), (4, .int v4_), (0, .index 155)] [.int v3, .index 155] h'))) := by
  have hA : yas xpmTC_A (xpmTC_r v1_ v2 v3 v4_) (yg xpmTC_s) := ⟨fun q_ hq => absurd hq List.not_mem_nil, fun q_ hq => absurd hq List.not_mem_nil, fun q_ hq => absurd hq List.not_mem_nil, fun n_ hn => yg_lo hn, fun q_ hq => absurd hq List.not_mem_nil⟩
  have Hs : ysh xpmTC_A.1 (yg xpmTC_s) h_ := ysh_of2 hs (fun q_ hq => absurd hq List.not_mem_nil)
  have Ho : ymem (xpmTC_r v1_ v2 v3 v4_) (yg xpmTC_s) xpmTC_O h_ := fun q_ hq => absurd hq List.not_mem_nil
  have HC : ∀ q_ ∈ xpmTC_C, xhold (xpmTC_r v1_ v2 v3 v4_) q_ := List.forall_mem_cons.mpr ⟨xh_ltT c0_, fun q_ hq => absurd hq List.not_mem_nil⟩
  rcases yrun (yis_ok xpmTC_k) hA Hs Ho HC with ⟨q_, hq, h', K_, G_⟩ | ⟨q_, hq, h', K_, G_⟩
  · have e_ := List.mem_singleton.mp hq
    subst e_
    exact ⟨h', yfr_sm K_.2.2.2 hs K_.1 (ywa_s xpmTC_w List.mem_cons_self), ⟨fun a_ j_ => yfr_bp K_.2.2.2 (fun q_ hq => absurd hq List.not_mem_nil), G_⟩⟩
  · cases hq
-- xpmUC: 6 steps, 1 ends, 0 returns
def xpmUC_L : List (Nat × Nat × Nat) := []
def xpmUC_O : yO := []
def xpmUC_A : yA := (yZ xpmUC_L, [], [], [], [])
def xpmUC_C : List xB := [(.le, .arg 8, .arg 2, true)]
def xpmUC_ss : List yS := [(10, [(3, .add (.arg 3) (.int 1)), (4, .arg 8), (2, .arg 2), (1, .arg 1), (0, .index 155)], [], [], [(.le, .arg 8, .arg 2, true)], [])]
def xpmUC_rs : List yR := []
theorem xpmUC_w : ywa xpmUC_A xpmUC_ss xpmUC_rs = true := by decide +kernel
theorem xpmUC_k : yis (yev xpmUC_A 3000 60 20 [10] (21, [(3, .arg 3), (2, .arg 2), (1, .arg 1), (4, .arg 4), (0, .index 155)], [.arg 8], xpmUC_O, xpmUC_C, [])) xpmUC_ss xpmUC_rs = true := by decide +kernel
def xpmUC_r (v1_ v2 v3 v4_ v8 : Int32) (k_ : Nat) : Value := bif Nat.beq k_ 1 then .int v1_ else (bif Nat.beq k_ 2 then .int v2 else (bif Nat.beq k_ 3 then .int v3 else (bif Nat.beq k_ 4 then .int v4_ else (bif Nat.beq k_ 8 then .int v8 else (.int 0)))))
def xpmUC_s (n_ : Nat) : Nat := 0
theorem xpmUC {h_ : xH} {v1_ v2 v3 v4_ v8 : Int32} (hs : sHp h_) (c0_ : v8.toInt ≤ v2.toInt) : ∃ h', ysm h_ h' ∧ (((∀ a_ j_ : Nat, bpat h' a_ j_ = bpat h_ a_ j_) ∧ (bldD 60 20 21 [(3, .int v3), (2, .int v2), (1, .int v1_), (4, .int v4_), (0, .index 155)] [.int v8] h_ 10 [(3, .int (v3 + (1 : Int32))), (4, .int v8), (2, .int v2), (1, .int v1_), (0, .index 155)] [] h'))) := by
  have hA : yas xpmUC_A (xpmUC_r v1_ v2 v3 v4_ v8) (yg xpmUC_s) := ⟨fun q_ hq => absurd hq List.not_mem_nil, fun q_ hq => absurd hq List.not_mem_nil, fun q_ hq => absurd hq List.not_mem_nil, fun n_ hn => yg_lo hn, fun q_ hq => absurd hq List.not_mem_nil⟩
  have Hs : ysh xpmUC_A.1 (yg xpmUC_s) h_ := ysh_of2 hs (fun q_ hq => absurd hq List.not_mem_nil)
  have Ho : ymem (xpmUC_r v1_ v2 v3 v4_ v8) (yg xpmUC_s) xpmUC_O h_ := fun q_ hq => absurd hq List.not_mem_nil
  have HC : ∀ q_ ∈ xpmUC_C, xhold (xpmUC_r v1_ v2 v3 v4_ v8) q_ := List.forall_mem_cons.mpr ⟨xh_leT c0_, fun q_ hq => absurd hq List.not_mem_nil⟩
  rcases yrun (yis_ok xpmUC_k) hA Hs Ho HC with ⟨q_, hq, h', K_, G_⟩ | ⟨q_, hq, h', K_, G_⟩
  · have e_ := List.mem_singleton.mp hq
    subst e_
    exact ⟨h', yfr_sm K_.2.2.2 hs K_.1 (ywa_s xpmUC_w List.mem_cons_self), ⟨fun a_ j_ => yfr_bp K_.2.2.2 (fun q_ hq => absurd hq List.not_mem_nil), G_⟩⟩
  · cases hq
-- xpmVC: 10 steps, 1 ends, 0 returns
def xpmVC_L : List (Nat × Nat × Nat) := []
def xpmVC_O : yO := []
def xpmVC_A : yA := (yZ xpmVC_L, [], [], [], [])
def xpmVC_C : List xB := [(.le, .arg 8, .arg 2, false)]
def xpmVC_ss : List yS := [(10, [(3, .add (.arg 3) (.int 1)), (2, .arg 8), (1, .arg 3), (4, .arg 8), (0, .index 155)], [], [], [(.le, .arg 8, .arg 2, false)], [])]
def xpmVC_rs : List yR := []
theorem xpmVC_w : ywa xpmVC_A xpmVC_ss xpmVC_rs = true := by decide +kernel
theorem xpmVC_k : yis (yev xpmVC_A 3000 60 20 [10] (21, [(3, .arg 3), (2, .arg 2), (1, .arg 1), (4, .arg 4), (0, .index 155)], [.arg 8], xpmVC_O, xpmVC_C, [])) xpmVC_ss xpmVC_rs = true := by decide +kernel
def xpmVC_r (v1_ v2 v3 v4_ v8 : Int32) (k_ : Nat) : Value := bif Nat.beq k_ 1 then .int v1_ else (bif Nat.beq k_ 2 then .int v2 else (bif Nat.beq k_ 3 then .int v3 else (bif Nat.beq k_ 4 then .int v4_ else (bif Nat.beq k_ 8 then .int v8 else (.int 0)))))
def xpmVC_s (n_ : Nat) : Nat := 0
theorem xpmVC {h_ : xH} {v1_ v2 v3 v4_ v8 : Int32} (hs : sHp h_) (c0_ : v2.toInt < v8.toInt) : ∃ h', ysm h_ h' ∧ (((∀ a_ j_ : Nat, bpat h' a_ j_ = bpat h_ a_ j_) ∧ (bldD 60 20 21 [(3, .int v3), (2, .int v2), (1, .int v1_), (4, .int v4_), (0, .index 155)] [.int v8] h_ 10 [(3, .int (v3 + (1 : Int32))), (2, .int v8), (1, .int v3), (4, .int v8), (0, .index 155)] [] h'))) := by
  have hA : yas xpmVC_A (xpmVC_r v1_ v2 v3 v4_ v8) (yg xpmVC_s) := ⟨fun q_ hq => absurd hq List.not_mem_nil, fun q_ hq => absurd hq List.not_mem_nil, fun q_ hq => absurd hq List.not_mem_nil, fun n_ hn => yg_lo hn, fun q_ hq => absurd hq List.not_mem_nil⟩
  have Hs : ysh xpmVC_A.1 (yg xpmVC_s) h_ := ysh_of2 hs (fun q_ hq => absurd hq List.not_mem_nil)
  have Ho : ymem (xpmVC_r v1_ v2 v3 v4_ v8) (yg xpmVC_s) xpmVC_O h_ := fun q_ hq => absurd hq List.not_mem_nil
  have HC : ∀ q_ ∈ xpmVC_C, xhold (xpmVC_r v1_ v2 v3 v4_ v8) q_ := List.forall_mem_cons.mpr ⟨xh_leF c0_, fun q_ hq => absurd hq List.not_mem_nil⟩
  rcases yrun (yis_ok xpmVC_k) hA Hs Ho HC with ⟨q_, hq, h', K_, G_⟩ | ⟨q_, hq, h', K_, G_⟩
  · have e_ := List.mem_singleton.mp hq
    subst e_
    exact ⟨h', yfr_sm K_.2.2.2 hs K_.1 (ywa_s xpmVC_w List.mem_cons_self), ⟨fun a_ j_ => yfr_bp K_.2.2.2 (fun q_ hq => absurd hq List.not_mem_nil), G_⟩⟩
  · cases hq
-- xplE: 126 steps, 1 ends, 6 returns
def xplE_L : List (Nat × Nat × Nat) := []
def xplE_O : yO := [(0, .int 0, .index 1), (1, .int 9, .arg 310), (0, .int 13, .index 323), (323, .int 1, .arg 400)]
def xplE_A : yA := (yZ xplE_L, [], [], [], [])
def xplE_C : List xB := []
def xplE_ss : List yS := [(32, [(0, .index 0), (1, .arg 1), (2, .arg 2), (3, .arg 3)], [], [(0, .int 0, .index 1), (1, .int 9, .arg 310), (0, .int 13, .index 323), (323, .int 1, .arg 400)], [(.le, .arg 3, .int 1, true), (.lt, .arg 3, .int 0, false), (.le, .arg 2, .int 2, true), (.lt, .arg 2, .int 0, false), (.lt, .arg 1, .arg 310, true), (.lt, .arg 1, .int 0, false)], [])]
def xplE_rs : List yR := [(some (.int (Int32.ofInt (-1000001))), [(323, .int 1, .add (.arg 400) (.int 1)), (0, .int 0, .index 1), (1, .int 9, .arg 310), (0, .int 13, .index 323)], [(.lt, .arg 1, .int 0, true)], [(323, .int 1)]),
  (some (.int (Int32.ofInt (-1000001))), [(323, .int 1, .add (.arg 400) (.int 1)), (0, .int 0, .index 1), (1, .int 9, .arg 310), (0, .int 13, .index 323)], [(.lt, .arg 1, .arg 310, false), (.lt, .arg 1, .int 0, false)], [(323, .int 1)]),
  (some (.int (Int32.ofInt (-1000001))), [(323, .int 1, .add (.arg 400) (.int 1)), (0, .int 0, .index 1), (1, .int 9, .arg 310), (0, .int 13, .index 323)], [(.lt, .arg 2, .int 0, true), (.lt, .arg 1, .arg 310, true), (.lt, .arg 1, .int 0, false)], [(323, .int 1)]),
  (some (.int (Int32.ofInt (-1000001))), [(323, .int 1, .add (.arg 400) (.int 1)), (0, .int 0, .index 1), (1, .int 9, .arg 310), (0, .int 13, .index 323)], [(.le, .arg 2, .int 2, false), (.lt, .arg 2, .int 0, false), (.lt, .arg 1, .arg 310, true), (.lt, .arg 1, .int 0, false)], [(323, .int 1)]),
  (some (.int (Int32.ofInt (-1000001))), [(323, .int 1, .add (.arg 400) (.int 1)), (0, .int 0, .index 1), (1, .int 9, .arg 310), (0, .int 13, .index 323)], [(.lt, .arg 3, .int 0, true), (.le, .arg 2, .int 2, true), (.lt, .arg 2, .int 0, false), (.lt, .arg 1, .arg 310, true), (.lt, .arg 1, .int 0, false)], [(323, .int 1)]),
  (some (.int (Int32.ofInt (-1000001))), [(323, .int 1, .add (.arg 400) (.int 1)), (0, .int 0, .index 1), (1, .int 9, .arg 310), (0, .int 13, .index 323)], [(.le, .arg 3, .int 1, false), (.lt, .arg 3, .int 0, false), (.le, .arg 2, .int 2, true), (.lt, .arg 2, .int 0, false), (.lt, .arg 1, .arg 310, true), (.lt, .arg 1, .int 0, false)], [(323, .int 1)])]
theorem xplE_w : ywa xplE_A xplE_ss xplE_rs = true := by decide +kernel
theorem xplE_k : yis (yev xplE_A 3000 60 95 [32] (0, [(0, .index 0), (1, .arg 1), (2, .arg 2), (3, .arg 3)], [], xplE_O, xplE_C, [])) xplE_ss xplE_rs = true := by decide +kernel
def xplE_r (v1_ v2 v3 v310 v400 : Int32) (k_ : Nat) : Value := bif Nat.beq k_ 1 then .int v1_ else (bif Nat.beq k_ 2 then .int v2 else (bif Nat.beq k_ 3 then .int v3 else (bif Nat.beq k_ 310 then .int v310 else (bif Nat.beq k_ 400 then .int v400 else (.int 0)))))
def xplE_s (n_ : Nat) : Nat := 0
theorem xplE {h_ : xH} {v1_ v2 v3 v310 v400 : Int32} (hs : sHp h_) (o0_ : bpat h_ 1 9 = some (.int v310)) (o1 : bpat h_ 323 1 = some (.int v400)) : ∃ h', ysm h_ h' ∧ (((v3.toInt ≤ (1 : Int32).toInt) ∧ ((0 : Int32).toInt ≤ v3.toInt) ∧ (v2.toInt ≤ (2 : Int32).toInt) ∧ ((0 : Int32).toInt ≤ v2.toInt) ∧ (v1_.toInt < v310.toInt) ∧ ((0 : Int32).toInt ≤ v1_.toInt) ∧ (∀ a_ j_ : Nat, bpat h' a_ j_ = bpat h_ a_ j_) ∧ (bldD 60 95 0 [(0, .index 0), (1, .int v1_), (2, .int v2), (3, .int v3)] [] h_ 32 [(0, .index 0), (1, .int v1_), (2, .int v2), (3, .int v3)] [] h'))
  ∨ ((v1_.toInt < (0 : Int32).toInt) ∧ (bpat h' 323 1 = some (.int (v400 + (1 : Int32)))) ∧ (∀ a_ j_ : Nat, ¬ (a_ = 323 ∧ j_ = 1) → bpat h' a_ j_ = bpat h_ a_ j_) ∧ (∀ D_, 60 ≤ D_ → xrun D_ 95 0 [(0, .index 0), (1, .int v1_), (2, .int v2), (3, .int v3)] [] h_ (some (.int (Int32.ofInt (-1000001))), h', [])))
  ∨ ((v310.toInt ≤ v1_.toInt) ∧ ((0 : Int32).toInt ≤ v1_.toInt) ∧ (bpat h' 323 1 = some (.int (v400 + (1 : Int32)))) ∧ (∀ a_ j_ : Nat, ¬ (a_ = 323 ∧ j_ = 1) → bpat h' a_ j_ = bpat h_ a_ j_) ∧ (∀ D_, 60 ≤ D_ → xrun D_ 95 0 [(0, .index 0), (1, .int v1_), (2, .int v2), (3, .int v3)] [] h_ (some (.int (Int32.ofInt (-1000001))), h', [])))
  ∨ ((v2.toInt < (0 : Int32).toInt) ∧ (v1_.toInt < v310.toInt) ∧ ((0 : Int32).toInt ≤ v1_.toInt) ∧ (bpat h' 323 1 = some (.int (v400 + (1 : Int32)))) ∧ (∀ a_ j_ : Nat, ¬ (a_ = 323 ∧ j_ = 1) → bpat h' a_ j_ = bpat h_ a_ j_) ∧ (∀ D_, 60 ≤ D_ → xrun D_ 95 0 [(0, .index 0), (1, .int v1_), (2, .int v2), (3, .int v3)] [] h_ (some (.int (Int32.ofInt (-1000001))), h', [])))
  ∨ (((2 : Int32).toInt < v2.toInt) ∧ ((0 : Int32).toInt ≤ v2.toInt) ∧ (v1_.toInt < v310.toInt) ∧ ((0 : Int32).toInt ≤ v1_.toInt) ∧ (bpat h' 323 1 = some (.int (v400 + (1 : Int32)))) ∧ (∀ a_ j_ : Nat, ¬ (a_ = 323 ∧ j_ = 1) → bpat h' a_ j_ = bpat h_ a_ j_) ∧ (∀ D_, 60 ≤ D_ → xrun D_ 95 0 [(0, .index 0), (1, .int v1_), (2, .int v2), (3, .int v3)] [] h_ (some (.int (Int32.ofInt (-1000001))), h', [])))
  ∨ ((v3.toInt < (0 : Int32).toInt) ∧ (v2.toInt ≤ (2 : Int32).toInt) ∧ ((0 : Int32).toInt ≤ v2.toInt) ∧ (v1_.toInt < v310.toInt) ∧ ((0 : Int32).toInt ≤ v1_.toInt) ∧ (bpat h' 323 1 = some (.int (v400 + (1 : Int32)))) ∧ (∀ a_ j_ : Nat, ¬ (a_ = 323 ∧ j_ = 1) → bpat h' a_ j_ = bpat h_ a_ j_) ∧ (∀ D_, 60 ≤ D_ → xrun D_ 95 0 [(0, .index 0), (1, .int v1_), (2, .int v2), (3, .int v3)] [] h_ (some (.int (Int32.ofInt (-1000001))), h', [])))
  ∨ (((1 : Int32).toInt < v3.toInt) ∧ ((0 : Int32).toInt ≤ v3.toInt) ∧ (v2.toInt ≤ (2 : Int32).toInt) ∧ ((0 : Int32).toInt ≤ v2.toInt) ∧ (v1_.toInt < v310.toInt) ∧ ((0 : Int32).toInt ≤ v1_.toInt) ∧ (bpat h' 323 1 = some (.int (v400 + (1 : Int32)))) ∧ (∀ a_ j_ : Nat, ¬ (a_ = 323 ∧ j_ = 1) → bpat h' a_ j_ = bpat h_ a_ j_) ∧ (∀ D_, 60 ≤ D_ → xrun D_ 95 0 [(0, .index 0), (1, .int v1_), (2, .int v2), (3, .int v3)] [] h_ (some (.int (Int32.ofInt (-1000001))), h', [])))) := by
  have hA : yas xplE_A (xplE_r v1_ v2 v3 v310 v400) (yg xplE_s) := ⟨fun q_ hq => absurd hq List.not_mem_nil, fun q_ hq => absurd hq List.not_mem_nil, fun q_ hq => absurd hq List.not_mem_nil, fun n_ hn => yg_lo hn, fun q_ hq => absurd hq List.not_mem_nil⟩
  have Hs : ysh xplE_A.1 (yg xplE_s) h_ := ysh_of2 hs (fun q_ hq => absurd hq List.not_mem_nil)
  have Ho : ymem (xplE_r v1_ v2 v3 v310 v400) (yg xplE_s) xplE_O h_ := List.forall_mem_cons.mpr ⟨bpat_some (fxr_at hs.2 (show fxk fxl 0 0 = some 1 by decide +kernel)), List.forall_mem_cons.mpr ⟨bpat_some o0_, List.forall_mem_cons.mpr ⟨bpat_some (fxr_at hs.2 (show fxk fxl 0 13 = some 323 by decide +kernel)), List.forall_mem_cons.mpr ⟨bpat_some o1, fun q_ hq => absurd hq List.not_mem_nil⟩⟩⟩⟩
  have HC : ∀ q_ ∈ xplE_C, xhold (xplE_r v1_ v2 v3 v310 v400) q_ := fun q_ hq => absurd hq List.not_mem_nil
  rcases yrun (yis_ok xplE_k) hA Hs Ho HC with ⟨q_, hq, h', K_, G_⟩ | ⟨q_, hq, h', K_, G_⟩
  · have e_ := List.mem_singleton.mp hq
    subst e_
    exact ⟨h', yfr_sm K_.2.2.2 hs K_.1 (ywa_s xplE_w List.mem_cons_self), Or.inl (⟨xq_leT rfl rfl (K_.2.2.1 _ List.mem_cons_self), xq_ltF rfl rfl (K_.2.2.1 _ (List.mem_cons_of_mem _ List.mem_cons_self)), xq_leT rfl rfl (K_.2.2.1 _ (List.mem_cons_of_mem _ (List.mem_cons_of_mem _ List.mem_cons_self))), xq_ltF rfl rfl (K_.2.2.1 _ (List.mem_cons_of_mem _ (List.mem_cons_of_mem _ (List.mem_cons_of_mem _ List.mem_cons_self)))), xq_ltT rfl rfl (K_.2.2.1 _ (List.mem_cons_of_mem _ (List.mem_cons_of_mem _ (List.mem_cons_of_mem _ (List.mem_cons_of_mem _ List.mem_cons_self))))), xq_ltF rfl rfl (K_.2.2.1 _ (List.mem_cons_of_mem _ (List.mem_cons_of_mem _ (List.mem_cons_of_mem _ (List.mem_cons_of_mem _ (List.mem_cons_of_mem _ List.mem_cons_self)))))), fun a_ j_ => yfr_bp K_.2.2.2 (fun q_ hq => absurd hq List.not_mem_nil), G_⟩)⟩
  · rcases List.mem_cons.mp hq with e_ | hq
    · subst e_
      exact ⟨h', yfr_sm K_.2.2.2 hs K_.1 (ywa_r xplE_w List.mem_cons_self), Or.inr (Or.inl (⟨xq_ltT rfl rfl (K_.2.2.1 _ List.mem_cons_self), bpat_of (K_.2.1 _ List.mem_cons_self), fun a_ j_ n0_ => yfr_bp K_.2.2.2 (List.forall_mem_cons.mpr ⟨fun e_ => n0_ ⟨e_.1.symm, e_.2.symm⟩, fun q_ hq => absurd hq List.not_mem_nil⟩), G_⟩))⟩
    rcases List.mem_cons.mp hq with e_ | hq
    · subst e_
      exact ⟨h', yfr_sm K_.2.2.2 hs K_.1 (ywa_r xplE_w (List.mem_cons_of_mem _ List.mem_cons_self)), Or.inr (Or.inr (Or.inl (⟨xq_ltF rfl rfl (K_.2.2.1 _ List.mem_cons_self), xq_ltF rfl rfl (K_.2.2.1 _ (List.mem_cons_of_mem _ List.mem_cons_self)), bpat_of (K_.2.1 _ List.mem_cons_self), fun a_ j_ n0_ => yfr_bp K_.2.2.2 (List.forall_mem_cons.mpr ⟨fun e_ => n0_ ⟨e_.1.symm, e_.2.symm⟩, fun q_ hq => absurd hq List.not_mem_nil⟩), G_⟩)))⟩
    rcases List.mem_cons.mp hq with e_ | hq
    · subst e_
      exact ⟨h', yfr_sm K_.2.2.2 hs K_.1 (ywa_r xplE_w (List.mem_cons_of_mem _ (List.mem_cons_of_mem _ List.mem_cons_self))), Or.inr (Or.inr (Or.inr (Or.inl (⟨xq_ltT rfl rfl (K_.2.2.1 _ List.mem_cons_self), xq_ltT rfl rfl (K_.2.2.1 _ (List.mem_cons_of_mem _ List.mem_cons_self)), xq_ltF rfl rfl (K_.2.2.1 _ (List.mem_cons_of_mem _ (List.mem_cons_of_mem _ List.mem_cons_self))), bpat_of (K_.2.1 _ List.mem_cons_self), fun a_ j_ n0_ => yfr_bp K_.2.2.2 (List.forall_mem_cons.mpr ⟨fun e_ => n0_ ⟨e_.1.symm, e_.2.symm⟩, fun q_ hq => absurd hq List.not_mem_nil⟩), G_⟩))))⟩
    rcases List.mem_cons.mp hq with e_ | hq
    · subst e_
      exact ⟨h', yfr_sm K_.2.2.2 hs K_.1 (ywa_r xplE_w (List.mem_cons_of_mem _ (List.mem_cons_of_mem _ (List.mem_cons_of_mem _ List.mem_cons_self)))), Or.inr (Or.inr (Or.inr (Or.inr (Or.inl (⟨xq_leF rfl rfl (K_.2.2.1 _ List.mem_cons_self), xq_ltF rfl rfl (K_.2.2.1 _ (List.mem_cons_of_mem _ List.mem_cons_self)), xq_ltT rfl rfl (K_.2.2.1 _ (List.mem_cons_of_mem _ (List.mem_cons_of_mem _ List.mem_cons_self))), xq_ltF rfl rfl (K_.2.2.1 _ (List.mem_cons_of_mem _ (List.mem_cons_of_mem _ (List.mem_cons_of_mem _ List.mem_cons_self)))), bpat_of (K_.2.1 _ List.mem_cons_self), fun a_ j_ n0_ => yfr_bp K_.2.2.2 (List.forall_mem_cons.mpr ⟨fun e_ => n0_ ⟨e_.1.symm, e_.2.symm⟩, fun q_ hq => absurd hq List.not_mem_nil⟩), G_⟩)))))⟩
    rcases List.mem_cons.mp hq with e_ | hq
    · subst e_
      exact ⟨h', yfr_sm K_.2.2.2 hs K_.1 (ywa_r xplE_w (List.mem_cons_of_mem _ (List.mem_cons_of_mem _ (List.mem_cons_of_mem _ (List.mem_cons_of_mem _ List.mem_cons_self))))), Or.inr (Or.inr (Or.inr (Or.inr (Or.inr (Or.inl (⟨xq_ltT rfl rfl (K_.2.2.1 _ List.mem_cons_self), xq_leT rfl rfl (K_.2.2.1 _ (List.mem_cons_of_mem _ List.mem_cons_self)), xq_ltF rfl rfl (K_.2.2.1 _ (List.mem_cons_of_mem _ (List.mem_cons_of_mem _ List.mem_cons_self))), xq_ltT rfl rfl (K_.2.2.1 _ (List.mem_cons_of_mem _ (List.mem_cons_of_mem _ (List.mem_cons_of_mem _ List.mem_cons_self)))), xq_ltF rfl rfl (K_.2.2.1 _ (List.mem_cons_of_mem _ (List.mem_cons_of_mem _ (List.mem_cons_of_mem _ (List.mem_cons_of_mem _ List.mem_cons_self))))), bpat_of (K_.2.1 _ List.mem_cons_self), fun a_ j_ n0_ => yfr_bp K_.2.2.2 (List.forall_mem_cons.mpr ⟨fun e_ => n0_ ⟨e_.1.symm, e_.2.symm⟩, fun q_ hq => absurd hq List.not_mem_nil⟩), G_⟩))))))⟩
    have e_ := List.mem_singleton.mp hq
    subst e_
    exact ⟨h', yfr_sm K_.2.2.2 hs K_.1 (ywa_r xplE_w (List.mem_cons_of_mem _ (List.mem_cons_of_mem _ (List.mem_cons_of_mem _ (List.mem_cons_of_mem _ (List.mem_cons_of_mem _ List.mem_cons_self)))))), Or.inr (Or.inr (Or.inr (Or.inr (Or.inr (Or.inr (⟨xq_leF rfl rfl (K_.2.2.1 _ List.mem_cons_self), xq_ltF rfl rfl (K_.2.2.1 _ (List.mem_cons_of_mem _ List.mem_cons_self)), xq_leT rfl rfl (K_.2.2.1 _ (List.mem_cons_of_mem _ (List.mem_cons_of_mem _ List.mem_cons_self))), xq_ltF rfl rfl (K_.2.2.1 _ (List.mem_cons_of_mem _ (List.mem_cons_of_mem _ (List.mem_cons_of_mem _ List.mem_cons_self)))), xq_ltT rfl rfl (K_.2.2.1 _ (List.mem_cons_of_mem _ (List.mem_cons_of_mem _ (List.mem_cons_of_mem _ (List.mem_cons_of_mem _ List.mem_cons_self))))), xq_ltF rfl rfl (K_.2.2.1 _ (List.mem_cons_of_mem _ (List.mem_cons_of_mem _ (List.mem_cons_of_mem _ (List.mem_cons_of_mem _ (List.mem_cons_of_mem _ List.mem_cons_self)))))), bpat_of (K_.2.1 _ List.mem_cons_self), fun a_ j_ n0_ => yfr_bp K_.2.2.2 (List.forall_mem_cons.mpr ⟨fun e_ => n0_ ⟨e_.1.symm, e_.2.symm⟩, fun q_ hq => absurd hq List.not_mem_nil⟩), G_⟩))))))⟩
-- xplG: 10 steps, 1 ends, 0 returns
def xplG_L : List (Nat × Nat × Nat) := [(1000, 6, 2)]
def xplG_O : yO := [(0, .int 4, .index 155), (0, .int 0, .index 1), (1, .int 0, .index 2), (2, .arg 1, .index 1000)]
def xplG_A : yA := (yZ xplG_L, [(.arg 1, 12)], [], [], [])
def xplG_C : List xB := []
def xplG_ss : List yS := [(50, [(0, .index 0), (1, .arg 1), (2, .arg 2), (3, .arg 3)], [.arg 2, .index 1000, .index 1, .index 155], [(0, .int 4, .index 155), (0, .int 0, .index 1), (1, .int 0, .index 2), (2, .arg 1, .index 1000)], [], [])]
def xplG_rs : List yR := []
theorem xplG_w : ywa xplG_A xplG_ss xplG_rs = true := by decide +kernel
theorem xplG_k : yis (yev xplG_A 3000 60 95 [50] (32, [(0, .index 0), (1, .arg 1), (2, .arg 2), (3, .arg 3)], [], xplG_O, xplG_C, [])) xplG_ss xplG_rs = true := by decide +kernel
def xplG_r (v1_ v2 v3 : Int32) (k_ : Nat) : Value := bif Nat.beq k_ 1 then .int v1_ else (bif Nat.beq k_ 2 then .int v2 else (bif Nat.beq k_ 3 then .int v3 else (.int 0)))
def xplG_s (a1000 : Nat) (n_ : Nat) : Nat := bif Nat.beq n_ 1000 then a1000 else (0)
theorem xplG {h_ : xH} {a1000 : Nat} {v1_ v2 v3 : Int32} (hs : sHp h_) (k1000 : bcq h_ a1000 6 2) (o0_ : bpat h_ 2 (v1_).toInt.toNat = some (.index a1000)) (b0 : 0 ≤ (v1_).toInt ∧ (v1_).toInt < 12) : ∃ h', ysm h_ h' ∧ (((∀ a_ j_ : Nat, bpat h' a_ j_ = bpat h_ a_ j_) ∧ (bldD 60 95 32 [(0, .index 0), (1, .int v1_), (2, .int v2), (3, .int v3)] [] h_ 50 [(0, .index 0), (1, .int v1_), (2, .int v2), (3, .int v3)] [.int v2, .index a1000, .index 1, .index 155] h'))) := by
  have hA : yas xplG_A (xplG_r v1_ v2 v3) (yg (xplG_s a1000)) := ⟨List.forall_mem_cons.mpr ⟨b0, fun q_ hq => absurd hq List.not_mem_nil⟩, fun q_ hq => absurd hq List.not_mem_nil, fun q_ hq => absurd hq List.not_mem_nil, fun n_ hn => yg_lo hn, fun q_ hq => absurd hq List.not_mem_nil⟩
  have Hs : ysh xplG_A.1 (yg (xplG_s a1000)) h_ := ysh_of2 hs (List.forall_mem_cons.mpr ⟨⟨by decide, k1000⟩, fun q_ hq => absurd hq List.not_mem_nil⟩)
  have Ho : ymem (xplG_r v1_ v2 v3) (yg (xplG_s a1000)) xplG_O h_ := List.forall_mem_cons.mpr ⟨bpat_some (fxr_at hs.2 (show fxk fxl 0 4 = some 155 by decide +kernel)), List.forall_mem_cons.mpr ⟨bpat_some (fxr_at hs.2 (show fxk fxl 0 0 = some 1 by decide +kernel)), List.forall_mem_cons.mpr ⟨bpat_some (fxr_at hs.2 (show fxk fxl 1 0 = some 2 by decide +kernel)), List.forall_mem_cons.mpr ⟨bpat_some o0_, fun q_ hq => absurd hq List.not_mem_nil⟩⟩⟩⟩
  have HC : ∀ q_ ∈ xplG_C, xhold (xplG_r v1_ v2 v3) q_ := fun q_ hq => absurd hq List.not_mem_nil
  rcases yrun (yis_ok xplG_k) hA Hs Ho HC with ⟨q_, hq, h', K_, G_⟩ | ⟨q_, hq, h', K_, G_⟩
  · have e_ := List.mem_singleton.mp hq
    subst e_
    exact ⟨h', yfr_sm K_.2.2.2 hs K_.1 (ywa_s xplG_w List.mem_cons_self), ⟨fun a_ j_ => yfr_bp K_.2.2.2 (fun q_ hq => absurd hq List.not_mem_nil), G_⟩⟩
  · cases hq
-- xplH: 2 steps, 1 ends, 0 returns
def xplH_L : List (Nat × Nat × Nat) := []
def xplH_O : yO := [(0, .int 4, .index 155)]
def xplH_A : yA := (yZ xplH_L, [], [], [], [])
def xplH_C : List xB := []
def xplH_ss : List yS := [(57, [(0, .index 0), (1, .arg 1), (2, .arg 2), (3, .arg 3)], [.index 155], [(0, .int 4, .index 155)], [], [])]
def xplH_rs : List yR := []
theorem xplH_w : ywa xplH_A xplH_ss xplH_rs = true := by decide +kernel
theorem xplH_k : yis (yev xplH_A 3000 60 95 [57] (53, [(0, .index 0), (1, .arg 1), (2, .arg 2), (3, .arg 3)], [], xplH_O, xplH_C, [])) xplH_ss xplH_rs = true := by decide +kernel
def xplH_r (v1_ v2 v3 : Int32) (k_ : Nat) : Value := bif Nat.beq k_ 1 then .int v1_ else (bif Nat.beq k_ 2 then .int v2 else (bif Nat.beq k_ 3 then .int v3 else (.int 0)))
def xplH_s (n_ : Nat) : Nat := 0
theorem xplH {h_ : xH} {v1_ v2 v3 : Int32} (hs : sHp h_) : ∃ h', ysm h_ h' ∧ (((∀ a_ j_ : Nat, bpat h' a_ j_ = bpat h_ a_ j_) ∧ (bldD 60 95 53 [(0, .index 0), (1, .int v1_), (2, .int v2), (3, .int v3)] [] h_ 57 [(0, .index 0), (1, .int v1_), (2, .int v2), (3, .int v3)] [.index 155] h'))) := by
  have hA : yas xplH_A (xplH_r v1_ v2 v3) (yg xplH_s) := ⟨fun q_ hq => absurd hq List.not_mem_nil, fun q_ hq => absurd hq List.not_mem_nil, fun q_ hq => absurd hq List.not_mem_nil, fun n_ hn => yg_lo hn, fun q_ hq => absurd hq List.not_mem_nil⟩
  have Hs : ysh xplH_A.1 (yg xplH_s) h_ := ysh_of2 hs (fun q_ hq => absurd hq List.not_mem_nil)
  have Ho : ymem (xplH_r v1_ v2 v3) (yg xplH_s) xplH_O h_ := List.forall_mem_cons.mpr ⟨bpat_some (fxr_at hs.2 (show fxk fxl 0 4 = some 155 by decide +kernel)), fun q_ hq => absurd hq List.not_mem_nil⟩
  have HC : ∀ q_ ∈ xplH_C, xhold (xplH_r v1_ v2 v3) q_ := fun q_ hq => absurd hq List.not_mem_nil
  rcases yrun (yis_ok xplH_k) hA Hs Ho HC with ⟨q_, hq, h', K_, G_⟩ | ⟨q_, hq, h', K_, G_⟩
  · have e_ := List.mem_singleton.mp hq
    subst e_
    exact ⟨h', yfr_sm K_.2.2.2 hs K_.1 (ywa_s xplH_w List.mem_cons_self), ⟨fun a_ j_ => yfr_bp K_.2.2.2 (fun q_ hq => absurd hq List.not_mem_nil), G_⟩⟩
  · cases hq
-- xplR0: 6 steps, 0 ends, 1 returns
def xplR0_L : List (Nat × Nat × Nat) := []
def xplR0_O : yO := []
def xplR0_A : yA := (yZ xplR0_L, [], [], [], [])
def xplR0_C : List xB := []
def xplR0_ss : List yS := []
def xplR0_rs : List yR := [(some (.arg 8), [], [], [])]
theorem xplR0_w : ywa xplR0_A xplR0_ss xplR0_rs = true := by decide +kernel
theorem xplR0_k : yis (yev xplR0_A 3000 60 95 [] (60, [(0, .index 0), (1, .arg 1), (2, .arg 2), (3, .int 0)], [.arg 8], xplR0_O, xplR0_C, [])) xplR0_ss xplR0_rs = true := by decide +kernel
def xplR0_r (v1_ v2 v8 : Int32) (k_ : Nat) : Value := bif Nat.beq k_ 1 then .int v1_ else (bif Nat.beq k_ 2 then .int v2 else (bif Nat.beq k_ 8 then .int v8 else (.int 0)))
def xplR0_s (n_ : Nat) : Nat := 0
theorem xplR0 {h_ : xH} {v1_ v2 v8 : Int32} (hs : sHp h_) : ∃ h', ysm h_ h' ∧ (((∀ a_ j_ : Nat, bpat h' a_ j_ = bpat h_ a_ j_) ∧ (∀ D_, 60 ≤ D_ → xrun D_ 95 60 [(0, .index 0), (1, .int v1_), (2, .int v2), (3, .int (0 : Int32))] [.int v8] h_ (some (.int v8), h', [])))) := by
  have hA : yas xplR0_A (xplR0_r v1_ v2 v8) (yg xplR0_s) := ⟨fun q_ hq => absurd hq List.not_mem_nil, fun q_ hq => absurd hq List.not_mem_nil, fun q_ hq => absurd hq List.not_mem_nil, fun n_ hn => yg_lo hn, fun q_ hq => absurd hq List.not_mem_nil⟩
  have Hs : ysh xplR0_A.1 (yg xplR0_s) h_ := ysh_of2 hs (fun q_ hq => absurd hq List.not_mem_nil)
  have Ho : ymem (xplR0_r v1_ v2 v8) (yg xplR0_s) xplR0_O h_ := fun q_ hq => absurd hq List.not_mem_nil
  have HC : ∀ q_ ∈ xplR0_C, xhold (xplR0_r v1_ v2 v8) q_ := fun q_ hq => absurd hq List.not_mem_nil
  rcases yrun (yis_ok xplR0_k) hA Hs Ho HC with ⟨q_, hq, h', K_, G_⟩ | ⟨q_, hq, h', K_, G_⟩
  · cases hq
  · have e_ := List.mem_singleton.mp hq
    subst e_
    exact ⟨h', yfr_sm K_.2.2.2 hs K_.1 (ywa_r xplR0_w List.mem_cons_self), ⟨fun a_ j_ => yfr_bp K_.2.2.2 (fun q_ hq => absurd hq List.not_mem_nil), G_⟩⟩
-- xplK: 6 steps, 1 ends, 0 returns
def xplK_L : List (Nat × Nat × Nat) := []
def xplK_O : yO := [(0, .int 4, .index 155)]
def xplK_A : yA := (yZ xplK_L, [], [], [], [])
def xplK_C : List xB := []
def xplK_ss : List yS := [(77, [(4, .arg 8), (0, .index 0), (1, .arg 1), (2, .arg 2), (3, .int 1)], [.arg 8, .index 155], [(0, .int 4, .index 155)], [], [])]
def xplK_rs : List yR := []
theorem xplK_w : ywa xplK_A xplK_ss xplK_rs = true := by decide +kernel
theorem xplK_k : yis (yev xplK_A 3000 60 95 [77] (60, [(0, .index 0), (1, .arg 1), (2, .arg 2), (3, .int 1)], [.arg 8], xplK_O, xplK_C, [])) xplK_ss xplK_rs = true := by decide +kernel
def xplK_r (v1_ v2 v8 : Int32) (k_ : Nat) : Value := bif Nat.beq k_ 1 then .int v1_ else (bif Nat.beq k_ 2 then .int v2 else (bif Nat.beq k_ 8 then .int v8 else (.int 0)))
def xplK_s (n_ : Nat) : Nat := 0
theorem xplK {h_ : xH} {v1_ v2 v8 : Int32} (hs : sHp h_) : ∃ h', ysm h_ h' ∧ (((∀ a_ j_ : Nat, bpat h' a_ j_ = bpat h_ a_ j_) ∧ (bldD 60 95 60 [(0, .index 0), (1, .int v1_), (2, .int v2), (3, .int (1 : Int32))] [.int v8] h_ 77 [(4, .int v8), (0, .index 0), (1, .int v1_), (2, .int v2), (3, .int (1 : Int32))] [.int v8, .index 155] h'))) := by
  have hA : yas xplK_A (xplK_r v1_ v2 v8) (yg xplK_s) := ⟨fun q_ hq => absurd hq List.not_mem_nil, fun q_ hq => absurd hq List.not_mem_nil, fun q_ hq => absurd hq List.not_mem_nil, fun n_ hn => yg_lo hn, fun q_ hq => absurd hq List.not_mem_nil⟩
  have Hs : ysh xplK_A.1 (yg xplK_s) h_ := ysh_of2 hs (fun q_ hq => absurd hq List.not_mem_nil)
  have Ho : ymem (xplK_r v1_ v2 v8) (yg xplK_s) xplK_O h_ := List.forall_mem_cons.mpr ⟨bpat_some (fxr_at hs.2 (show fxk fxl 0 4 = some 155 by decide +kernel)), fun q_ hq => absurd hq List.not_mem_nil⟩
  have HC : ∀ q_ ∈ xplK_C, xhold (xplK_r v1_ v2 v8) q_ := fun q_ hq => absurd hq List.not_mem_nil
  rcases yrun (yis_ok xplK_k) hA Hs Ho HC with ⟨q_, hq, h', K_, G_⟩ | ⟨q_, hq, h', K_, G_⟩
  · have e_ := List.mem_singleton.mp hq
    subst e_
    exact ⟨h', yfr_sm K_.2.2.2 hs K_.1 (ywa_s xplK_w List.mem_cons_self), ⟨fun a_ j_ => yfr_bp K_.2.2.2 (fun q_ hq => absurd hq List.not_mem_nil), G_⟩⟩
  · cases hq
-- xplR1: 1 steps, 0 ends, 1 returns
def xplR1_L : List (Nat × Nat × Nat) := []
def xplR1_O : yO := []
def xplR1_A : yA := (yZ xplR1_L, [], [], [], [])
def xplR1_C : List xB := []
def xplR1_ss : List yS := []
def xplR1_rs : List yR := [(some (.arg 8), [], [], [])]
theorem xplR1_w : ywa xplR1_A xplR1_ss xplR1_rs = true := by decide +kernel
theorem xplR1_k : yis (yev xplR1_A 3000 60 95 [] (80, [(4, .arg 4), (0, .index 0), (1, .arg 1), (2, .arg 2), (3, .int 1)], [.arg 8], xplR1_O, xplR1_C, [])) xplR1_ss xplR1_rs = true := by decide +kernel
def xplR1_r (v1_ v2 v4_ v8 : Int32) (k_ : Nat) : Value := bif Nat.beq k_ 1 then .int v1_ else (bif Nat.beq k_ 2 then .int v2 else (bif Nat.beq k_ 4 then .int v4_ else (bif Nat.beq k_ 8 then .int v8 else (.int 0))))
def xplR1_s (n_ : Nat) : Nat := 0
theorem xplR1 {h_ : xH} {v1_ v2 v4_ v8 : Int32} (hs : sHp h_) : ∃ h', ysm h_ h' ∧ (((∀ a_ j_ : Nat, bpat h' a_ j_ = bpat h_ a_ j_) ∧ (∀ D_, 60 ≤ D_ → xrun D_ 95 80 [(4, .int v4_), (0, .index 0), (1, .int v1_), (2, .int v2), (3, .int (1 : Int32))] [.int v8] h_ (some (.int v8), h', [])))) := by
  have hA : yas xplR1_A (xplR1_r v1_ v2 v4_ v8) (yg xplR1_s) := ⟨fun q_ hq => absurd hq List.not_mem_nil, fun q_ hq => absurd hq List.not_mem_nil, fun q_ hq => absurd hq List.not_mem_nil, fun n_ hn => yg_lo hn, fun q_ hq => absurd hq List.not_mem_nil⟩
  have Hs : ysh xplR1_A.1 (yg xplR1_s) h_ := ysh_of2 hs (fun q_ hq => absurd hq List.not_mem_nil)
  have Ho : ymem (xplR1_r v1_ v2 v4_ v8) (yg xplR1_s) xplR1_O h_ := fun q_ hq => absurd hq List.not_mem_nil
  have HC : ∀ q_ ∈ xplR1_C, xhold (xplR1_r v1_ v2 v4_ v8) q_ := fun q_ hq => absurd hq List.not_mem_nil
  rcases yrun (yis_ok xplR1_k) hA Hs Ho HC with ⟨q_, hq, h', K_, G_⟩ | ⟨q_, hq, h', K_, G_⟩
  · cases hq
  · have e_ := List.mem_singleton.mp hq
    subst e_
    exact ⟨h', yfr_sm K_.2.2.2 hs K_.1 (ywa_r xplR1_w List.mem_cons_self), ⟨fun a_ j_ => yfr_bp K_.2.2.2 (fun q_ hq => absurd hq List.not_mem_nil), G_⟩⟩
/-- has a row of these this SOUND in this place -/
def hasF (L_ : List (List Int32)) (p_ v_ : Nat) : Bool := L_.any (fun r_ => decide (r_[p_]? = some (Int32.ofNat v_)))
/-- how many unlike SOUNDS in a place -/
def unF (L_ : List (List Int32)) (p_ : Nat) : Nat := cfF (hasF L_ p_) 100
theorem has_i {L_ : List (List Int32)} {p_ v_ : Nat} : hasF L_ p_ v_ = true ↔ ∃ r_, r_ ∈ L_ ∧ r_[p_]? = some (Int32.ofNat v_) := by
  unfold hasF
  rw [List.any_eq_true]
  exact ⟨fun ⟨r_, a_, b_⟩ => ⟨r_, a_, of_decide_eq_true b_⟩, fun ⟨r_, a_, b_⟩ => ⟨r_, a_, decide_eq_true b_⟩⟩
theorem has_m {L_ L' : List (List Int32)} (h_ : ∀ y_, y_ ∈ L_ ↔ y_ ∈ L') : unF L_ = unF L' := by
  funext p_
  refine cf_g (fun v_ _ => Bool.eq_iff_iff.mpr ?_)
  rw [has_i, has_i]
  exact ⟨fun ⟨r_, a_, b_⟩ => ⟨r_, (h_ r_).mp a_, b_⟩, fun ⟨r_, a_, b_⟩ => ⟨r_, (h_ r_).mpr a_, b_⟩⟩
theorem has_t {L_ : List (List Int32)} {i_ p_ v_ : Nat} {r_ : List Int32} (h_ : L_[i_]? = some r_) : hasF (L_.take (i_ + 1)) p_ v_ = (hasF (L_.take i_) p_ v_ || decide (r_[p_]? = some (Int32.ofNat v_))) := by
  unfold hasF
  rw [List.take_add_one, h_, List.any_append]
  show (_ || (decide (r_[p_]? = some (Int32.ofNat v_)) || false)) = _
  rw [Bool.or_false]
theorem cf_le {f_ : Nat → Bool} : ∀ {n_ : Nat}, cfF f_ n_ ≤ n_ := by
  intro n_
  induction n_ with
  | zero => exact Nat.le_refl _
  | succ n_ ih_ =>
    show cfF f_ n_ + (if f_ n_ = true then 1 else 0) ≤ n_ + 1
    split <;> omega
theorem unF_le {L_ : List (List Int32)} {p_ : Nat} : unF L_ p_ ≤ 100 := cf_le
/-- which SOUNDS from q on, fifty of them, the first i rows have in a place, as bits -/
def iB (L_ : List (List Int32)) (i_ p_ q_ : Nat) (u_ : Int64) : Prop := ∀ k_, k_ < 64 → Nat.testBit (nq u_) k_ = (decide (k_ < 50) && hasF (L_.take i_) p_ (q_ + k_))
theorem shl1 {s_ : Nat} (h_ : s_ < 64) : nq ((1 : Int64) <<< ((Int32.ofNat s_).toInt64 &&& 63)) = 2 ^ s_ := by
  have k_ : (List.range 64).all (fun s_ => decide (nq ((1 : Int64) <<< ((Int32.ofNat s_).toInt64 &&& 63)) = 2 ^ s_)) = true := by decide +kernel
  exact of_decide_eq_true (List.all_eq_true.mp k_ s_ (List.mem_range.mpr h_))
theorem ofN_i {a_ b_ : Nat} (ha_ : a_ < 1000) (hb_ : b_ < 1000) : (some (Int32.ofNat a_) = some (Int32.ofNat b_)) ↔ a_ = b_ := by
  constructor
  · intro h_
    have q_ := congrArg Int32.toInt (Option.some.inj h_)
    rw [i32n (by omega), i32n (by omega)] at q_
    omega
  · intro h_
    rw [h_]
theorem iB_n {L_ : List (List Int32)} {i_ p_ q_ : Nat} {u_ : Int64} {r_ : List Int32} (hr : L_[i_]? = some r_) (h_ : iB L_ i_ p_ q_ u_) (nn : ∀ k_, k_ < 50 → ¬ r_[p_]? = some (Int32.ofNat (q_ + k_))) : iB L_ (i_ + 1) p_ q_ u_ := by
  intro k_ hk
  rw [h_ k_ hk, has_t hr]
  by_cases g_ : k_ < 50
  · rw [decide_eq_false (nn k_ g_), Bool.or_false]
  · rw [decide_eq_false g_, Bool.false_and, Bool.false_and]
theorem iB_y {L_ : List (List Int32)} {i_ p_ q_ s_ : Nat} {u_ : Int64} {r_ : List Int32} (hr : L_[i_]? = some r_) (h_ : iB L_ i_ p_ q_ u_) (hs : s_ < 50) (hq : q_ ≤ 50) (e_ : r_[p_]? = some (Int32.ofNat (q_ + s_))) : iB L_ (i_ + 1) p_ q_ (u_ ||| ((1 : Int64) <<< ((Int32.ofNat s_).toInt64 &&& 63))) := by
  intro k_ hk
  rw [nq_or, shl1 (by omega), Nat.testBit_or, Nat.testBit_two_pow, h_ k_ hk, has_t hr, e_]
  have d_ : decide (some (Int32.ofNat (q_ + s_)) = some (Int32.ofNat (q_ + k_))) = decide (s_ = k_) := decide_eq_decide.mpr ((ofN_i (by omega) (by omega)).trans ⟨fun z_ => by omega, fun z_ => by omega⟩)
  rw [d_]
  by_cases g_ : k_ < 50
  · rw [decide_eq_true g_, Bool.true_and, Bool.true_and]
  · rw [decide_eq_false g_, Bool.false_and, Bool.false_and, Bool.false_or]
    exact decide_eq_false (by omega)
theorem iB_0 {L_ : List (List Int32)} {p_ q_ : Nat} : iB L_ 0 p_ q_ 0 := by
  intro k_ hk
  rw [show nq 0 = 0 from rfl, Nat.zero_testBit]
  show false = (decide (k_ < 50) && false)
  rw [Bool.and_false]
/-- the two longs' bits together -/
theorem iB_c {L_ : List (List Int32)} {p_ : Nat} {lw hg : Int64} (h1 : iB L_ L_.length p_ 0 lw) (h2 : iB L_ L_.length p_ 50 hg) : pc64 lw + pc64 hg = Int32.ofNat (unF L_ p_) := by
  rw [pc_ok, pc_ok, i32p]
  refine congrArg Int32.ofNat ?_
  unfold iB at h1 h2
  rw [List.take_length] at h1 h2
  have e_ : ∀ (q_ : Nat) (u_ : Int64), (∀ k_, k_ < 64 → Nat.testBit (nq u_) k_ = (decide (k_ < 50) && hasF L_ p_ (q_ + k_))) → cfF (fun i_ => Nat.testBit (nq u_) i_) 64 = cfF (fun i_ => hasF L_ p_ (q_ + i_)) 50 := by
    intro q_ u_ h_
    rw [show 64 = 50 + 14 from rfl, cf_a, cf_0 (f_ := fun i_ => Nat.testBit (nq u_) (50 + i_)) (fun i_ hi_ => by rw [h_ (50 + i_) (by omega), decide_eq_false (by omega), Bool.false_and]), Nat.add_zero]
    exact cf_g (fun i_ hi_ => by rw [h_ i_ (by omega), decide_eq_true (by omega), Bool.true_and])
  rw [e_ 0 lw h1, e_ 50 hg h2]
  unfold unF
  rw [show 100 = 50 + 50 from rfl, cf_a]
  congr 1
/-- bitCount -/
theorem bcX {u_ : Int64} {h_ : xH} (S_ : sHp h_) : ∃ h', (ysm h_ h' ∧ ∀ c_ j_, bpat h' c_ j_ = bpat h_ c_ j_) ∧ ∀ D_, 60 ≤ D_ → xrun D_ 238 0 [(0, .long u_)] [] h_ (some (.int (pc64 u_)), h', []) := by
  obtain ⟨h1, m1_, f1_, ld1⟩ := xbc0 (w52 := u_) S_
  obtain ⟨h2, m2_, f2_, ld2⟩ := xbc1 (w52 := pq0 u_) m1_.1
  obtain ⟨h3, m3_, f3_, ld3⟩ := xbc2 (w52 := pq1 (pq0 u_)) m2_.1
  obtain ⟨h4, m4_, f4_, ld4⟩ := xbc3 (w52 := pq2 (pq1 (pq0 u_))) m3_.1
  obtain ⟨h5, m5_, f5_, ld5⟩ := xbc4 (w52 := pq3 (pq2 (pq1 (pq0 u_)))) m4_.1
  obtain ⟨h6, m6_, f6_, ld6⟩ := xbc5 (w52 := pq4 (pq3 (pq2 (pq1 (pq0 u_))))) m5_.1
  obtain ⟨h7, m7_, f7_, r7⟩ := xbc6 (w52 := pq5 (pq4 (pq3 (pq2 (pq1 (pq0 u_)))))) m6_.1
  exact ⟨h7, ⟨ysm_tr m1_ (ysm_tr m2_ (ysm_tr m3_ (ysm_tr m4_ (ysm_tr m5_ (ysm_tr m6_ m7_))))), fun c_ j_ => (f7_ c_ j_).trans ((f6_ c_ j_).trans ((f5_ c_ j_).trans ((f4_ c_ j_).trans ((f3_ c_ j_).trans ((f2_ c_ j_).trans (f1_ c_ j_))))))⟩, fun D_ hD => ld1 D_ hD _ (ld2 D_ hD _ (ld3 D_ hD _ (ld4 D_ hD _ (ld5 D_ hD _ (ld6 D_ hD _ (r7 D_ hD))))))⟩
def hdUl (p_ i_ : Nat) (lw hg : Int64) (lo_ : xL) : Prop := lo_ = [(6, .int (Int32.ofNat i_)), (4, .long hg), (2, .long lw), (0, .index 155), (1, .int (Int32.ofNat p_))] ∨ ((∃ y7 : Int32, lo_ = [(6, .int (Int32.ofNat i_)), (2, .long lw), (7, .int y7), (4, .long hg), (0, .index 155), (1, .int (Int32.ofNat p_))]) ∨ ∃ y7 : Int32, lo_ = [(6, .int (Int32.ofNat i_)), (4, .long hg), (7, .int y7), (2, .long lw), (0, .index 155), (1, .int (Int32.ofNat p_))])
section
variable {h_ : xH} {p_ i_ : Nat} {lw hg : Int64} {lo_ : xL}
theorem hU_cc {n_ : Nat} {t_ : Int32} (hn : 155 < n_) (H_ : hdUl p_ i_ lw hg lo_) : xcc n_ lo_ [] = true ∧ xcc n_ lo_ [.int t_] = true := by
  rcases H_ with rfl | ⟨y7, rfl⟩ | ⟨y7, rfl⟩
  · exact ⟨(xcc_l (List.forall_mem_cons.mpr ⟨rfl, List.forall_mem_cons.mpr ⟨rfl, List.forall_mem_cons.mpr ⟨rfl, List.forall_mem_cons.mpr ⟨xidx_i hn, List.forall_mem_cons.mpr ⟨rfl, fun q_ hq => absurd hq List.not_mem_nil⟩⟩⟩⟩⟩) (fun t_ ht => absurd ht List.not_mem_nil) (Nat.le_of_ble_eq_true rfl)), (xcc_l (List.forall_mem_cons.mpr ⟨rfl, List.forall_mem_cons.mpr ⟨rfl, List.forall_mem_cons.mpr ⟨rfl, List.forall_mem_cons.mpr ⟨xidx_i hn, List.forall_mem_cons.mpr ⟨rfl, fun q_ hq => absurd hq List.not_mem_nil⟩⟩⟩⟩⟩) (fun t_ ht => by rw [List.mem_singleton.mp ht]; exact ⟨rfl, rfl⟩) (Nat.le_of_ble_eq_true rfl))⟩
  · exact ⟨(xcc_l (List.forall_mem_cons.mpr ⟨rfl, List.forall_mem_cons.mpr ⟨rfl, List.forall_mem_cons.mpr ⟨rfl, List.forall_mem_cons.mpr ⟨rfl, List.forall_mem_cons.mpr ⟨xidx_i hn, List.forall_mem_cons.mpr ⟨rfl, fun q_ hq => absurd hq List.not_mem_nil⟩⟩⟩⟩⟩⟩) (fun t_ ht => absurd ht List.not_mem_nil) (Nat.le_of_ble_eq_true rfl)), (xcc_l (List.forall_mem_cons.mpr ⟨rfl, List.forall_mem_cons.mpr ⟨rfl, List.forall_mem_cons.mpr ⟨rfl, List.forall_mem_cons.mpr ⟨rfl, List.forall_mem_cons.mpr ⟨xidx_i hn, List.forall_mem_cons.mpr ⟨rfl, fun q_ hq => absurd hq List.not_mem_nil⟩⟩⟩⟩⟩⟩) (fun t_ ht => by rw [List.mem_singleton.mp ht]; exact ⟨rfl, rfl⟩) (Nat.le_of_ble_eq_true rfl))⟩
  · exact ⟨(xcc_l (List.forall_mem_cons.mpr ⟨rfl, List.forall_mem_cons.mpr ⟨rfl, List.forall_mem_cons.mpr ⟨rfl, List.forall_mem_cons.mpr ⟨rfl, List.forall_mem_cons.mpr ⟨xidx_i hn, List.forall_mem_cons.mpr ⟨rfl, fun q_ hq => absurd hq List.not_mem_nil⟩⟩⟩⟩⟩⟩) (fun t_ ht => absurd ht List.not_mem_nil) (Nat.le_of_ble_eq_true rfl)), (xcc_l (List.forall_mem_cons.mpr ⟨rfl, List.forall_mem_cons.mpr ⟨rfl, List.forall_mem_cons.mpr ⟨rfl, List.forall_mem_cons.mpr ⟨rfl, List.forall_mem_cons.mpr ⟨xidx_i hn, List.forall_mem_cons.mpr ⟨rfl, fun q_ hq => absurd hq List.not_mem_nil⟩⟩⟩⟩⟩⟩) (fun t_ ht => by rw [List.mem_singleton.mp ht]; exact ⟨rfl, rfl⟩) (Nat.le_of_ble_eq_true rfl))⟩
theorem hU_S {n_ : Nat} {l : List Int32} (hi_ : i_ < 73) (hp : p_ < 12) (S_ : sHp h_) (o1 : bpat h_ 155 2 = some (.int (Int32.ofNat n_))) (hn : n_ ≤ 73) (o2 : bpat h_ 156 i_ = some (.index (159 + 2 * i_))) (R_ : rwx h_ (159 + 2 * i_) (160 + 2 * i_) 12 l) (g_ : i_ < n_) (gp : l.length ≤ p_) (H_ : hdUl p_ i_ lw hg lo_) : ∃ h1, (ysm h_ h1 ∧ ∀ c_ j_, bpat h1 c_ j_ = bpat h_ c_ j_) ∧ ∃ lo', hdUl p_ (i_ + 1) lw hg lo' ∧ bldD 60 19 8 lo_ [] h_ 8 lo' [] h1 := by
  rcases H_ with rfl | ⟨y7, rfl⟩ | ⟨y7, rfl⟩
  · have hi2 : i_ < 2147483648 := by omega
    have hp2 : p_ < 2147483648 := by omega
    have ii := i32n hi2
    have ip := i32n hp2
    have inn := i32n (i_ := n_) (by omega)
    have il := i32n (i_ := l.length) (by have z_ := R_.2.2.1; omega)
    obtain ⟨h1, m1_, f1_, ld1⟩ := xulSA (v1_ := Int32.ofNat p_) (v6 := Int32.ofNat i_) (w52 := lw) (w54 := hg) (v300 := Int32.ofNat n_) (v302 := Int32.ofNat l.length) S_ R_.1.1 o1 (by rw [i32t hi2]; exact o2) R_.2.1.2 ⟨by omega, by omega⟩ (by omega) (by omega)
    rw [i32s] at ld1
    exact ⟨h1, ⟨m1_, f1_⟩, _, Or.inl rfl, ld1⟩
  · have hi2 : i_ < 2147483648 := by omega
    have hp2 : p_ < 2147483648 := by omega
    have ii := i32n hi2
    have ip := i32n hp2
    have inn := i32n (i_ := n_) (by omega)
    have il := i32n (i_ := l.length) (by have z_ := R_.2.2.1; omega)
    obtain ⟨h1, m1_, f1_, ld1⟩ := xulSB (v1_ := Int32.ofNat p_) (v6 := Int32.ofNat i_) (w52 := lw) (w54 := hg) (v7 := y7) (v300 := Int32.ofNat n_) (v302 := Int32.ofNat l.length) S_ R_.1.1 o1 (by rw [i32t hi2]; exact o2) R_.2.1.2 ⟨by omega, by omega⟩ (by omega) (by omega)
    rw [i32s] at ld1
    exact ⟨h1, ⟨m1_, f1_⟩, _, Or.inr (Or.inl ⟨_, rfl⟩), ld1⟩
  · have hi2 : i_ < 2147483648 := by omega
    have hp2 : p_ < 2147483648 := by omega
    have ii := i32n hi2
    have ip := i32n hp2
    have inn := i32n (i_ := n_) (by omega)
    have il := i32n (i_ := l.length) (by have z_ := R_.2.2.1; omega)
    obtain ⟨h1, m1_, f1_, ld1⟩ := xulSC (v1_ := Int32.ofNat p_) (v6 := Int32.ofNat i_) (w52 := lw) (w54 := hg) (v7 := y7) (v300 := Int32.ofNat n_) (v302 := Int32.ofNat l.length) S_ R_.1.1 o1 (by rw [i32t hi2]; exact o2) R_.2.1.2 ⟨by omega, by omega⟩ (by omega) (by omega)
    rw [i32s] at ld1
    exact ⟨h1, ⟨m1_, f1_⟩, _, Or.inr (Or.inr ⟨_, rfl⟩), ld1⟩
theorem hU_L {n_ : Nat} {l : List Int32} {x_ : Int32} (hi_ : i_ < 73) (hp : p_ < 12) (S_ : sHp h_) (o1 : bpat h_ 155 2 = some (.int (Int32.ofNat n_))) (hn : n_ ≤ 73) (o2 : bpat h_ 156 i_ = some (.index (159 + 2 * i_))) (R_ : rwx h_ (159 + 2 * i_) (160 + 2 * i_) 12 l) (ov : bpat h_ (160 + 2 * i_) p_ = some (.int x_)) (g_ : i_ < n_) (gp : p_ < l.length) (gx : x_.toInt < 50) (H_ : hdUl p_ i_ lw hg lo_) : ∃ h1, (ysm h_ h1 ∧ ∀ c_ j_, bpat h1 c_ j_ = bpat h_ c_ j_) ∧ ∃ lo', hdUl p_ (i_ + 1) (lw ||| ((1 : Int64) <<< ((x_).toInt64 &&& 63))) hg lo' ∧ bldD 60 19 8 lo_ [] h_ 8 lo' [] h1 := by
  rcases H_ with rfl | ⟨y7, rfl⟩ | ⟨y7, rfl⟩
  · have hi2 : i_ < 2147483648 := by omega
    have hp2 : p_ < 2147483648 := by omega
    have ii := i32n hi2
    have ip := i32n hp2
    have inn := i32n (i_ := n_) (by omega)
    have il := i32n (i_ := l.length) (by have z_ := R_.2.2.1; omega)
    have z50_ : (50 : Int32).toInt = 50 := rfl
    obtain ⟨h1, m1_, f1_, ld1⟩ := xulLA (v1_ := Int32.ofNat p_) (v6 := Int32.ofNat i_) (w52 := lw) (w54 := hg) (v300 := Int32.ofNat n_) (v302 := Int32.ofNat l.length) (v301 := x_) S_ R_.1.1 R_.1.2 o1 (by rw [i32t hi2]; exact o2) R_.2.1.2 R_.2.1.1 (by rw [i32t hp2]; exact ov) ⟨by omega, by omega⟩ ⟨by omega, by omega⟩ (by omega) (by omega) (by omega)
    rw [i32s] at ld1
    exact ⟨h1, ⟨m1_, f1_⟩, _, Or.inr (Or.inl ⟨_, rfl⟩), ld1⟩
  · have hi2 : i_ < 2147483648 := by omega
    have hp2 : p_ < 2147483648 := by omega
    have ii := i32n hi2
    have ip := i32n hp2
    have inn := i32n (i_ := n_) (by omega)
    have il := i32n (i_ := l.length) (by have z_ := R_.2.2.1; omega)
    have z50_ : (50 : Int32).toInt = 50 := rfl
    obtain ⟨h1, m1_, f1_, ld1⟩ := xulLB (v1_ := Int32.ofNat p_) (v6 := Int32.ofNat i_) (w52 := lw) (w54 := hg) (v7 := y7) (v300 := Int32.ofNat n_) (v302 := Int32.ofNat l.length) (v301 := x_) S_ R_.1.1 R_.1.2 o1 (by rw [i32t hi2]; exact o2) R_.2.1.2 R_.2.1.1 (by rw [i32t hp2]; exact ov) ⟨by omega, by omega⟩ ⟨by omega, by omega⟩ (by omega) (by omega) (by omega)
    rw [i32s] at ld1
    exact ⟨h1, ⟨m1_, f1_⟩, _, Or.inr (Or.inl ⟨_, rfl⟩), ld1⟩
  · have hi2 : i_ < 2147483648 := by omega
    have hp2 : p_ < 2147483648 := by omega
    have ii := i32n hi2
    have ip := i32n hp2
    have inn := i32n (i_ := n_) (by omega)
    have il := i32n (i_ := l.length) (by have z_ := R_.2.2.1; omega)
    have z50_ : (50 : Int32).toInt = 50 := rfl
    obtain ⟨h1, m1_, f1_, ld1⟩ := xulLC (v1_ := Int32.ofNat p_) (v6 := Int32.ofNat i_) (w52 := lw) (w54 := hg) (v7 := y7) (v300 := Int32.ofNat n_) (v302 := Int32.ofNat l.length) (v301 := x_) S_ R_.1.1 R_.1.2 o1 (by rw [i32t hi2]; exact o2) R_.2.1.2 R_.2.1.1 (by rw [i32t hp2]; exact ov) ⟨by omega, by omega⟩ ⟨by omega, by omega⟩ (by omega) (by omega) (by omega)
    rw [i32s] at ld1
    exact ⟨h1, ⟨m1_, f1_⟩, _, Or.inr (Or.inl ⟨_, rfl⟩), ld1⟩
theorem hU_H {n_ : Nat} {l : List Int32} {x_ : Int32} (hi_ : i_ < 73) (hp : p_ < 12) (S_ : sHp h_) (o1 : bpat h_ 155 2 = some (.int (Int32.ofNat n_))) (hn : n_ ≤ 73) (o2 : bpat h_ 156 i_ = some (.index (159 + 2 * i_))) (R_ : rwx h_ (159 + 2 * i_) (160 + 2 * i_) 12 l) (ov : bpat h_ (160 + 2 * i_) p_ = some (.int x_)) (g_ : i_ < n_) (gp : p_ < l.length) (gx : 50 ≤ x_.toInt) (H_ : hdUl p_ i_ lw hg lo_) : ∃ h1, (ysm h_ h1 ∧ ∀ c_ j_, bpat h1 c_ j_ = bpat h_ c_ j_) ∧ ∃ lo', hdUl p_ (i_ + 1) lw (hg ||| ((1 : Int64) <<< (((x_ - (50 : Int32))).toInt64 &&& 63))) lo' ∧ bldD 60 19 8 lo_ [] h_ 8 lo' [] h1 := by
  rcases H_ with rfl | ⟨y7, rfl⟩ | ⟨y7, rfl⟩
  · have hi2 : i_ < 2147483648 := by omega
    have hp2 : p_ < 2147483648 := by omega
    have ii := i32n hi2
    have ip := i32n hp2
    have inn := i32n (i_ := n_) (by omega)
    have il := i32n (i_ := l.length) (by have z_ := R_.2.2.1; omega)
    have z50_ : (50 : Int32).toInt = 50 := rfl
    obtain ⟨h1, m1_, f1_, ld1⟩ := xulHA (v1_ := Int32.ofNat p_) (v6 := Int32.ofNat i_) (w52 := lw) (w54 := hg) (v300 := Int32.ofNat n_) (v302 := Int32.ofNat l.length) (v301 := x_) S_ R_.1.1 R_.1.2 o1 (by rw [i32t hi2]; exact o2) R_.2.1.2 R_.2.1.1 (by rw [i32t hp2]; exact ov) ⟨by omega, by omega⟩ ⟨by omega, by omega⟩ (by omega) (by omega) (by omega)
    rw [i32s] at ld1
    exact ⟨h1, ⟨m1_, f1_⟩, _, Or.inr (Or.inr ⟨_, rfl⟩), ld1⟩
  · have hi2 : i_ < 2147483648 := by omega
    have hp2 : p_ < 2147483648 := by omega
    have ii := i32n hi2
    have ip := i32n hp2
    have inn := i32n (i_ := n_) (by omega)
    have il := i32n (i_ := l.length) (by have z_ := R_.2.2.1; omega)
    have z50_ : (50 : Int32).toInt = 50 := rfl
    obtain ⟨h1, m1_, f1_, ld1⟩ := xulHB (v1_ := Int32.ofNat p_) (v6 := Int32.ofNat i_) (w52 := lw) (w54 := hg) (v7 := y7) (v300 := Int32.ofNat n_) (v302 := Int32.ofNat l.length) (v301 := x_) S_ R_.1.1 R_.1.2 o1 (by rw [i32t hi2]; exact o2) R_.2.1.2 R_.2.1.1 (by rw [i32t hp2]; exact ov) ⟨by omega, by omega⟩ ⟨by omega, by omega⟩ (by omega) (by omega) (by omega)
    rw [i32s] at ld1
    exact ⟨h1, ⟨m1_, f1_⟩, _, Or.inr (Or.inr ⟨_, rfl⟩), ld1⟩
  · have hi2 : i_ < 2147483648 := by omega
    have hp2 : p_ < 2147483648 := by omega
    have ii := i32n hi2
    have ip := i32n hp2
    have inn := i32n (i_ := n_) (by omega)
    have il := i32n (i_ := l.length) (by have z_ := R_.2.2.1; omega)
    have z50_ : (50 : Int32).toInt = 50 := rfl
    obtain ⟨h1, m1_, f1_, ld1⟩ := xulHC (v1_ := Int32.ofNat p_) (v6 := Int32.ofNat i_) (w52 := lw) (w54 := hg) (v7 := y7) (v300 := Int32.ofNat n_) (v302 := Int32.ofNat l.length) (v301 := x_) S_ R_.1.1 R_.1.2 o1 (by rw [i32t hi2]; exact o2) R_.2.1.2 R_.2.1.1 (by rw [i32t hp2]; exact ov) ⟨by omega, by omega⟩ ⟨by omega, by omega⟩ (by omega) (by omega) (by omega)
    rw [i32s] at ld1
    exact ⟨h1, ⟨m1_, f1_⟩, _, Or.inr (Or.inr ⟨_, rfl⟩), ld1⟩
theorem hU_X {n_ : Nat} (hn : n_ ≤ 73) (hi_ : i_ ≤ 73) (S_ : sHp h_) (o1 : bpat h_ 155 2 = some (.int (Int32.ofNat n_))) (g_ : n_ ≤ i_) (H_ : hdUl p_ i_ lw hg lo_) : ∃ h1, (ysm h_ h1 ∧ ∀ c_ j_, bpat h1 c_ j_ = bpat h_ c_ j_) ∧ bldD 60 19 8 lo_ [] h_ 81 lo_ [.long lw] h1 := by
  rcases H_ with rfl | ⟨y7, rfl⟩ | ⟨y7, rfl⟩
  · have ii := i32n (i_ := i_) (by omega)
    have inn := i32n (i_ := n_) (by omega)
    obtain ⟨h1, m1_, f1_, ld1⟩ := xulXA (v1_ := Int32.ofNat p_) (v6 := Int32.ofNat i_) (w52 := lw) (w54 := hg) (v300 := Int32.ofNat n_) S_ o1 (by omega)
    exact ⟨h1, ⟨m1_, f1_⟩, ld1⟩
  · have ii := i32n (i_ := i_) (by omega)
    have inn := i32n (i_ := n_) (by omega)
    obtain ⟨h1, m1_, f1_, ld1⟩ := xulXB (v1_ := Int32.ofNat p_) (v6 := Int32.ofNat i_) (w52 := lw) (w54 := hg) (v7 := y7) (v300 := Int32.ofNat n_) S_ o1 (by omega)
    exact ⟨h1, ⟨m1_, f1_⟩, ld1⟩
  · have ii := i32n (i_ := i_) (by omega)
    have inn := i32n (i_ := n_) (by omega)
    obtain ⟨h1, m1_, f1_, ld1⟩ := xulXC (v1_ := Int32.ofNat p_) (v6 := Int32.ofNat i_) (w52 := lw) (w54 := hg) (v7 := y7) (v300 := Int32.ofNat n_) S_ o1 (by omega)
    exact ⟨h1, ⟨m1_, f1_⟩, ld1⟩
theorem hU_Y {t_ : Int32} (S_ : sHp h_) (H_ : hdUl p_ i_ lw hg lo_) : ∃ h1, (ysm h_ h1 ∧ ∀ c_ j_, bpat h1 c_ j_ = bpat h_ c_ j_) ∧ bldD 60 19 84 lo_ [.int t_] h_ 86 lo_ [.long hg, .int t_] h1 := by
  rcases H_ with rfl | ⟨y7, rfl⟩ | ⟨y7, rfl⟩
  · obtain ⟨h1, m1_, f1_, ld1⟩ := xulYA (v1_ := Int32.ofNat p_) (v6 := Int32.ofNat i_) (w52 := lw) (w54 := hg) (v8 := t_) S_
    exact ⟨h1, ⟨m1_, f1_⟩, ld1⟩
  · obtain ⟨h1, m1_, f1_, ld1⟩ := xulYB (v1_ := Int32.ofNat p_) (v6 := Int32.ofNat i_) (w52 := lw) (w54 := hg) (v7 := y7) (v8 := t_) S_
    exact ⟨h1, ⟨m1_, f1_⟩, ld1⟩
  · obtain ⟨h1, m1_, f1_, ld1⟩ := xulYC (v1_ := Int32.ofNat p_) (v6 := Int32.ofNat i_) (w52 := lw) (w54 := hg) (v7 := y7) (v8 := t_) S_
    exact ⟨h1, ⟨m1_, f1_⟩, ld1⟩
theorem hU_Z {t_ u_ : Int32} (S_ : sHp h_) (H_ : hdUl p_ i_ lw hg lo_) : ∃ h1, (ysm h_ h1 ∧ ∀ c_ j_, bpat h1 c_ j_ = bpat h_ c_ j_) ∧ ∀ D_, 60 ≤ D_ → xrun D_ 19 89 lo_ [.int u_, .int t_] h_ (some (.int (t_ + u_)), h1, []) := by
  rcases H_ with rfl | ⟨y7, rfl⟩ | ⟨y7, rfl⟩
  · obtain ⟨h1, m1_, f1_, ld1⟩ := xulZA (v1_ := Int32.ofNat p_) (v6 := Int32.ofNat i_) (w52 := lw) (w54 := hg) (v8 := t_) (v9 := u_) S_
    exact ⟨h1, ⟨m1_, f1_⟩, ld1⟩
  · obtain ⟨h1, m1_, f1_, ld1⟩ := xulZB (v1_ := Int32.ofNat p_) (v6 := Int32.ofNat i_) (w52 := lw) (w54 := hg) (v7 := y7) (v8 := t_) (v9 := u_) S_
    exact ⟨h1, ⟨m1_, f1_⟩, ld1⟩
  · obtain ⟨h1, m1_, f1_, ld1⟩ := xulZC (v1_ := Int32.ofNat p_) (v6 := Int32.ofNat i_) (w52 := lw) (w54 := hg) (v7 := y7) (v8 := t_) (v9 := u_) S_
    exact ⟨h1, ⟨m1_, f1_⟩, ld1⟩
end
/-- unlikeAt -/
theorem ul_lp {p_ : Nat} {L_ : List (List Int32)} (hp : p_ < 12) (hL : L_.length ≤ 73) (SS_ : ∀ y_ ∈ L_, snds y_) : ∀ (n_ i_ : Nat) (lw hg : Int64) (h_ : xH) (lo_ : xL), i_ + n_ = L_.length → sHp h_ → meX L_ h_ → iB L_ i_ p_ 0 lw → iB L_ i_ p_ 50 hg → hdUl p_ i_ lw hg lo_ → ∃ h', (ysm h_ h' ∧ ∀ c_ j_, bpat h' c_ j_ = bpat h_ c_ j_) ∧ ∀ D_, 62 ≤ D_ → xrun D_ 19 8 lo_ [] h_ (some (.int (Int32.ofNat (unF L_ p_))), h', []) := by
  intro n_
  induction n_ with
  | zero =>
    intro i_ lw hg h_ lo_ hi_ S_ M_ I1 I2_ H_
    have ei : i_ = L_.length := by omega
    subst ei
    obtain ⟨h1, ⟨m1_, f1_⟩, ld1⟩ := hU_X hL hL S_ M_.1 (Nat.le_refl _) H_
    have T1 : bcq h1 155 3 3 := bcq_of (n_ := 155) (z_ := (3, 3)) m1_.1 rfl
    obtain ⟨h2, ⟨m2_, f2_⟩, r2⟩ := bcX (u_ := lw) m1_.1
    have ld2 := ycs (d_ := 60) (mi := 19) (pc := 81) (cm := 238) (lo_ := lo_) (st_ := [.long lw]) (as_ := [.long lw]) (s' := []) rfl rfl rfl (hU_cc (t_ := 0) (bcq_lt T1) H_).1 r2
    obtain ⟨h3, ⟨m3_, f3_⟩, ld3⟩ := hU_Y (t_ := pc64 lw) m2_.1 H_
    have T3 : bcq h3 155 3 3 := bcq_of (n_ := 155) (z_ := (3, 3)) m3_.1 rfl
    obtain ⟨h4, ⟨m4_, f4_⟩, r4⟩ := bcX (u_ := hg) m3_.1
    have ld4 := ycs (d_ := 60) (mi := 19) (pc := 86) (cm := 238) (lo_ := lo_) (st_ := [.long hg, .int (pc64 lw)]) (as_ := [.long hg]) (s' := [.int (pc64 lw)]) rfl rfl rfl (hU_cc (bcq_lt T3) H_).2 r4
    obtain ⟨h5, ⟨m5_, f5_⟩, r5_⟩ := hU_Z (t_ := pc64 lw) (u_ := pc64 hg) m4_.1 H_
    rw [iB_c I1 I2_] at r5_
    exact ⟨h5, ⟨ysm_tr m1_ (ysm_tr m2_ (ysm_tr m3_ (ysm_tr m4_ m5_))), fun c_ j_ => (f5_ c_ j_).trans ((f4_ c_ j_).trans ((f3_ c_ j_).trans ((f2_ c_ j_).trans (f1_ c_ j_))))⟩, fun D_ hD => ld1 D_ (by omega) _ (ld2 D_ (by omega) _ (ld3 D_ (by omega) _ (ld4 D_ (by omega) _ (r5_ D_ (by omega)))))⟩
  | succ n_ ih_ =>
    intro i_ lw hg h_ lo_ hi_ S_ M_ I1 I2_ H_
    have li : i_ < L_.length := by omega
    have hr := gD_at li
    have R_ := M_.2 i_ _ hr
    have sr := SS_ _ (gD_in li)
    generalize L_.getD i_ [] = r_ at hr R_ sr
    obtain ⟨⟨s1_, s2_⟩, s3_, s4_⟩ := me_s (c_ := i_) S_ (by omega)
    by_cases gp : p_ < r_.length
    · have ex_ : r_[p_]? = some (r_.getD p_ 0) := getD_a gp
      have sx : snd_ (r_.getD p_ 0) := sr _ (List.mem_of_getElem? ex_)
      unfold snd_ at sx
      have ov := R_.2.2.2 p_ _ ex_
      generalize r_.getD p_ 0 = x_ at ex_ sx ov
      have e2_ : x_ = Int32.ofNat x_.toInt.toNat := Int32.toInt_inj.mp (by rw [i32n (by omega)]; omega)
      by_cases gx : x_.toInt < 50
      · obtain ⟨h1, ⟨m1_, f1_⟩, lo1, H1_, ld1⟩ := hU_L (by omega) hp S_ M_.1 hL s1_ R_ ov li gp gx H_
        have ex2_ : r_[p_]? = some (Int32.ofNat (0 + x_.toInt.toNat)) := by rw [Nat.zero_add, ← e2_]; exact ex_
        have J1 := iB_y hr I1 (show x_.toInt.toNat < 50 by omega) (by omega) ex2_
        rw [← e2_] at J1
        have J2 := iB_n hr I2_ (fun k_ hk q_ => by
          rw [ex2_] at q_
          have z_ := (ofN_i (by omega) (by omega)).mp q_
          omega)
        obtain ⟨h2, ⟨m2_, f2_⟩, r2⟩ := ih_ (i_ + 1) _ hg h1 lo1 (by omega) m1_.1 (meX_a M_ m1_ (fun c_ j_ _ => f1_ c_ j_) hL) J1 J2 H1_
        exact ⟨h2, ⟨ysm_tr m1_ m2_, fun c_ j_ => (f2_ c_ j_).trans (f1_ c_ j_)⟩, fun D_ hD => ld1 D_ (by omega) _ (r2 D_ hD)⟩
      · obtain ⟨h1, ⟨m1_, f1_⟩, lo1, H1_, ld1⟩ := hU_H (by omega) hp S_ M_.1 hL s1_ R_ ov li gp (by omega) H_
        have ex2_ : r_[p_]? = some (Int32.ofNat (50 + (x_.toInt.toNat - 50))) := by rw [show 50 + (x_.toInt.toNat - 50) = x_.toInt.toNat by omega, ← e2_]; exact ex_
        have J2 := iB_y hr I2_ (show x_.toInt.toNat - 50 < 50 by omega) (by omega) ex2_
        have e3_ : x_ - 50 = Int32.ofNat (x_.toInt.toNat - 50) := by
          have z_ := i32w (show 50 ≤ x_.toInt.toNat by omega) (by omega)
          rw [← e2_] at z_
          exact z_
        rw [← e3_] at J2
        have J1 := iB_n hr I1 (fun k_ hk q_ => by
          rw [ex2_] at q_
          have z_ := (ofN_i (by omega) (by omega)).mp q_
          omega)
        obtain ⟨h2, ⟨m2_, f2_⟩, r2⟩ := ih_ (i_ + 1) lw _ h1 lo1 (by omega) m1_.1 (meX_a M_ m1_ (fun c_ j_ _ => f1_ c_ j_) hL) J1 J2 H1_
        exact ⟨h2, ⟨ysm_tr m1_ m2_, fun c_ j_ => (f2_ c_ j_).trans (f1_ c_ j_)⟩, fun D_ hD => ld1 D_ (by omega) _ (r2 D_ hD)⟩
    · obtain ⟨h1, ⟨m1_, f1_⟩, lo1, H1_, ld1⟩ := hU_S (by omega) hp S_ M_.1 hL s1_ R_ li (by omega) H_
      have en : r_[p_]? = none := List.getElem?_eq_none (by omega)
      have J1 := iB_n hr I1 (fun k_ hk q_ => by rw [en] at q_; cases q_)
      have J2 := iB_n hr I2_ (fun k_ hk q_ => by rw [en] at q_; cases q_)
      obtain ⟨h2, ⟨m2_, f2_⟩, r2⟩ := ih_ (i_ + 1) lw hg h1 lo1 (by omega) m1_.1 (meX_a M_ m1_ (fun c_ j_ _ => f1_ c_ j_) hL) J1 J2 H1_
      exact ⟨h2, ⟨ysm_tr m1_ m2_, fun c_ j_ => (f2_ c_ j_).trans (f1_ c_ j_)⟩, fun D_ hD => ld1 D_ (by omega) _ (r2 D_ hD)⟩
theorem ulX {p_ : Nat} {L_ : List (List Int32)} {h_ : xH} (hp : p_ < 12) (hL : L_.length ≤ 73) (SS_ : ∀ y_ ∈ L_, snds y_) (S_ : sHp h_) (M_ : meX L_ h_) : ∃ h', (ysm h_ h' ∧ ∀ c_ j_, bpat h' c_ j_ = bpat h_ c_ j_) ∧ ∀ D_, 62 ≤ D_ → xrun D_ 19 0 [(0, .index 155), (1, .int (Int32.ofNat p_))] [] h_ (some (.int (Int32.ofNat (unF L_ p_))), h', []) := by
  obtain ⟨h1, m1_, f1_, ld1⟩ := xulE (v1_ := Int32.ofNat p_) S_
  obtain ⟨h2, ⟨m2_, f2_⟩, r2⟩ := ul_lp hp hL SS_ L_.length 0 0 0 h1 _ (by omega) m1_.1 (meX_a M_ m1_ (fun c_ j_ _ => f1_ c_ j_) hL) iB_0 iB_0 (Or.inl rfl)
  exact ⟨h2, ⟨ysm_tr m1_ m2_, fun c_ j_ => (f2_ c_ j_).trans (f1_ c_ j_)⟩, fun D_ hD => ld1 D_ (by omega) _ (r2 D_ hD)⟩
/-- the place of most -/
def pmF (u_ : Nat → Nat) (n_ p_ b_ : Nat) : Nat := match n_ with
  | 0 => b_
  | n_ + 1 => pmF u_ n_ (p_ + 1) (if u_ b_ < u_ p_ then p_ else b_)
theorem pmF_l {u_ : Nat → Nat} : ∀ (n_ p_ b_ : Nat), b_ < p_ → pmF u_ n_ p_ b_ < p_ + n_ := by
  intro n_
  induction n_ with
  | zero => intro p_ b_ h_; exact h_
  | succ n_ ih_ =>
    intro p_ b_ h_
    have k_ := ih_ (p_ + 1) (if u_ b_ < u_ p_ then p_ else b_) (by split <;> omega)
    show pmF u_ n_ (p_ + 1) (if u_ b_ < u_ p_ then p_ else b_) < p_ + (n_ + 1)
    omega
def hdPm (p_ t_ b_ : Nat) (lo_ : xL) : Prop := lo_ = [(3, .int (Int32.ofNat p_)), (2, .int (Int32.ofNat t_)), (1, .int (Int32.ofNat b_)), (0, .index 155)] ∨ ((∃ y4 : Int32, lo_ = [(3, .int (Int32.ofNat p_)), (4, .int y4), (2, .int (Int32.ofNat t_)), (1, .int (Int32.ofNat b_)), (0, .index 155)]) ∨ ∃ y4 : Int32, lo_ = [(3, .int (Int32.ofNat p_)), (2, .int (Int32.ofNat t_)), (1, .int (Int32.ofNat b_)), (4, .int y4), (0, .index 155)])
section
variable {h_ : xH} {p_ t_ b_ : Nat} {lo_ : xL}
theorem hP_cc {n_ : Nat} (hn : 155 < n_) (H_ : hdPm p_ t_ b_ lo_) : xcc n_ lo_ [] = true := by
  rcases H_ with rfl | ⟨y4, rfl⟩ | ⟨y4, rfl⟩
  · exact (xcc_l (List.forall_mem_cons.mpr ⟨rfl, List.forall_mem_cons.mpr ⟨rfl, List.forall_mem_cons.mpr ⟨rfl, List.forall_mem_cons.mpr ⟨xidx_i hn, fun q_ hq => absurd hq List.not_mem_nil⟩⟩⟩⟩) (fun t_ ht => absurd ht List.not_mem_nil) (Nat.le_of_ble_eq_true rfl))
  · exact (xcc_l (List.forall_mem_cons.mpr ⟨rfl, List.forall_mem_cons.mpr ⟨rfl, List.forall_mem_cons.mpr ⟨rfl, List.forall_mem_cons.mpr ⟨rfl, List.forall_mem_cons.mpr ⟨xidx_i hn, fun q_ hq => absurd hq List.not_mem_nil⟩⟩⟩⟩⟩) (fun t_ ht => absurd ht List.not_mem_nil) (Nat.le_of_ble_eq_true rfl))
  · exact (xcc_l (List.forall_mem_cons.mpr ⟨rfl, List.forall_mem_cons.mpr ⟨rfl, List.forall_mem_cons.mpr ⟨rfl, List.forall_mem_cons.mpr ⟨rfl, List.forall_mem_cons.mpr ⟨xidx_i hn, fun q_ hq => absurd hq List.not_mem_nil⟩⟩⟩⟩⟩) (fun t_ ht => absurd ht List.not_mem_nil) (Nat.le_of_ble_eq_true rfl))
theorem hP_X (S_ : sHp h_) (g_ : p_ = 12) (H_ : hdPm p_ t_ b_ lo_) : ∃ h1, (ysm h_ h1 ∧ ∀ c_ j_, bpat h1 c_ j_ = bpat h_ c_ j_) ∧ ∀ D_, 60 ≤ D_ → xrun D_ 20 10 lo_ [] h_ (some (.int (Int32.ofNat b_)), h1, []) := by
  rcases H_ with rfl | ⟨y4, rfl⟩ | ⟨y4, rfl⟩
  · have z12 : (12 : Int32).toInt = 12 := rfl
    have ip := i32n (i_ := p_) (by omega)
    obtain ⟨h1, m1_, f1_, r1_⟩ := xpmXA (v1_ := Int32.ofNat b_) (v2 := Int32.ofNat t_) (v3 := Int32.ofNat p_) S_ (by omega)
    exact ⟨h1, ⟨m1_, f1_⟩, r1_⟩
  · have z12 : (12 : Int32).toInt = 12 := rfl
    have ip := i32n (i_ := p_) (by omega)
    obtain ⟨h1, m1_, f1_, r1_⟩ := xpmXB (v1_ := Int32.ofNat b_) (v2 := Int32.ofNat t_) (v3 := Int32.ofNat p_) (v4_ := y4) S_ (by omega)
    exact ⟨h1, ⟨m1_, f1_⟩, r1_⟩
  · have z12 : (12 : Int32).toInt = 12 := rfl
    have ip := i32n (i_ := p_) (by omega)
    obtain ⟨h1, m1_, f1_, r1_⟩ := xpmXC (v1_ := Int32.ofNat b_) (v2 := Int32.ofNat t_) (v3 := Int32.ofNat p_) (v4_ := y4) S_ (by omega)
    exact ⟨h1, ⟨m1_, f1_⟩, r1_⟩
theorem hP_T (S_ : sHp h_) (g_ : p_ < 12) (H_ : hdPm p_ t_ b_ lo_) : ∃ h1, (ysm h_ h1 ∧ ∀ c_ j_, bpat h1 c_ j_ = bpat h_ c_ j_) ∧ bldD 60 20 10 lo_ [] h_ 18 lo_ [.int (Int32.ofNat p_), .index 155] h1 := by
  rcases H_ with rfl | ⟨y4, rfl⟩ | ⟨y4, rfl⟩
  · have z12 : (12 : Int32).toInt = 12 := rfl
    have ip := i32n (i_ := p_) (by omega)
    obtain ⟨h1, m1_, f1_, r1_⟩ := xpmTA (v1_ := Int32.ofNat b_) (v2 := Int32.ofNat t_) (v3 := Int32.ofNat p_) S_ (by omega)
    exact ⟨h1, ⟨m1_, f1_⟩, r1_⟩
  · have z12 : (12 : Int32).toInt = 12 := rfl
    have ip := i32n (i_ := p_) (by omega)
    obtain ⟨h1, m1_, f1_, r1_⟩ := xpmTB (v1_ := Int32.ofNat b_) (v2 := Int32.ofNat t_) (v3 := Int32.ofNat p_) (v4_ := y4) S_ (by omega)
    exact ⟨h1, ⟨m1_, f1_⟩, r1_⟩
  · have z12 : (12 : Int32).toInt = 12 := rfl
    have ip := i32n (i_ := p_) (by omega)
    obtain ⟨h1, m1_, f1_, r1_⟩ := xpmTC (v1_ := Int32.ofNat b_) (v2 := Int32.ofNat t_) (v3 := Int32.ofNat p_) (v4_ := y4) S_ (by omega)
    exact ⟨h1, ⟨m1_, f1_⟩, r1_⟩
theorem hP_U {q_ : Nat} (S_ : sHp h_) (hq : q_ ≤ 100) (ht : t_ ≤ 100) (g_ : q_ ≤ t_) (H_ : hdPm p_ t_ b_ lo_) : ∃ h1, (ysm h_ h1 ∧ ∀ c_ j_, bpat h1 c_ j_ = bpat h_ c_ j_) ∧ ∃ lo', hdPm (p_ + 1) t_ b_ lo' ∧ bldD 60 20 21 lo_ [.int (Int32.ofNat q_)] h_ 10 lo' [] h1 := by
  rcases H_ with rfl | ⟨y4, rfl⟩ | ⟨y4, rfl⟩
  · have iq := i32n (i_ := q_) (by omega)
    have it := i32n (i_ := t_) (by omega)
    obtain ⟨h1, m1_, f1_, r1_⟩ := xpmUA (v1_ := Int32.ofNat b_) (v2 := Int32.ofNat t_) (v3 := Int32.ofNat p_) (v8 := Int32.ofNat q_) S_ (by omega)
    rw [i32s] at r1_
    exact ⟨h1, ⟨m1_, f1_⟩, _, Or.inr (Or.inl ⟨_, rfl⟩), r1_⟩
  · have iq := i32n (i_ := q_) (by omega)
    have it := i32n (i_ := t_) (by omega)
    obtain ⟨h1, m1_, f1_, r1_⟩ := xpmUB (v1_ := Int32.ofNat b_) (v2 := Int32.ofNat t_) (v3 := Int32.ofNat p_) (v4_ := y4) (v8 := Int32.ofNat q_) S_ (by omega)
    rw [i32s] at r1_
    exact ⟨h1, ⟨m1_, f1_⟩, _, Or.inr (Or.inl ⟨_, rfl⟩), r1_⟩
  · have iq := i32n (i_ := q_) (by omega)
    have it := i32n (i_ := t_) (by omega)
    obtain ⟨h1, m1_, f1_, r1_⟩ := xpmUC (v1_ := Int32.ofNat b_) (v2 := Int32.ofNat t_) (v3 := Int32.ofNat p_) (v4_ := y4) (v8 := Int32.ofNat q_) S_ (by omega)
    rw [i32s] at r1_
    exact ⟨h1, ⟨m1_, f1_⟩, _, Or.inr (Or.inl ⟨_, rfl⟩), r1_⟩
theorem hP_V {q_ : Nat} (S_ : sHp h_) (hq : q_ ≤ 100) (ht : t_ ≤ 100) (g_ : t_ < q_) (H_ : hdPm p_ t_ b_ lo_) : ∃ h1, (ysm h_ h1 ∧ ∀ c_ j_, bpat h1 c_ j_ = bpat h_ c_ j_) ∧ ∃ lo', hdPm (p_ + 1) q_ p_ lo' ∧ bldD 60 20 21 lo_ [.int (Int32.ofNat q_)] h_ 10 lo' [] h1 := by
  rcases H_ with rfl | ⟨y4, rfl⟩ | ⟨y4, rfl⟩
  · have iq := i32n (i_ := q_) (by omega)
    have it := i32n (i_ := t_) (by omega)
    obtain ⟨h1, m1_, f1_, r1_⟩ := xpmVA (v1_ := Int32.ofNat b_) (v2 := Int32.ofNat t_) (v3 := Int32.ofNat p_) (v8 := Int32.ofNat q_) S_ (by omega)
    rw [i32s] at r1_
    exact ⟨h1, ⟨m1_, f1_⟩, _, Or.inr (Or.inr ⟨_, rfl⟩), r1_⟩
  · have iq := i32n (i_ := q_) (by omega)
    have it := i32n (i_ := t_) (by omega)
    obtain ⟨h1, m1_, f1_, r1_⟩ := xpmVB (v1_ := Int32.ofNat b_) (v2 := Int32.ofNat t_) (v3 := Int32.ofNat p_) (v4_ := y4) (v8 := Int32.ofNat q_) S_ (by omega)
    rw [i32s] at r1_
    exact ⟨h1, ⟨m1_, f1_⟩, _, Or.inr (Or.inr ⟨_, rfl⟩), r1_⟩
  · have iq := i32n (i_ := q_) (by omega)
    have it := i32n (i_ := t_) (by omega)
    obtain ⟨h1, m1_, f1_, r1_⟩ := xpmVC (v1_ := Int32.ofNat b_) (v2 := Int32.ofNat t_) (v3 := Int32.ofNat p_) (v4_ := y4) (v8 := Int32.ofNat q_) S_ (by omega)
    rw [i32s] at r1_
    exact ⟨h1, ⟨m1_, f1_⟩, _, Or.inr (Or.inr ⟨_, rfl⟩), r1_⟩
end
theorem pm_lp {L_ : List (List Int32)} (hL : L_.length ≤ 73) (SS_ : ∀ y_ ∈ L_, snds y_) : ∀ (n_ p_ b_ : Nat) (h_ : xH) (lo_ : xL), p_ + n_ = 12 → sHp h_ → meX L_ h_ → hdPm p_ (unF L_ b_) b_ lo_ → ∃ h', (ysm h_ h' ∧ ∀ c_ j_, bpat h' c_ j_ = bpat h_ c_ j_) ∧ ∀ D_, 63 ≤ D_ → xrun D_ 20 10 lo_ [] h_ (some (.int (Int32.ofNat (pmF (unF L_) n_ p_ b_))), h', []) := by
  intro n_
  induction n_ with
  | zero =>
    intro p_ b_ h_ lo_ hp S_ M_ H_
    obtain ⟨h1, ⟨m1_, f1_⟩, r1_⟩ := hP_X S_ (by omega) H_
    exact ⟨h1, ⟨m1_, f1_⟩, fun D_ hD => r1_ D_ (by omega)⟩
  | succ n_ ih_ =>
    intro p_ b_ h_ lo_ hp S_ M_ H_
    obtain ⟨h1, ⟨m1_, f1_⟩, ld1⟩ := hP_T S_ (by omega) H_
    have T1 : bcq h1 155 3 3 := bcq_of (n_ := 155) (z_ := (3, 3)) m1_.1 rfl
    obtain ⟨h2, ⟨m2_, f2_⟩, r2⟩ := ulX (p_ := p_) (by omega) hL SS_ m1_.1 (meX_a M_ m1_ (fun c_ j_ _ => f1_ c_ j_) hL)
    have ld2 := ycv (d_ := 62) (mi := 20) (pc := 18) (cm := 19) (lo_ := lo_) (st_ := [.int (Int32.ofNat p_), .index 155]) (as_ := [.int (Int32.ofNat p_)]) (s' := []) rfl rfl T1 rfl (hP_cc (bcq_lt T1) H_) r2
    have M2_ := meX_a M_ (ysm_tr m1_ m2_) (fun c_ j_ _ => (f2_ c_ j_).trans (f1_ c_ j_)) hL
    by_cases g_ : unF L_ b_ < unF L_ p_
    · obtain ⟨h3, ⟨m3_, f3_⟩, lo3, H3, ld3⟩ := hP_V m2_.1 unF_le unF_le g_ H_
      obtain ⟨h4, ⟨m4_, f4_⟩, r4⟩ := ih_ (p_ + 1) p_ h3 lo3 (by omega) m3_.1 (meX_a M2_ m3_ (fun c_ j_ _ => f3_ c_ j_) hL) H3
      refine ⟨h4, ⟨ysm_tr m1_ (ysm_tr m2_ (ysm_tr m3_ m4_)), fun c_ j_ => (f4_ c_ j_).trans ((f3_ c_ j_).trans ((f2_ c_ j_).trans (f1_ c_ j_)))⟩, ?_⟩
      rw [show pmF (unF L_) (n_ + 1) p_ b_ = pmF (unF L_) n_ (p_ + 1) p_ by show pmF (unF L_) n_ (p_ + 1) (if unF L_ b_ < unF L_ p_ then p_ else b_) = _; rw [if_pos g_]]
      exact fun D_ hD => ld1 D_ (by omega) _ (ld2 D_ (by omega) _ (ld3 D_ (by omega) _ (r4 D_ hD)))
    · obtain ⟨h3, ⟨m3_, f3_⟩, lo3, H3, ld3⟩ := hP_U m2_.1 unF_le unF_le (Nat.le_of_not_lt g_) H_
      obtain ⟨h4, ⟨m4_, f4_⟩, r4⟩ := ih_ (p_ + 1) b_ h3 lo3 (by omega) m3_.1 (meX_a M2_ m3_ (fun c_ j_ _ => f3_ c_ j_) hL) H3
      refine ⟨h4, ⟨ysm_tr m1_ (ysm_tr m2_ (ysm_tr m3_ m4_)), fun c_ j_ => (f4_ c_ j_).trans ((f3_ c_ j_).trans ((f2_ c_ j_).trans (f1_ c_ j_)))⟩, ?_⟩
      rw [show pmF (unF L_) (n_ + 1) p_ b_ = pmF (unF L_) n_ (p_ + 1) b_ by show pmF (unF L_) n_ (p_ + 1) (if unF L_ b_ < unF L_ p_ then p_ else b_) = _; rw [if_neg g_]]
      exact fun D_ hD => ld1 D_ (by omega) _ (ld2 D_ (by omega) _ (ld3 D_ (by omega) _ (r4 D_ hD)))
theorem pmX {L_ : List (List Int32)} {h_ : xH} (hL : L_.length ≤ 73) (SS_ : ∀ y_ ∈ L_, snds y_) (S_ : sHp h_) (M_ : meX L_ h_) : ∃ h', (ysm h_ h' ∧ ∀ c_ j_, bpat h' c_ j_ = bpat h_ c_ j_) ∧ ∀ D_, 63 ≤ D_ → xrun D_ 20 0 [(0, .index 155)] [] h_ (some (.int (Int32.ofNat (pmF (unF L_) 11 1 0))), h', []) := by
  obtain ⟨h1, m1_, f1_, ld1⟩ := xpmE S_
  obtain ⟨h2, ⟨m2_, f2_⟩, r2⟩ := ulX (p_ := 0) (by omega) hL SS_ m1_.1 (meX_a M_ m1_ (fun c_ j_ _ => f1_ c_ j_) hL)
  have T1 : bcq h1 155 3 3 := bcq_of (n_ := 155) (z_ := (3, 3)) m1_.1 rfl
  have ld2 := ycv (d_ := 62) (mi := 20) (pc := 4) (cm := 19) (lo_ := [(1, .int 0), (0, .index 155)]) (st_ := [.int 0, .index 155]) (as_ := [.int 0]) (s' := []) rfl rfl T1 rfl (xcc_l (List.forall_mem_cons.mpr ⟨rfl, List.forall_mem_cons.mpr ⟨xidx_i (bcq_lt T1), fun q_ hq => absurd hq List.not_mem_nil⟩⟩) (fun t_ ht => absurd ht List.not_mem_nil) (Nat.le_of_ble_eq_true rfl)) r2
  obtain ⟨h3, m3_, f3_, ld3⟩ := xpmA (v8 := Int32.ofNat (unF L_ 0)) m2_.1
  obtain ⟨h4, ⟨m4_, f4_⟩, r4⟩ := pm_lp hL SS_ 11 1 0 h3 _ (by omega) m3_.1 (meX_a M_ (ysm_tr m1_ (ysm_tr m2_ m3_)) (fun c_ j_ _ => (f3_ c_ j_).trans ((f2_ c_ j_).trans (f1_ c_ j_))) hL) (Or.inl rfl)
  exact ⟨h4, ⟨ysm_tr m1_ (ysm_tr m2_ (ysm_tr m3_ m4_)), fun c_ j_ => (f4_ c_ j_).trans ((f3_ c_ j_).trans ((f2_ c_ j_).trans (f1_ c_ j_)))⟩, fun D_ hD => ld1 D_ (by omega) _ (ld2 D_ (by omega) _ (ld3 D_ (by omega) _ (r4 D_ hD)))⟩
section
variable {W_ : Nat → List Int32} {V : Nat → Int32}
theorem uO_s {x_ y_ : List Int32} {r_ : Nat} (S_ : snds x_) (e_ : uO W_ V x_ r_ = some y_) : snds y_ := by
  by_cases g_ : okn V r_
  · have e2_ : uO W_ V x_ r_ = some (stp W_ V r_ x_) := pif_t g_
    rw [e2_] at e_
    rw [← Option.some.inj e_]
    exact snds_sdo S_
  · have e2_ : uO W_ V x_ r_ = none := pif_f g_
    rw [e2_] at e_
    cases e_
theorem mea_s (hN_ : nR V ≤ 8) {x_ y_ : List Int32} {k_ : Nat} (hk : k_ ≤ 2) (S_ : snds x_) (hy : y_ ∈ meaX W_ V x_ k_) : snds y_ := by
  obtain ⟨n_, hn, e_⟩ := meaM_m.mp ((mea_m hN_ hk).mp hy)
  have n99 : n_ ≤ 99 := by
    unfold mstM at hn
    split at hn
    · omega
    · split at hn <;> omega
  rcases (mea_2 hN_).mp ⟨n_, n99, e_⟩ with (g_ | ⟨r_, a_, b_⟩) | ⟨r_, a_, u_, b_, q_, c_, d_⟩
  · rw [g_]; exact S_
  · exact uO_s S_ b_
  · exact uO_s (uO_s S_ b_) d_
theorem mea_73 (hN_ : nR V ≤ 8) {x_ : List Int32} {k_ : Nat} (hk : k_ ≤ 2) : (meaX W_ V x_ k_).length ≤ 73 := by
  refine Nat.le_trans (ndp_le _ (mzF (uO W_ V) x_ 2) meaX_d (fun y_ hy => ?_)) mzF_l
  obtain ⟨n_, hn, e_⟩ := meaM_m.mp ((mea_m hN_ hk).mp hy)
  exact waO_z hN_ (by
    unfold mstM at hn
    split at hn
    · omega
    · split at hn <;> omega) e_
end
noncomputable def placeF (W_ : Nat → List Int32) (V : Nat → Int32) (z_ k_ q_ : Int32) : (Nat → List Int32) × (Nat → Int32) × Int32 := if ((0 ≤ z_.toInt ∧ z_.toInt < (V 0).toInt) ∧ (0 ≤ k_.toInt ∧ k_.toInt ≤ 2)) ∧ (0 ≤ q_.toInt ∧ q_.toInt ≤ 1) then (W_, V, if q_.toInt = 0 then Int32.ofNat (pmF (unF (meaX W_ V (W_ z_.toInt.toNat) k_.toInt.toNat)) 11 1 0) else Int32.ofNat (unF (meaX W_ V (W_ z_.toInt.toNat) k_.toInt.toNat) (pmF (unF (meaX W_ V (W_ z_.toInt.toNat) k_.toInt.toNat)) 11 1 0))) else (W_, V, Int32.ofInt (-1000001))
theorem ok_place {W_ : Nat → List Int32} {V : Nat → Int32} (K_ : okS W_ V) (z_ k_ q_ : Int32) : okS (placeF W_ V z_ k_ q_).1 (placeF W_ V z_ k_ q_).2.1 := by
  unfold placeF
  split <;> exact K_
theorem x_place {W_ : Nat → List Int32} {V : Nat → Int32} {h_ : xH} {z_ k_ q_ : Int32} (B_ : bInv bZ bIj h_) (K_ : okS W_ V) (H_ : SX W_ V h_) : ∃ h', ysm h_ h' ∧ (SX (placeF W_ V z_ k_ q_).1 (placeF W_ V z_ k_ q_).2.1 h' ∧ ∀ D_, 72 ≤ D_ → xrun D_ 95 0 [(0, .index 0), (1, .int z_), (2, .int k_), (3, .int q_)] [] h_ (some (.int (placeF W_ V z_ k_ q_).2.2), h', [])) := by
  obtain ⟨y_, oy⟩ := xerr (k_ := 1) B_ (by omega)
  have zz := z0_
  have z1 : (1 : Int32).toInt = 1 := rfl
  have z2 : (2 : Int32).toInt = 2 := rfl
  unfold placeF
  obtain ⟨h0, m0_, e_⟩ := xplE (v1_ := z_) (v2 := k_) (v3 := q_) H_.1 (xNc H_) oy
  rcases e_ with ⟨g1, g2, g3_, g4, g5_, g6, f_, r_⟩ | ⟨g1, w0_, f_, r_⟩ | ⟨g1, g2, w0_, f_, r_⟩ | ⟨g1, g2, g3_, w0_, f_, r_⟩ | ⟨g1, g2, g3_, g4, w0_, f_, r_⟩ | ⟨g1, g2, g3_, g4, g5_, w0_, f_, r_⟩ | ⟨g1, g2, g3_, g4, g5_, g6, w0_, f_, r_⟩
  rotate_left
  · rw [if_neg (fun q_ => by omega)]; exact ⟨h0, m0_, SX_e H_ m0_ f_, fun D_ hD => r_ D_ (by omega)⟩
  · rw [if_neg (fun q_ => by omega)]; exact ⟨h0, m0_, SX_e H_ m0_ f_, fun D_ hD => r_ D_ (by omega)⟩
  · rw [if_neg (fun q_ => by omega)]; exact ⟨h0, m0_, SX_e H_ m0_ f_, fun D_ hD => r_ D_ (by omega)⟩
  · rw [if_neg (fun q_ => by omega)]; exact ⟨h0, m0_, SX_e H_ m0_ f_, fun D_ hD => r_ D_ (by omega)⟩
  · rw [if_neg (fun q_ => by omega)]; exact ⟨h0, m0_, SX_e H_ m0_ f_, fun D_ hD => r_ D_ (by omega)⟩
  · rw [if_neg (fun q_ => by omega)]; exact ⟨h0, m0_, SX_e H_ m0_ f_, fun D_ hD => r_ D_ (by omega)⟩
  have H0 := SX_fr H_ m0_ (fun c_ j_ _ => f_ c_ j_)
  obtain ⟨c_, hc_, hN_, rfl, ec⟩ := isC_n (z_ := z_) K_ ⟨by omega, by omega⟩
  rw [if_pos ⟨⟨⟨by omega, by omega⟩, by omega, by omega⟩, by omega, by omega⟩, ec]
  obtain ⟨s1_, s2_, s3_⟩ := cl_s H0.1 hc_
  obtain ⟨h1, m1_, f1_, ld1⟩ := xplG (v1_ := Int32.ofNat c_) (v2 := k_) (v3 := q_) H0.1 s2_ (by rw [ec]; exact s1_) ⟨by omega, by omega⟩
  have H1_ := SX_fr H0 m1_ (fun c_ j_ _ => f1_ c_ j_)
  have ek : k_ = Int32.ofNat k_.toInt.toNat := Int32.toInt_inj.mp (by rw [i32n (by omega)]; omega)
  have k2_ : k_.toInt.toNat ≤ 2 := by omega
  have n8 := (nR_le K_).1
  obtain ⟨h2, ⟨H2_, m2_⟩, M2_, r2⟩ := gaX K_ (W_ c_) (34 + 2 * c_) (35 + 2 * c_) k_.toInt.toNat (by omega) (by omega) H1_ (SX_w H1_ (cl_x hc_)) (by omega)
  rw [← ek] at r2
  have kc_ := K_.1.2.2.1 c_ hc_
  rw [Nat.zero_add] at kc_
  have l73 : (meaX W_ V (W_ c_) k_.toInt.toNat).length ≤ 73 := mea_73 n8 k2_
  have SS_ : ∀ y_ ∈ meaX W_ V (W_ c_) k_.toInt.toNat, snds y_ := fun y_ hy => mea_s n8 k2_ kc_.2 hy
  generalize meaX W_ V (W_ c_) k_.toInt.toNat = L_ at M2_ l73 SS_
  have ld2 := ycv (d_ := 69) (mi := 95) (pc := 50) (cm := 16) (lo_ := [(0, .index 0), (1, .int (Int32.ofNat c_)), (2, .int k_), (3, .int q_)]) (st_ := [.int k_, .index (34 + 2 * c_), .index 1, .index 155]) (as_ := [.index 1, .index (34 + 2 * c_), .int k_]) (s' := []) rfl rfl (bcq_of (n_ := 155) (z_ := (3, 3)) H1_.1 rfl) rfl (xcc_l (List.forall_mem_cons.mpr ⟨xidx_i (bcq_lt (bcq_of (n_ := 0) (z_ := (11, 15)) H1_.1 rfl)), List.forall_mem_cons.mpr ⟨rfl, List.forall_mem_cons.mpr ⟨rfl, List.forall_mem_cons.mpr ⟨rfl, fun q_ hq => absurd hq List.not_mem_nil⟩⟩⟩⟩) (fun t_ ht => absurd ht List.not_mem_nil) (Nat.le_of_ble_eq_true rfl)) r2
  obtain ⟨h3, m3_, f3_, ld3⟩ := xplH (v1_ := Int32.ofNat c_) (v2 := k_) (v3 := q_) H2_.1
  have H3 := SX_fr H2_ m3_ (fun c_ j_ _ => f3_ c_ j_)
  have M3_ := meX_a M2_ m3_ (fun c_ j_ _ => f3_ c_ j_) l73
  obtain ⟨h4, ⟨m4_, f4_⟩, r4⟩ := pmX l73 SS_ H3.1 M3_
  have ld4 := ycv (d_ := 63) (mi := 95) (pc := 57) (cm := 20) (lo_ := [(0, .index 0), (1, .int (Int32.ofNat c_)), (2, .int k_), (3, .int q_)]) (st_ := [.index 155]) (as_ := []) (s' := []) rfl rfl (bcq_of (n_ := 155) (z_ := (3, 3)) H3.1 rfl) rfl (xcc_l (List.forall_mem_cons.mpr ⟨xidx_i (bcq_lt (bcq_of (n_ := 0) (z_ := (11, 15)) H3.1 rfl)), List.forall_mem_cons.mpr ⟨rfl, List.forall_mem_cons.mpr ⟨rfl, List.forall_mem_cons.mpr ⟨rfl, fun q_ hq => absurd hq List.not_mem_nil⟩⟩⟩⟩) (fun t_ ht => absurd ht List.not_mem_nil) (Nat.le_of_ble_eq_true rfl)) r4
  have H4 := SX_fr H3 m4_ (fun c_ j_ _ => f4_ c_ j_)
  have M4_ := meX_a M3_ m4_ (fun c_ j_ _ => f4_ c_ j_) l73
  have pl : pmF (unF L_) 11 1 0 < 12 := pmF_l 11 1 0 (by omega)
  have m04 := ysm_tr m0_ (ysm_tr m1_ (ysm_tr m2_ (ysm_tr m3_ m4_)))
  by_cases g_ : q_.toInt = 0
  · rw [if_pos g_]
    have eq_ : q_ = 0 := Int32.toInt_inj.mp (by rw [g_]; rfl)
    subst eq_
    obtain ⟨h5, m5_, f5_, r5_⟩ := xplR0 (v1_ := Int32.ofNat c_) (v2 := k_) (v8 := Int32.ofNat (pmF (unF L_) 11 1 0)) H4.1
    exact ⟨h5, ysm_tr m04 m5_, SX_fr H4 m5_ (fun c_ j_ _ => f5_ c_ j_), fun D_ hD => r_ D_ (by omega) _ (ld1 D_ (by omega) _ (ld2 D_ (by omega) _ (ld3 D_ (by omega) _ (ld4 D_ (by omega) _ (r5_ D_ (by omega))))))⟩
  · rw [if_neg g_]
    have eq_ : q_ = 1 := Int32.toInt_inj.mp (by rw [z1]; omega)
    subst eq_
    obtain ⟨h5, m5_, f5_, ld5⟩ := xplK (v1_ := Int32.ofNat c_) (v2 := k_) (v8 := Int32.ofNat (pmF (unF L_) 11 1 0)) H4.1
    have H5 := SX_fr H4 m5_ (fun c_ j_ _ => f5_ c_ j_)
    obtain ⟨h6, ⟨m6_, f6_⟩, r6⟩ := ulX (p_ := pmF (unF L_) 11 1 0) pl l73 SS_ H5.1 (meX_a M4_ m5_ (fun c_ j_ _ => f5_ c_ j_) l73)
    have ld6 := ycv (d_ := 62) (mi := 95) (pc := 77) (cm := 19) (lo_ := [(4, .int (Int32.ofNat (pmF (unF L_) 11 1 0))), (0, .index 0), (1, .int (Int32.ofNat c_)), (2, .int k_), (3, .int 1)]) (st_ := [.int (Int32.ofNat (pmF (unF L_) 11 1 0)), .index 155]) (as_ := [.int (Int32.ofNat (pmF (unF L_) 11 1 0))]) (s' := []) rfl rfl (bcq_of (n_ := 155) (z_ := (3, 3)) H5.1 rfl) rfl (xcc_l (List.forall_mem_cons.mpr ⟨rfl, List.forall_mem_cons.mpr ⟨xidx_i (bcq_lt (bcq_of (n_ := 0) (z_ := (11, 15)) H5.1 rfl)), List.forall_mem_cons.mpr ⟨rfl, List.forall_mem_cons.mpr ⟨rfl, List.forall_mem_cons.mpr ⟨rfl, fun q_ hq => absurd hq List.not_mem_nil⟩⟩⟩⟩⟩) (fun t_ ht => absurd ht List.not_mem_nil) (Nat.le_of_ble_eq_true rfl)) r6
    have H6 := SX_fr H5 m6_ (fun c_ j_ _ => f6_ c_ j_)
    obtain ⟨h7, m7_, f7_, r7⟩ := xplR1 (v1_ := Int32.ofNat c_) (v2 := k_) (v4_ := Int32.ofNat (pmF (unF L_) 11 1 0)) (v8 := Int32.ofNat (unF L_ (pmF (unF L_) 11 1 0))) H6.1
    exact ⟨h7, ysm_tr m04 (ysm_tr m5_ (ysm_tr m6_ m7_)), SX_fr H6 m7_ (fun c_ j_ _ => f7_ c_ j_), fun D_ hD => r_ D_ (by omega) _ (ld1 D_ (by omega) _ (ld2 D_ (by omega) _ (ld3 D_ (by omega) _ (ld4 D_ (by omega) _ (ld5 D_ (by omega) _ (ld6 D_ (by omega) _ (r7 D_ (by omega))))))))⟩
