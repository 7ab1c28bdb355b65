-- ===== says, the class: isSo
-- xisE: 13 steps, 1 ends, 0 returns
def xisE_L : List (Nat × Nat × Nat) := [(1000, 6, 2)]
def xisE_O : yO := []
def xisE_A : yA := (yZ xisE_L, [], [], [], [])
def xisE_C : List xB := []
def xisE_ss : List yS := [(19, [(3, .int 0), (0, .index 152), (1, .index 1000), (2, .arg 2)], [.int 0, .index 152], [(152, .int 2, .int 0), (152, .int 1, .arg 2), (152, .int 0, .index 1000)], [], [(152, .int 2), (152, .int 1), (152, .int 0)])]
def xisE_rs : List yR := []
theorem xisE_w : ywa xisE_A xisE_ss xisE_rs = true := by decide +kernel
theorem xisE_k : yis (yev xisE_A 3000 60 6 [19] (0, [(0, .index 152), (1, .index 1000), (2, .arg 2)], [], xisE_O, xisE_C, [])) xisE_ss xisE_rs = true := by decide +kernel
def xisE_r (v2 : Int32) (k_ : Nat) : Value := bif Nat.beq k_ 2 then .int v2 else (.int 0)
def xisE_s (a1000 : Nat) (n_ : Nat) : Nat := bif Nat.beq n_ 1000 then a1000 else (0)
theorem xisE {h_ : xH} {a1000 : Nat} {v2 : Int32} (hs : sHp h_) (k1000 : bcq h_ a1000 6 2) : ∃ h', ysm h_ h' ∧ (((bpat h' 152 2 = some (.int (0 : Int32))) ∧ (bpat h' 152 1 = some (.int v2)) ∧ (bpat h' 152 0 = some (.index a1000)) ∧ (∀ a_ j_ : Nat, ¬ (a_ = 152 ∧ j_ = 2) → ¬ (a_ = 152 ∧ j_ = 1) → ¬ (a_ = 152 ∧ j_ = 0) → bpat h' a_ j_ = bpat h_ a_ j_) ∧ (bldD 60 6 0 [(0, .index 152), (1, .index a1000), (2, .int v2)] [] h_ 19 [(3, .int (0 : Int32)), (0, .index 152), (1, .index a1000), (2, .int v2)] [.int (0 : Int32), .index 152] h'))) := by
  have hA : yas xisE_A (xisE_r v2) (yg (xisE_s a1000)) := ⟨fun q_ hq => absurd hq List.not_mem_nil, fun q_ hq => absurd hq List.not_mem_nil, fun q_ hq => absurd hq List.not_mem_nil, fun n_ hn => yg_lo hn, fun q_ hq => absurd hq List.not_mem_nil⟩
  have Hs : ysh xisE_A.1 (yg (xisE_s a1000)) h_ := ysh_of2 hs (List.forall_mem_cons.mpr ⟨⟨by decide, k1000⟩, fun q_ hq => absurd hq List.not_mem_nil⟩)
  have Ho : ymem (xisE_r v2) (yg (xisE_s a1000)) xisE_O h_ := fun q_ hq => absurd hq List.not_mem_nil
  have HC : ∀ q_ ∈ xisE_C, xhold (xisE_r v2) q_ := fun q_ hq => absurd hq List.not_mem_nil
  rcases yrun (yis_ok xisE_k) hA Hs Ho HC with ⟨q_, hq, h', K_, G_⟩ | ⟨q_, hq, h', K_, G_⟩
  · have e_ := List.mem_singleton.mp hq
    subst e_
    exact ⟨h', yfr_sm K_.2.2.2 hs K_.1 (ywa_s xisE_w List.mem_cons_self), ⟨bpat_of (K_.2.1 _ List.mem_cons_self), bpat_of (K_.2.1 _ (List.mem_cons_of_mem _ List.mem_cons_self)), bpat_of (K_.2.1 _ (List.mem_cons_of_mem _ (List.mem_cons_of_mem _ List.mem_cons_self))), fun a_ j_ n0_ n1_ n2_ => yfr_bp K_.2.2.2 (List.forall_mem_cons.mpr ⟨fun e_ => n0_ ⟨e_.1.symm, e_.2.symm⟩, List.forall_mem_cons.mpr ⟨fun e_ => n1_ ⟨e_.1.symm, e_.2.symm⟩, List.forall_mem_cons.mpr ⟨fun e_ => n2_ ⟨e_.1.symm, e_.2.symm⟩, fun q_ hq => absurd hq List.not_mem_nil⟩⟩⟩), G_⟩⟩
  · cases hq
-- xisA: 3 steps, 1 ends, 0 returns
def xisA_L : List (Nat × Nat × Nat) := [(1000, 6, 2)]
def xisA_O : yO := []
def xisA_A : yA := (yZ xisA_L, [], [], [], [])
def xisA_C : List xB := []
def xisA_ss : List yS := [(27, [(5, .int 0), (4, .arg 8), (3, .int 0), (0, .index 152), (1, .index 1000), (2, .arg 2)], [], [], [], [])]
def xisA_rs : List yR := []
theorem xisA_w : ywa xisA_A xisA_ss xisA_rs = true := by decide +kernel
theorem xisA_k : yis (yev xisA_A 3000 60 6 [27] (22, [(3, .int 0), (0, .index 152), (1, .index 1000), (2, .arg 2)], [.arg 8], xisA_O, xisA_C, [])) xisA_ss xisA_rs = true := by decide +kernel
def xisA_r (v2 v8 : Int32) (k_ : Nat) : Value := bif Nat.beq k_ 2 then .int v2 else (bif Nat.beq k_ 8 then .int v8 else (.int 0))
def xisA_s (a1000 : Nat) (n_ : Nat) : Nat := bif Nat.beq n_ 1000 then a1000 else (0)
theorem xisA {h_ : xH} {a1000 : Nat} {v2 v8 : Int32} (hs : sHp h_) (k1000 : bcq h_ a1000 6 2) : ∃ h', ysm h_ h' ∧ (((∀ a_ j_ : Nat, bpat h' a_ j_ = bpat h_ a_ j_) ∧ (bldD 60 6 22 [(3, .int (0 : Int32)), (0, .index 152), (1, .index a1000), (2, .int v2)] [.int v8] h_ 27 [(5, .int (0 : Int32)), (4, .int v8), (3, .int (0 : Int32)), (0, .index 152), (1, .index a1000), (2, .int v2)] [] h'))) := by
  have hA : yas xisA_A (xisA_r v2 v8) (yg (xisA_s a1000)) := ⟨fun q_ hq => absurd hq List.not_mem_nil, fun q_ hq => absurd hq List.not_mem_nil, fun q_ hq => absurd hq List.not_mem_nil, fun n_ hn => yg_lo hn, fun q_ hq => absurd hq List.not_mem_nil⟩
  have Hs : ysh xisA_A.1 (yg (xisA_s a1000)) h_ := ysh_of2 hs (List.forall_mem_cons.mpr ⟨⟨by decide, k1000⟩, fun q_ hq => absurd hq List.not_mem_nil⟩)
  have Ho : ymem (xisA_r v2 v8) (yg (xisA_s a1000)) xisA_O h_ := fun q_ hq => absurd hq List.not_mem_nil
  have HC : ∀ q_ ∈ xisA_C, xhold (xisA_r v2 v8) q_ := fun q_ hq => absurd hq List.not_mem_nil
  rcases yrun (yis_ok xisA_k) hA Hs Ho HC with ⟨q_, hq, h', K_, G_⟩ | ⟨q_, hq, h', K_, G_⟩
  · have e_ := List.mem_singleton.mp hq
    subst e_
    exact ⟨h', yfr_sm K_.2.2.2 hs K_.1 (ywa_s xisA_w List.mem_cons_self), ⟨fun a_ j_ => yfr_bp K_.2.2.2 (fun q_ hq => absurd hq List.not_mem_nil), G_⟩⟩
  · cases hq
-- xis50A: 35 steps, 1 ends, 0 returns
def xis50A_L : List (Nat × Nat × Nat) := [(1000, 6, 2), (1001, 20, 12)]
def xis50A_O : yO := [(152, .int 2, .arg 302), (152, .int 0, .index 1000), (1000, .int 1, .arg 300), (1000, .int 0, .index 1001), (1001, .sub (.add (.arg 302) (.int 1)) (.int 1), .int 50)]
def xis50A_A : yA := (yZ xis50A_L, [(.sub (.add (.arg 302) (.int 1)) (.int 1), 12)], [], [], [])
def xis50A_C : List xB := [(.lt, .arg 302, .arg 300, true), (.lt, .arg 5, .int 12, true)]
def xis50A_ss : List yS := [(56, [(6, .int 50), (5, .arg 5), (4, .arg 4), (3, .arg 3), (0, .index 152), (1, .index 1000), (2, .arg 2)], [.int 0, .index 152], [(152, .int 2, .add (.arg 302) (.int 1)), (152, .int 0, .index 1000), (1000, .int 1, .arg 300), (1000, .int 0, .index 1001), (1001, .sub (.add (.arg 302) (.int 1)) (.int 1), .int 50)], [(.lt, .arg 302, .arg 300, true), (.lt, .arg 5, .int 12, true)], [(152, .int 2)])]
def xis50A_rs : List yR := []
theorem xis50A_w : ywa xis50A_A xis50A_ss xis50A_rs = true := by decide +kernel
theorem xis50A_k : yis (yev xis50A_A 3000 60 6 [56] (27, [(5, .arg 5), (4, .arg 4), (3, .arg 3), (0, .index 152), (1, .index 1000), (2, .arg 2)], [], xis50A_O, xis50A_C, [])) xis50A_ss xis50A_rs = true := by decide +kernel
def xis50A_r (v2 v3 v4_ v5 v300 v302 : Int32) (k_ : Nat) : Value := bif Nat.beq k_ 2 then .int v2 else (bif Nat.beq k_ 3 then .int v3 else (bif Nat.beq k_ 4 then .int v4_ else (bif Nat.beq k_ 5 then .int v5 else (bif Nat.beq k_ 300 then .int v300 else (bif Nat.beq k_ 302 then .int v302 else (.int 0))))))
def xis50A_s (a1000 a1001 : Nat) (n_ : Nat) : Nat := bif Nat.beq n_ 1000 then a1000 else (bif Nat.beq n_ 1001 then a1001 else (0))
theorem xis50A {h_ : xH} {a1000 a1001 : Nat} {v2 v3 v4_ v5 v300 v302 : Int32} (hs : sHp h_) (k1000 : bcq h_ a1000 6 2) (k1001 : bcq h_ a1001 20 12) (o0_ : bpat h_ 152 2 = some (.int v302)) (o1 : bpat h_ 152 0 = some (.index a1000)) (o2 : bpat h_ a1000 1 = some (.int v300)) (o3_ : bpat h_ a1000 0 = some (.index a1001)) (o4_ : bpat h_ a1001 (((v302 + (1 : Int32)) - (1 : Int32))).toInt.toNat = some (.int (50 : Int32))) (b0 : 0 ≤ (((v302 + (1 : Int32)) - (1 : Int32))).toInt ∧ (((v302 + (1 : Int32)) - (1 : Int32))).toInt < 12) (c0_ : v302.toInt < v300.toInt) (c1_ : v5.toInt < (12 : Int32).toInt) : ∃ h', ysm h_ h' ∧ (((bpat h' 152 2 = some (.int (v302 + (1 : Int32)))) ∧ (∀ a_ j_ : Nat, ¬ (a_ = 152 ∧ j_ = 2) → bpat h' a_ j_ = bpat h_ a_ j_) ∧ (bldD 60 6 27 [(5, .int v5), (4, .int v4_), (3, .int v3), (0, .index 152), (1, .index a1000), (2, .int v2)] [] h_ 56 [(6, .int (50 : Int32)), (5, .int v5), (4, .int v4_), (3, .int v3), (0, .index 152), (1, .index a1000), (2, .int v2)] [.int (0 : Int32), .index 152] h'))) := by
  have hA : yas xis50A_A (xis50A_r v2 v3 v4_ v5 v300 v302) (yg (xis50A_s a1000 a1001)) := ⟨List.forall_mem_cons.mpr ⟨b0, fun q_ hq => absurd hq List.not_mem_nil⟩, fun q_ hq => absurd hq List.not_mem_nil, fun q_ hq => absurd hq List.not_mem_nil, fun n_ hn => yg_lo hn, fun q_ hq => absurd hq List.not_mem_nil⟩
  have Hs : ysh xis50A_A.1 (yg (xis50A_s a1000 a1001)) h_ := ysh_of2 hs (List.forall_mem_cons.mpr ⟨⟨by decide, k1000⟩, List.forall_mem_cons.mpr ⟨⟨by decide, k1001⟩, fun q_ hq => absurd hq List.not_mem_nil⟩⟩)
  have Ho : ymem (xis50A_r v2 v3 v4_ v5 v300 v302) (yg (xis50A_s a1000 a1001)) xis50A_O h_ := List.forall_mem_cons.mpr ⟨bpat_some o0_, List.forall_mem_cons.mpr ⟨bpat_some o1, List.forall_mem_cons.mpr ⟨bpat_some o2, List.forall_mem_cons.mpr ⟨bpat_some o3_, List.forall_mem_cons.mpr ⟨bpat_some o4_, fun q_ hq => absurd hq List.not_mem_nil⟩⟩⟩⟩⟩
  have HC : ∀ q_ ∈ xis50A_C, xhold (xis50A_r v2 v3 v4_ v5 v300 v302) q_ := List.forall_mem_cons.mpr ⟨xh_ltT c0_, List.forall_mem_cons.mpr ⟨xh_ltT c1_, fun q_ hq => absurd hq List.not_mem_nil⟩⟩
  rcases yrun (yis_ok xis50A_k) hA Hs Ho HC with ⟨q_, hq, h', K_, G_⟩ | ⟨q_, hq, h', K_, G_⟩
  · have e_ := List.mem_singleton.mp hq
    subst e_
    exact ⟨h', yfr_sm K_.2.2.2 hs K_.1 (ywa_s xis50A_w List.mem_cons_self), ⟨bpat_of (K_.2.1 _ List.mem_cons_self), fun a_ j_ n0_ => yfr_bp K_.2.2.2 (List.forall_mem_cons.mpr ⟨fun e_ => n0_ ⟨e_.1.symm, e_.2.symm⟩, fun q_ hq => absurd hq List.not_mem_nil⟩), G_⟩⟩
  · cases hq
-- xis51A: 35 steps, 1 ends, 0 returns
def xis51A_L : List (Nat × Nat × Nat) := [(1000, 6, 2), (1001, 20, 12)]
def xis51A_O : yO := [(152, .int 2, .arg 302), (152, .int 0, .index 1000), (1000, .int 1, .arg 300), (1000, .int 0, .index 1001), (1001, .sub (.add (.arg 302) (.int 1)) (.int 1), .int 51)]
def xis51A_A : yA := (yZ xis51A_L, [(.sub (.add (.arg 302) (.int 1)) (.int 1), 12)], [], [], [])
def xis51A_C : List xB := [(.lt, .arg 302, .arg 300, true), (.lt, .arg 5, .int 12, true)]
def xis51A_ss : List yS := [(56, [(6, .int 51), (5, .arg 5), (4, .arg 4), (3, .arg 3), (0, .index 152), (1, .index 1000), (2, .arg 2)], [.int 0, .index 152], [(152, .int 2, .add (.arg 302) (.int 1)), (152, .int 0, .index 1000), (1000, .int 1, .arg 300), (1000, .int 0, .index 1001), (1001, .sub (.add (.arg 302) (.int 1)) (.int 1), .int 51)], [(.lt, .arg 302, .arg 300, true), (.lt, .arg 5, .int 12, true)], [(152, .int 2)])]
def xis51A_rs : List yR := []
theorem xis51A_w : ywa xis51A_A xis51A_ss xis51A_rs = true := by decide +kernel
theorem xis51A_k : yis (yev xis51A_A 3000 60 6 [56] (27, [(5, .arg 5), (4, .arg 4), (3, .arg 3), (0, .index 152), (1, .index 1000), (2, .arg 2)], [], xis51A_O, xis51A_C, [])) xis51A_ss xis51A_rs = true := by decide +kernel
def xis51A_r (v2 v3 v4_ v5 v300 v302 : Int32) (k_ : Nat) : Value := bif Nat.beq k_ 2 then .int v2 else (bif Nat.beq k_ 3 then .int v3 else (bif Nat.beq k_ 4 then .int v4_ else (bif Nat.beq k_ 5 then .int v5 else (bif Nat.beq k_ 300 then .int v300 else (bif Nat.beq k_ 302 then .int v302 else (.int 0))))))
def xis51A_s (a1000 a1001 : Nat) (n_ : Nat) : Nat := bif Nat.beq n_ 1000 then a1000 else (bif Nat.beq n_ 1001 then a1001 else (0))
theorem xis51A {h_ : xH} {a1000 a1001 : Nat} {v2 v3 v4_ v5 v300 v302 : Int32} (hs : sHp h_) (k1000 : bcq h_ a1000 6 2) (k1001 : bcq h_ a1001 20 12) (o0_ : bpat h_ 152 2 = some (.int v302)) (o1 : bpat h_ 152 0 = some (.index a1000)) (o2 : bpat h_ a1000 1 = some (.int v300)) (o3_ : bpat h_ a1000 0 = some (.index a1001)) (o4_ : bpat h_ a1001 (((v302 + (1 : Int32)) - (1 : Int32))).toInt.toNat = some (.int (51 : Int32))) (b0 : 0 ≤ (((v302 + (1 : Int32)) - (1 : Int32))).toInt ∧ (((v302 + (1 : Int32)) - (1 : Int32))).toInt < 12) (c0_ : v302.toInt < v300.toInt) (c1_ : v5.toInt < (12 : Int32).toInt) : ∃ h', ysm h_ h' ∧ (((bpat h' 152 2 = some (.int (v302 + (1 : Int32)))) ∧ (∀ a_ j_ : Nat, ¬ (a_ = 152 ∧ j_ = 2) → bpat h' a_ j_ = bpat h_ a_ j_) ∧ (bldD 60 6 27 [(5, .int v5), (4, .int v4_), (3, .int v3), (0, .index 152), (1, .index a1000), (2, .int v2)] [] h_ 56 [(6, .int (51 : Int32)), (5, .int v5), (4, .int v4_), (3, .int v3), (0, .index 152), (1, .index a1000), (2, .int v2)] [.int (0 : Int32), .index 152] h'))) := by
  have hA : yas xis51A_A (xis51A_r v2 v3 v4_ v5 v300 v302) (yg (xis51A_s a1000 a1001)) := ⟨List.forall_mem_cons.mpr ⟨b0, fun q_ hq => absurd hq List.not_mem_nil⟩, fun q_ hq => absurd hq List.not_mem_nil, fun q_ hq => absurd hq List.not_mem_nil, fun n_ hn => yg_lo hn, fun q_ hq => absurd hq List.not_mem_nil⟩
  have Hs : ysh xis51A_A.1 (yg (xis51A_s a1000 a1001)) h_ := ysh_of2 hs (List.forall_mem_cons.mpr ⟨⟨by decide, k1000⟩, List.forall_mem_cons.mpr ⟨⟨by decide, k1001⟩, fun q_ hq => absurd hq List.not_mem_nil⟩⟩)
  have Ho : ymem (xis51A_r v2 v3 v4_ v5 v300 v302) (yg (xis51A_s a1000 a1001)) xis51A_O h_ := List.forall_mem_cons.mpr ⟨bpat_some o0_, List.forall_mem_cons.mpr ⟨bpat_some o1, List.forall_mem_cons.mpr ⟨bpat_some o2, List.forall_mem_cons.mpr ⟨bpat_some o3_, List.forall_mem_cons.mpr ⟨bpat_some o4_, fun q_ hq => absurd hq List.not_mem_nil⟩⟩⟩⟩⟩
  have HC : ∀ q_ ∈ xis51A_C, xhold (xis51A_r v2 v3 v4_ v5 v300 v302) q_ := List.forall_mem_cons.mpr ⟨xh_ltT c0_, List.forall_mem_cons.mpr ⟨xh_ltT c1_, fun q_ hq => absurd hq List.not_mem_nil⟩⟩
  rcases yrun (yis_ok xis51A_k) hA Hs Ho HC with ⟨q_, hq, h', K_, G_⟩ | ⟨q_, hq, h', K_, G_⟩
  · have e_ := List.mem_singleton.mp hq
    subst e_
    exact ⟨h', yfr_sm K_.2.2.2 hs K_.1 (ywa_s xis51A_w List.mem_cons_self), ⟨bpat_of (K_.2.1 _ List.mem_cons_self), fun a_ j_ n0_ => yfr_bp K_.2.2.2 (List.forall_mem_cons.mpr ⟨fun e_ => n0_ ⟨e_.1.symm, e_.2.symm⟩, fun q_ hq => absurd hq List.not_mem_nil⟩), G_⟩⟩
  · cases hq
-- xisX00A: 15 steps, 0 ends, 1 returns
def xisX00A_L : List (Nat × Nat × Nat) := [(1000, 6, 2)]
def xisX00A_O : yO := [(152, .int 2, .arg 302), (152, .int 0, .index 1000), (1000, .int 1, .arg 300)]
def xisX00A_A : yA := (yZ xisX00A_L, [], [], [], [])
def xisX00A_C : List xB := [(.lt, .arg 302, .arg 300, false), (.lt, .arg 5, .int 12, true)]
def xisX00A_ss : List yS := []
def xisX00A_rs : List yR := [(some (.int 0), [(152, .int 2, .arg 302), (152, .int 0, .index 1000), (1000, .int 1, .arg 300)], [(.lt, .arg 302, .arg 300, false), (.lt, .arg 5, .int 12, true)], [])]
theorem xisX00A_w : ywa xisX00A_A xisX00A_ss xisX00A_rs = true := by decide +kernel
theorem xisX00A_k : yis (yev xisX00A_A 3000 60 6 [] (27, [(5, .arg 5), (4, .int 0), (3, .int 0), (0, .index 152), (1, .index 1000), (2, .arg 2)], [], xisX00A_O, xisX00A_C, [])) xisX00A_ss xisX00A_rs = true := by decide +kernel
def xisX00A_r (v2 v5 v300 v302 : Int32) (k_ : Nat) : Value := bif Nat.beq k_ 2 then .int v2 else (bif Nat.beq k_ 5 then .int v5 else (bif Nat.beq k_ 300 then .int v300 else (bif Nat.beq k_ 302 then .int v302 else (.int 0))))
def xisX00A_s (a1000 : Nat) (n_ : Nat) : Nat := bif Nat.beq n_ 1000 then a1000 else (0)
theorem xisX00A {h_ : xH} {a1000 : Nat} {v2 v5 v300 v302 : Int32} (hs : sHp h_) (k1000 : bcq h_ a1000 6 2) (o0_ : bpat h_ 152 2 = some (.int v302)) (o1 : bpat h_ 152 0 = some (.index a1000)) (o2 : bpat h_ a1000 1 = some (.int v300)) (c0_ : v300.toInt ≤ v302.toInt) (c1_ : v5.toInt < (12 : Int32).toInt) : ∃ h', ysm h_ h' ∧ (((∀ a_ j_ : Nat, bpat h' a_ j_ = bpat h_ a_ j_) ∧ (∀ D_, 60 ≤ D_ → xrun D_ 6 27 [(5, .int v5), (4, .int (0 : Int32)), (3, .int (0 : Int32)), (0, .index 152), (1, .index a1000), (2, .int v2)] [] h_ (some (.int (0 : Int32)), h', [])))) := by
  have hA : yas xisX00A_A (xisX00A_r v2 v5 v300 v302) (yg (xisX00A_s a1000)) := ⟨fun q_ hq => absurd hq List.not_mem_nil, fun q_ hq => absurd hq List.not_mem_nil, fun q_ hq => absurd hq List.not_mem_nil, fun n_ hn => yg_lo hn, fun q_ hq => absurd hq List.not_mem_nil⟩
  have Hs : ysh xisX00A_A.1 (yg (xisX00A_s a1000)) h_ := ysh_of2 hs (List.forall_mem_cons.mpr ⟨⟨by decide, k1000⟩, fun q_ hq => absurd hq List.not_mem_nil⟩)
  have Ho : ymem (xisX00A_r v2 v5 v300 v302) (yg (xisX00A_s a1000)) xisX00A_O h_ := List.forall_mem_cons.mpr ⟨bpat_some o0_, List.forall_mem_cons.mpr ⟨bpat_some o1, List.forall_mem_cons.mpr ⟨bpat_some o2, fun q_ hq => absurd hq List.not_mem_nil⟩⟩⟩
  have HC : ∀ q_ ∈ xisX00A_C, xhold (xisX00A_r v2 v5 v300 v302) q_ := List.forall_mem_cons.mpr ⟨xh_ltF c0_, List.forall_mem_cons.mpr ⟨xh_ltT c1_, fun q_ hq => absurd hq List.not_mem_nil⟩⟩
  rcases yrun (yis_ok xisX00A_k) hA Hs Ho HC with ⟨q_, hq, h', K_, G_⟩ | ⟨q_, hq, h', K_, G_⟩
  · cases hq
  · have e_ := List.mem_singleton.mp hq
    subst e_
    exact ⟨h', yfr_sm K_.2.2.2 hs K_.1 (ywa_r xisX00A_w List.mem_cons_self), ⟨fun a_ j_ => yfr_bp K_.2.2.2 (fun q_ hq => absurd hq List.not_mem_nil), G_⟩⟩
-- xisX01A: 16 steps, 0 ends, 1 returns
def xisX01A_L : List (Nat × Nat × Nat) := [(1000, 6, 2)]
def xisX01A_O : yO := [(152, .int 2, .arg 302), (152, .int 0, .index 1000), (1000, .int 1, .arg 300)]
def xisX01A_A : yA := (yZ xisX01A_L, [], [], [], [])
def xisX01A_C : List xB := [(.lt, .arg 302, .arg 300, false), (.lt, .arg 5, .int 12, true)]
def xisX01A_ss : List yS := []
def xisX01A_rs : List yR := [(some (.int 1), [(152, .int 2, .arg 302), (152, .int 0, .index 1000), (1000, .int 1, .arg 300)], [(.lt, .arg 302, .arg 300, false), (.lt, .arg 5, .int 12, true)], [])]
theorem xisX01A_w : ywa xisX01A_A xisX01A_ss xisX01A_rs = true := by decide +kernel
theorem xisX01A_k : yis (yev xisX01A_A 3000 60 6 [] (27, [(5, .arg 5), (4, .int 1), (3, .int 0), (0, .index 152), (1, .index 1000), (2, .arg 2)], [], xisX01A_O, xisX01A_C, [])) xisX01A_ss xisX01A_rs = true := by decide +kernel
def xisX01A_r (v2 v5 v300 v302 : Int32) (k_ : Nat) : Value := bif Nat.beq k_ 2 then .int v2 else (bif Nat.beq k_ 5 then .int v5 else (bif Nat.beq k_ 300 then .int v300 else (bif Nat.beq k_ 302 then .int v302 else (.int 0))))
def xisX01A_s (a1000 : Nat) (n_ : Nat) : Nat := bif Nat.beq n_ 1000 then a1000 else (0)
theorem xisX01A {h_ : xH} {a1000 : Nat} {v2 v5 v300 v302 : Int32} (hs : sHp h_) (k1000 : bcq h_ a1000 6 2) (o0_ : bpat h_ 152 2 = some (.int v302)) (o1 : bpat h_ 152 0 = some (.index a1000)) (o2 : bpat h_ a1000 1 = some (.int v300)) (c0_ : v300.toInt ≤ v302.toInt) (c1_ : v5.toInt < (12 : Int32).toInt) : ∃ h', ysm h_ h' ∧ (((∀ a_ j_ : Nat, bpat h' a_ j_ = bpat h_ a_ j_) ∧ (∀ D_, 60 ≤ D_ → xrun D_ 6 27 [(5, .int v5), (4, .int (1 : Int32)), (3, .int (0 : Int32)), (0, .index 152), (1, .index a1000), (2, .int v2)] [] h_ (some (.int (1 : Int32)), h', [])))) := by
  have hA : yas xisX01A_A (xisX01A_r v2 v5 v300 v302) (yg (xisX01A_s a1000)) := ⟨fun q_ hq => absurd hq List.not_mem_nil, fun q_ hq => absurd hq List.not_mem_nil, fun q_ hq => absurd hq List.not_mem_nil, fun n_ hn => yg_lo hn, fun q_ hq => absurd hq List.not_mem_nil⟩
  have Hs : ysh xisX01A_A.1 (yg (xisX01A_s a1000)) h_ := ysh_of2 hs (List.forall_mem_cons.mpr ⟨⟨by decide, k1000⟩, fun q_ hq => absurd hq List.not_mem_nil⟩)
  have Ho : ymem (xisX01A_r v2 v5 v300 v302) (yg (xisX01A_s a1000)) xisX01A_O h_ := List.forall_mem_cons.mpr ⟨bpat_some o0_, List.forall_mem_cons.mpr ⟨bpat_some o1, List.forall_mem_cons.mpr ⟨bpat_some o2, fun q_ hq => absurd hq List.not_mem_nil⟩⟩⟩
  have HC : ∀ q_ ∈ xisX01A_C, xhold (xisX01A_r v2 v5 v300 v302) q_ := List.forall_mem_cons.mpr ⟨xh_ltF c0_, List.forall_mem_cons.mpr ⟨xh_ltT c1_, fun q_ hq => absurd hq List.not_mem_nil⟩⟩
  rcases yrun (yis_ok xisX01A_k) hA Hs Ho HC with ⟨q_, hq, h', K_, G_⟩ | ⟨q_, hq, h', K_, G_⟩
  · cases hq
  · have e_ := List.mem_singleton.mp hq
    subst e_
    exact ⟨h', yfr_sm K_.2.2.2 hs K_.1 (ywa_r xisX01A_w List.mem_cons_self), ⟨fun a_ j_ => yfr_bp K_.2.2.2 (fun q_ hq => absurd hq List.not_mem_nil), G_⟩⟩
-- xisX10A: 14 steps, 0 ends, 1 returns
def xisX10A_L : List (Nat × Nat × Nat) := [(1000, 6, 2)]
def xisX10A_O : yO := [(152, .int 2, .arg 302), (152, .int 0, .index 1000), (1000, .int 1, .arg 300)]
def xisX10A_A : yA := (yZ xisX10A_L, [], [], [], [])
def xisX10A_C : List xB := [(.lt, .arg 302, .arg 300, false), (.lt, .arg 5, .int 12, true)]
def xisX10A_ss : List yS := []
def xisX10A_rs : List yR := [(some (.int 1), [(152, .int 2, .arg 302), (152, .int 0, .index 1000), (1000, .int 1, .arg 300)], [(.lt, .arg 302, .arg 300, false), (.lt, .arg 5, .int 12, true)], [])]
theorem xisX10A_w : ywa xisX10A_A xisX10A_ss xisX10A_rs = true := by decide +kernel
theorem xisX10A_k : yis (yev xisX10A_A 3000 60 6 [] (27, [(5, .arg 5), (4, .int 0), (3, .int 1), (0, .index 152), (1, .index 1000), (2, .arg 2)], [], xisX10A_O, xisX10A_C, [])) xisX10A_ss xisX10A_rs = true := by decide +kernel
def xisX10A_r (v2 v5 v300 v302 : Int32) (k_ : Nat) : Value := bif Nat.beq k_ 2 then .int v2 else (bif Nat.beq k_ 5 then .int v5 else (bif Nat.beq k_ 300 then .int v300 else (bif Nat.beq k_ 302 then .int v302 else (.int 0))))
def xisX10A_s (a1000 : Nat) (n_ : Nat) : Nat := bif Nat.beq n_ 1000 then a1000 else (0)
theorem xisX10A {h_ : xH} {a1000 : Nat} {v2 v5 v300 v302 : Int32} (hs : sHp h_) (k1000 : bcq h_ a1000 6 2) (o0_ : bpat h_ 152 2 = some (.int v302)) (o1 : bpat h_ 152 0 = some (.index a1000)) (o2 : bpat h_ a1000 1 = some (.int v300)) (c0_ : v300.toInt ≤ v302.toInt) (c1_ : v5.toInt < (12 : Int32).toInt) : ∃ h', ysm h_ h' ∧ (((∀ a_ j_ : Nat, bpat h' a_ j_ = bpat h_ a_ j_) ∧ (∀ D_, 60 ≤ D_ → xrun D_ 6 27 [(5, .int v5), (4, .int (0 : Int32)), (3, .int (1 : Int32)), (0, .index 152), (1, .index a1000), (2, .int v2)] [] h_ (some (.int (1 : Int32)), h', [])))) := by
  have hA : yas xisX10A_A (xisX10A_r v2 v5 v300 v302) (yg (xisX10A_s a1000)) := ⟨fun q_ hq => absurd hq List.not_mem_nil, fun q_ hq => absurd hq List.not_mem_nil, fun q_ hq => absurd hq List.not_mem_nil, fun n_ hn => yg_lo hn, fun q_ hq => absurd hq List.not_mem_nil⟩
  have Hs : ysh xisX10A_A.1 (yg (xisX10A_s a1000)) h_ := ysh_of2 hs (List.forall_mem_cons.mpr ⟨⟨by decide, k1000⟩, fun q_ hq => absurd hq List.not_mem_nil⟩)
  have Ho : ymem (xisX10A_r v2 v5 v300 v302) (yg (xisX10A_s a1000)) xisX10A_O h_ := List.forall_mem_cons.mpr ⟨bpat_some o0_, List.forall_mem_cons.mpr ⟨bpat_some o1, List.forall_mem_cons.mpr ⟨bpat_some o2, fun q_ hq => absurd hq List.not_mem_nil⟩⟩⟩
  have HC : ∀ q_ ∈ xisX10A_C, xhold (xisX10A_r v2 v5 v300 v302) q_ := List.forall_mem_cons.mpr ⟨xh_ltF c0_, List.forall_mem_cons.mpr ⟨xh_ltT c1_, fun q_ hq => absurd hq List.not_mem_nil⟩⟩
  rcases yrun (yis_ok xisX10A_k) hA Hs Ho HC with ⟨q_, hq, h', K_, G_⟩ | ⟨q_, hq, h', K_, G_⟩
  · cases hq
  · have e_ := List.mem_singleton.mp hq
    subst e_
    exact ⟨h', yfr_sm K_.2.2.2 hs K_.1 (ywa_r xisX10A_w List.mem_cons_self), ⟨fun a_ j_ => yfr_bp K_.2.2.2 (fun q_ hq => absurd hq List.not_mem_nil), G_⟩⟩
-- xisX11A: 14 steps, 0 ends, 1 returns
def xisX11A_L : List (Nat × Nat × Nat) := [(1000, 6, 2)]
def xisX11A_O : yO := [(152, .int 2, .arg 302), (152, .int 0, .index 1000), (1000, .int 1, .arg 300)]
def xisX11A_A : yA := (yZ xisX11A_L, [], [], [], [])
def xisX11A_C : List xB := [(.lt, .arg 302, .arg 300, false), (.lt, .arg 5, .int 12, true)]
def xisX11A_ss : List yS := []
def xisX11A_rs : List yR := [(some (.int 1), [(152, .int 2, .arg 302), (152, .int 0, .index 1000), (1000, .int 1, .arg 300)], [(.lt, .arg 302, .arg 300, false), (.lt, .arg 5, .int 12, true)], [])]
theorem xisX11A_w : ywa xisX11A_A xisX11A_ss xisX11A_rs = true := by decide +kernel
theorem xisX11A_k : yis (yev xisX11A_A 3000 60 6 [] (27, [(5, .arg 5), (4, .int 1), (3, .int 1), (0, .index 152), (1, .index 1000), (2, .arg 2)], [], xisX11A_O, xisX11A_C, [])) xisX11A_ss xisX11A_rs = true := by decide +kernel
def xisX11A_r (v2 v5 v300 v302 : Int32) (k_ : Nat) : Value := bif Nat.beq k_ 2 then .int v2 else (bif Nat.beq k_ 5 then .int v5 else (bif Nat.beq k_ 300 then .int v300 else (bif Nat.beq k_ 302 then .int v302 else (.int 0))))
def xisX11A_s (a1000 : Nat) (n_ : Nat) : Nat := bif Nat.beq n_ 1000 then a1000 else (0)
theorem xisX11A {h_ : xH} {a1000 : Nat} {v2 v5 v300 v302 : Int32} (hs : sHp h_) (k1000 : bcq h_ a1000 6 2) (o0_ : bpat h_ 152 2 = some (.int v302)) (o1 : bpat h_ 152 0 = some (.index a1000)) (o2 : bpat h_ a1000 1 = some (.int v300)) (c0_ : v300.toInt ≤ v302.toInt) (c1_ : v5.toInt < (12 : Int32).toInt) : ∃ h', ysm h_ h' ∧ (((∀ a_ j_ : Nat, bpat h' a_ j_ = bpat h_ a_ j_) ∧ (∀ D_, 60 ≤ D_ → xrun D_ 6 27 [(5, .int v5), (4, .int (1 : Int32)), (3, .int (1 : Int32)), (0, .index 152), (1, .index a1000), (2, .int v2)] [] h_ (some (.int (1 : Int32)), h', [])))) := by
  have hA : yas xisX11A_A (xisX11A_r v2 v5 v300 v302) (yg (xisX11A_s a1000)) := ⟨fun q_ hq => absurd hq List.not_mem_nil, fun q_ hq => absurd hq List.not_mem_nil, fun q_ hq => absurd hq List.not_mem_nil, fun n_ hn => yg_lo hn, fun q_ hq => absurd hq List.not_mem_nil⟩
  have Hs : ysh xisX11A_A.1 (yg (xisX11A_s a1000)) h_ := ysh_of2 hs (List.forall_mem_cons.mpr ⟨⟨by decide, k1000⟩, fun q_ hq => absurd hq List.not_mem_nil⟩)
  have Ho : ymem (xisX11A_r v2 v5 v300 v302) (yg (xisX11A_s a1000)) xisX11A_O h_ := List.forall_mem_cons.mpr ⟨bpat_some o0_, List.forall_mem_cons.mpr ⟨bpat_some o1, List.forall_mem_cons.mpr ⟨bpat_some o2, fun q_ hq => absurd hq List.not_mem_nil⟩⟩⟩
  have HC : ∀ q_ ∈ xisX11A_C, xhold (xisX11A_r v2 v5 v300 v302) q_ := List.forall_mem_cons.mpr ⟨xh_ltF c0_, List.forall_mem_cons.mpr ⟨xh_ltT c1_, fun q_ hq => absurd hq List.not_mem_nil⟩⟩
  rcases yrun (yis_ok xisX11A_k) hA Hs Ho HC with ⟨q_, hq, h', K_, G_⟩ | ⟨q_, hq, h', K_, G_⟩
  · cases hq
  · have e_ := List.mem_singleton.mp hq
    subst e_
    exact ⟨h', yfr_sm K_.2.2.2 hs K_.1 (ywa_r xisX11A_w List.mem_cons_self), ⟨fun a_ j_ => yfr_bp K_.2.2.2 (fun q_ hq => absurd hq List.not_mem_nil), G_⟩⟩
-- xisMA: 1 steps, 1 ends, 0 returns
def xisMA_L : List (Nat × Nat × Nat) := [(1000, 6, 2)]
def xisMA_O : yO := []
def xisMA_A : yA := (yZ xisMA_L, [], [], [], [])
def xisMA_C : List xB := []
def xisMA_ss : List yS := [(61, [(7, .arg 8), (6, .arg 6), (5, .arg 5), (4, .arg 4), (3, .arg 3), (0, .index 152), (1, .index 1000), (2, .arg 2)], [], [], [], [])]
def xisMA_rs : List yR := []
theorem xisMA_w : ywa xisMA_A xisMA_ss xisMA_rs = true := by decide +kernel
theorem xisMA_k : yis (yev xisMA_A 3000 60 6 [61] (59, [(6, .arg 6), (5, .arg 5), (4, .arg 4), (3, .arg 3), (0, .index 152), (1, .index 1000), (2, .arg 2)], [.arg 8], xisMA_O, xisMA_C, [])) xisMA_ss xisMA_rs = true := by decide +kernel
def xisMA_r (v2 v3 v4_ v5 v6 v8 : Int32) (k_ : Nat) : Value := bif Nat.beq k_ 2 then .int v2 else (bif Nat.beq k_ 3 then .int v3 else (bif Nat.beq k_ 4 then .int v4_ else (bif Nat.beq k_ 5 then .int v5 else (bif Nat.beq k_ 6 then .int v6 else (bif Nat.beq k_ 8 then .int v8 else (.int 0))))))
def xisMA_s (a1000 : Nat) (n_ : Nat) : Nat := bif Nat.beq n_ 1000 then a1000 else (0)
theorem xisMA {h_ : xH} {a1000 : Nat} {v2 v3 v4_ v5 v6 v8 : Int32} (hs : sHp h_) (k1000 : bcq h_ a1000 6 2) : ∃ h', ysm h_ h' ∧ (((∀ a_ j_ : Nat, bpat h' a_ j_ = bpat h_ a_ j_) ∧ (bldD 60 6 59 [(6, .int v6), (5, .int v5), (4, .int v4_), (3, .int v3), (0, .index 152), (1, .index a1000), (2, .int v2)] [.int v8] h_ 61 [(7, .int v8), (6, .int v6), (5, .int v5), (4, .int v4_), (3, .int v3), (0, .index 152), (1, .index a1000), (2, .int v2)] [] h'))) := by
  have hA : yas xisMA_A (xisMA_r v2 v3 v4_ v5 v6 v8) (yg (xisMA_s a1000)) := ⟨fun q_ hq => absurd hq List.not_mem_nil, fun q_ hq => absurd hq List.not_mem_nil, fun q_ hq => absurd hq List.not_mem_nil, fun n_ hn => yg_lo hn, fun q_ hq => absurd hq List.not_mem_nil⟩
  have Hs : ysh xisMA_A.1 (yg (xisMA_s a1000)) h_ := ysh_of2 hs (List.forall_mem_cons.mpr ⟨⟨by decide, k1000⟩, fun q_ hq => absurd hq List.not_mem_nil⟩)
  have Ho : ymem (xisMA_r v2 v3 v4_ v5 v6 v8) (yg (xisMA_s a1000)) xisMA_O h_ := fun q_ hq => absurd hq List.not_mem_nil
  have HC : ∀ q_ ∈ xisMA_C, xhold (xisMA_r v2 v3 v4_ v5 v6 v8) q_ := fun q_ hq => absurd hq List.not_mem_nil
  rcases yrun (yis_ok xisMA_k) hA Hs Ho HC with ⟨q_, hq, h', K_, G_⟩ | ⟨q_, hq, h', K_, G_⟩
  · have e_ := List.mem_singleton.mp hq
    subst e_
    exact ⟨h', yfr_sm K_.2.2.2 hs K_.1 (ywa_s xisMA_w List.mem_cons_self), ⟨fun a_ j_ => yfr_bp K_.2.2.2 (fun q_ hq => absurd hq List.not_mem_nil), G_⟩⟩
  · cases hq
-- xis50B: 35 steps, 1 ends, 0 returns
def xis50B_L : List (Nat × Nat × Nat) := [(1000, 6, 2), (1001, 20, 12)]
def xis50B_O : yO := [(152, .int 2, .arg 302), (152, .int 0, .index 1000), (1000, .int 1, .arg 300), (1000, .int 0, .index 1001), (1001, .sub (.add (.arg 302) (.int 1)) (.int 1), .int 50)]
def xis50B_A : yA := (yZ xis50B_L, [(.sub (.add (.arg 302) (.int 1)) (.int 1), 12)], [], [], [])
def xis50B_C : List xB := [(.lt, .arg 302, .arg 300, true), (.lt, .arg 5, .int 12, true)]
def xis50B_ss : List yS := [(56, [(6, .int 50), (5, .arg 5), (4, .arg 4), (7, .arg 7), (3, .arg 3), (0, .index 152), (1, .index 1000), (2, .arg 2)], [.int 0, .index 152], [(152, .int 2, .add (.arg 302) (.int 1)), (152, .int 0, .index 1000), (1000, .int 1, .arg 300), (1000, .int 0, .index 1001), (1001, .sub (.add (.arg 302) (.int 1)) (.int 1), .int 50)], [(.lt, .arg 302, .arg 300, true), (.lt, .arg 5, .int 12, true)], [(152, .int 2)])]
def xis50B_rs : List yR := []
theorem xis50B_w : ywa xis50B_A xis50B_ss xis50B_rs = true := by decide +kernel
theorem xis50B_k : yis (yev xis50B_A 3000 60 6 [56] (27, [(5, .arg 5), (4, .arg 4), (7, .arg 7), (6, .arg 6), (3, .arg 3), (0, .index 152), (1, .index 1000), (2, .arg 2)], [], xis50B_O, xis50B_C, [])) xis50B_ss xis50B_rs = true := by decide +kernel
def xis50B_r (v2 v3 v4_ v5 v6 v7 v300 v302 : Int32) (k_ : Nat) : Value := bif Nat.beq k_ 2 then .int v2 else (bif Nat.beq k_ 3 then .int v3 else (bif Nat.beq k_ 4 then .int v4_ else (bif Nat.beq k_ 5 then .int v5 else (bif Nat.beq k_ 6 then .int v6 else (bif Nat.beq k_ 7 then .int v7 else (bif Nat.beq k_ 300 then .int v300 else (bif Nat.beq k_ 302 then .int v302 else (.int 0))))))))
def xis50B_s (a1000 a1001 : Nat) (n_ : Nat) : Nat := bif Nat.beq n_ 1000 then a1000 else (bif Nat.beq n_ 1001 then a1001 else (0))
theorem xis50B {h_ : xH} {a1000 a1001 : Nat} {v2 v3 v4_ v5 v6 v7 v300 v302 : Int32} (hs : sHp h_) (k1000 : bcq h_ a1000 6 2) (k1001 : bcq h_ a1001 20 12) (o0_ : bpat h_ 152 2 = some (.int v302)) (o1 : bpat h_ 152 0 = some (.index a1000)) (o2 : bpat h_ a1000 1 = some (.int v300)) (o3_ : bpat h_ a1000 0 = some (.index a1001)) (o4_ : bpat h_ a1001 (((v302 + (1 : Int32)) - (1 : Int32))).toInt.toNat = some (.int (50 : Int32))) (b0 : 0 ≤ (((v302 + (1 : Int32)) - (1 : Int32))).toInt ∧ (((v302 + (1 : Int32)) - (1 : Int32))).toInt < 12) (c0_ : v302.toInt < v300.toInt) (c1_ : v5.toInt < (12 : Int32).toInt) : ∃ h', ysm h_ h' ∧ (((bpat h' 152 2 = some (.int (v302 + (1 : Int32)))) ∧ (∀ a_ j_ : Nat, ¬ (a_ = 152 ∧ j_ = 2) → bpat h' a_ j_ = bpat h_ a_ j_) ∧ (bldD 60 6 27 [(5, .int v5), (4, .int v4_), (7, .int v7), (6, .int v6), (3, .int v3), (0, .index 152), (1, .index a1000), (2, .int v2)] [] h_ 56 [(6, .int (50 : Int32)), (5, .int v5), (4, .int v4_), (7, .int v7), (3, .int v3), (0, .index 152), (1, .index a1000), (2, .int v2)] [.int (0 : Int32), .index 152] h'))) := by
  have hA : yas xis50B_A (xis50B_r v2 v3 v4_ v5 v6 v7 v300 v302) (yg (xis50B_s a1000 a1001)) := ⟨List.forall_mem_cons.mpr ⟨b0, fun q_ hq => absurd hq List.not_mem_nil⟩, fun q_ hq => absurd hq List.not_mem_nil, fun q_ hq => absurd hq List.not_mem_nil, fun n_ hn => yg_lo hn, fun q_ hq => absurd hq List.not_mem_nil⟩
  have Hs : ysh xis50B_A.1 (yg (xis50B_s a1000 a1001)) h_ := ysh_of2 hs (List.forall_mem_cons.mpr ⟨⟨by decide, k1000⟩, List.forall_mem_cons.mpr ⟨⟨by decide, k1001⟩, fun q_ hq => absurd hq List.not_mem_nil⟩⟩)
  have Ho : ymem (xis50B_r v2 v3 v4_ v5 v6 v7 v300 v302) (yg (xis50B_s a1000 a1001)) xis50B_O h_ := List.forall_mem_cons.mpr ⟨bpat_some o0_, List.forall_mem_cons.mpr ⟨bpat_some o1, List.forall_mem_cons.mpr ⟨bpat_some o2, List.forall_mem_cons.mpr ⟨bpat_some o3_, List.forall_mem_cons.mpr ⟨bpat_some o4_, fun q_ hq => absurd hq List.not_mem_nil⟩⟩⟩⟩⟩
  have HC : ∀ q_ ∈ xis50B_C, xhold (xis50B_r v2 v3 v4_ v5 v6 v7 v300 v302) q_ := List.forall_mem_cons.mpr ⟨xh_ltT c0_, List.forall_mem_cons.mpr ⟨xh_ltT c1_, fun q_ hq => absurd hq List.not_mem_nil⟩⟩
  rcases yrun (yis_ok xis50B_k) hA Hs Ho HC with ⟨q_, hq, h', K_, G_⟩ | ⟨q_, hq, h', K_, G_⟩
  · have e_ := List.mem_singleton.mp hq
    subst e_
    exact ⟨h', yfr_sm K_.2.2.2 hs K_.1 (ywa_s xis50B_w List.mem_cons_self), ⟨bpat_of (K_.2.1 _ List.mem_cons_self), fun a_ j_ n0_ => yfr_bp K_.2.2.2 (List.forall_mem_cons.mpr ⟨fun e_ => n0_ ⟨e_.1.symm, e_.2.symm⟩, fun q_ hq => absurd hq List.not_mem_nil⟩), G_⟩⟩
  · cases hq
-- xis51B: 35 steps, 1 ends, 0 returns
def xis51B_L : List (Nat × Nat × Nat) := [(1000, 6, 2), (1001, 20, 12)]
def xis51B_O : yO := [(152, .int 2, .arg 302), (152, .int 0, .index 1000), (1000, .int 1, .arg 300), (1000, .int 0, .index 1001), (1001, .sub (.add (.arg 302) (.int 1)) (.int 1), .int 51)]
def xis51B_A : yA := (yZ xis51B_L, [(.sub (.add (.arg 302) (.int 1)) (.int 1), 12)], [], [], [])
def xis51B_C : List xB := [(.lt, .arg 302, .arg 300, true), (.lt, .arg 5, .int 12, true)]
def xis51B_ss : List yS := [(56, [(6, .int 51), (5, .arg 5), (4, .arg 4), (7, .arg 7), (3, .arg 3), (0, .index 152), (1, .index 1000), (2, .arg 2)], [.int 0, .index 152], [(152, .int 2, .add (.arg 302) (.int 1)), (152, .int 0, .index 1000), (1000, .int 1, .arg 300), (1000, .int 0, .index 1001), (1001, .sub (.add (.arg 302) (.int 1)) (.int 1), .int 51)], [(.lt, .arg 302, .arg 300, true), (.lt, .arg 5, .int 12, true)], [(152, .int 2)])]
def xis51B_rs : List yR := []
theorem xis51B_w : ywa xis51B_A xis51B_ss xis51B_rs = true := by decide +kernel
theorem xis51B_k : yis (yev xis51B_A 3000 60 6 [56] (27, [(5, .arg 5), (4, .arg 4), (7, .arg 7), (6, .arg 6), (3, .arg 3), (0, .index 152), (1, .index 1000), (2, .arg 2)], [], xis51B_O, xis51B_C, [])) xis51B_ss xis51B_rs = true := by decide +kernel
def xis51B_r (v2 v3 v4_ v5 v6 v7 v300 v302 : Int32) (k_ : Nat) : Value := bif Nat.beq k_ 2 then .int v2 else (bif Nat.beq k_ 3 then .int v3 else (bif Nat.beq k_ 4 then .int v4_ else (bif Nat.beq k_ 5 then .int v5 else (bif Nat.beq k_ 6 then .int v6 else (bif Nat.beq k_ 7 then .int v7 else (bif Nat.beq k_ 300 then .int v300 else (bif Nat.beq k_ 302 then .int v302 else (.int 0))))))))
def xis51B_s (a1000 a1001 : Nat) (n_ : Nat) : Nat := bif Nat.beq n_ 1000 then a1000 else (bif Nat.beq n_ 1001 then a1001 else (0))
theorem xis51B {h_ : xH} {a1000 a1001 : Nat} {v2 v3 v4_ v5 v6 v7 v300 v302 : Int32} (hs : sHp h_) (k1000 : bcq h_ a1000 6 2) (k1001 : bcq h_ a1001 20 12) (o0_ : bpat h_ 152 2 = some (.int v302)) (o1 : bpat h_ 152 0 = some (.index a1000)) (o2 : bpat h_ a1000 1 = some (.int v300)) (o3_ : bpat h_ a1000 0 = some (.index a1001)) (o4_ : bpat h_ a1001 (((v302 + (1 : Int32)) - (1 : Int32))).toInt.toNat = some (.int (51 : Int32))) (b0 : 0 ≤ (((v302 + (1 : Int32)) - (1 : Int32))).toInt ∧ (((v302 + (1 : Int32)) - (1 : Int32))).toInt < 12) (c0_ : v302.toInt < v300.toInt) (c1_ : v5.toInt < (12 : Int32).toInt) : ∃ h', ysm h_ h' ∧ (((bpat h' 152 2 = some (.int (v302 + (1 : Int32)))) ∧ (∀ a_ j_ : Nat, ¬ (a_ = 152 ∧ j_ = 2) → bpat h' a_ j_ = bpat h_ a_ j_) ∧ (bldD 60 6 27 [(5, .int v5), (4, .int v4_), (7, .int v7), (6, .int v6), (3, .int v3), (0, .index 152), (1, .index a1000), (2, .int v2)] [] h_ 56 [(6, .int (51 : Int32)), (5, .int v5), (4, .int v4_), (7, .int v7), (3, .int v3), (0, .index 152), (1, .index a1000), (2, .int v2)] [.int (0 : Int32), .index 152] h'))) := by
  have hA : yas xis51B_A (xis51B_r v2 v3 v4_ v5 v6 v7 v300 v302) (yg (xis51B_s a1000 a1001)) := ⟨List.forall_mem_cons.mpr ⟨b0, fun q_ hq => absurd hq List.not_mem_nil⟩, fun q_ hq => absurd hq List.not_mem_nil, fun q_ hq => absurd hq List.not_mem_nil, fun n_ hn => yg_lo hn, fun q_ hq => absurd hq List.not_mem_nil⟩
  have Hs : ysh xis51B_A.1 (yg (xis51B_s a1000 a1001)) h_ := ysh_of2 hs (List.forall_mem_cons.mpr ⟨⟨by decide, k1000⟩, List.forall_mem_cons.mpr ⟨⟨by decide, k1001⟩, fun q_ hq => absurd hq List.not_mem_nil⟩⟩)
  have Ho : ymem (xis51B_r v2 v3 v4_ v5 v6 v7 v300 v302) (yg (xis51B_s a1000 a1001)) xis51B_O h_ := List.forall_mem_cons.mpr ⟨bpat_some o0_, List.forall_mem_cons.mpr ⟨bpat_some o1, List.forall_mem_cons.mpr ⟨bpat_some o2, List.forall_mem_cons.mpr ⟨bpat_some o3_, List.forall_mem_cons.mpr ⟨bpat_some o4_, fun q_ hq => absurd hq List.not_mem_nil⟩⟩⟩⟩⟩
  have HC : ∀ q_ ∈ xis51B_C, xhold (xis51B_r v2 v3 v4_ v5 v6 v7 v300 v302) q_ := List.forall_mem_cons.mpr ⟨xh_ltT c0_, List.forall_mem_cons.mpr ⟨xh_ltT c1_, fun q_ hq => absurd hq List.not_mem_nil⟩⟩
  rcases yrun (yis_ok xis51B_k) hA Hs Ho HC with ⟨q_, hq, h', K_, G_⟩ | ⟨q_, hq, h', K_, G_⟩
  · have e_ := List.mem_singleton.mp hq
    subst e_
    exact ⟨h', yfr_sm K_.2.2.2 hs K_.1 (ywa_s xis51B_w List.mem_cons_self), ⟨bpat_of (K_.2.1 _ List.mem_cons_self), fun a_ j_ n0_ => yfr_bp K_.2.2.2 (List.forall_mem_cons.mpr ⟨fun e_ => n0_ ⟨e_.1.symm, e_.2.symm⟩, fun q_ hq => absurd hq List.not_mem_nil⟩), G_⟩⟩
  · cases hq
-- xisX00B: 15 steps, 0 ends, 1 returns
def xisX00B_L : List (Nat × Nat × Nat) := [(1000, 6, 2)]
def xisX00B_O : yO := [(152, .int 2, .arg 302), (152, .int 0, .index 1000), (1000, .int 1, .arg 300)]
def xisX00B_A : yA := (yZ xisX00B_L, [], [], [], [])
def xisX00B_C : List xB := [(.lt, .arg 302, .arg 300, false), (.lt, .arg 5, .int 12, true)]
def xisX00B_ss : List yS := []
def xisX00B_rs : List yR := [(some (.int 0), [(152, .int 2, .arg 302), (152, .int 0, .index 1000), (1000, .int 1, .arg 300)], [(.lt, .arg 302, .arg 300, false), (.lt, .arg 5, .int 12, true)], [])]
theorem xisX00B_w : ywa xisX00B_A xisX00B_ss xisX00B_rs = true := by decide +kernel
theorem xisX00B_k : yis (yev xisX00B_A 3000 60 6 [] (27, [(5, .arg 5), (4, .int 0), (7, .arg 7), (6, .arg 6), (3, .int 0), (0, .index 152), (1, .index 1000), (2, .arg 2)], [], xisX00B_O, xisX00B_C, [])) xisX00B_ss xisX00B_rs = true := by decide +kernel
def xisX00B_r (v2 v5 v6 v7 v300 v302 : Int32) (k_ : Nat) : Value := bif Nat.beq k_ 2 then .int v2 else (bif Nat.beq k_ 5 then .int v5 else (bif Nat.beq k_ 6 then .int v6 else (bif Nat.beq k_ 7 then .int v7 else (bif Nat.beq k_ 300 then .int v300 else (bif Nat.beq k_ 302 then .int v302 else (.int 0))))))
def xisX00B_s (a1000 : Nat) (n_ : Nat) : Nat := bif Nat.beq n_ 1000 then a1000 else (0)
theorem xisX00B {h_ : xH} {a1000 : Nat} {v2 v5 v6 v7 v300 v302 : Int32} (hs : sHp h_) (k1000 : bcq h_ a1000 6 2) (o0_ : bpat h_ 152 2 = some (.int v302)) (o1 : bpat h_ 152 0 = some (.index a1000)) (o2 : bpat h_ a1000 1 = some (.int v300)) (c0_ : v300.toInt ≤ v302.toInt) (c1_ : v5.toInt < (12 : Int32).toInt) : ∃ h', ysm h_ h' ∧ (((∀ a_ j_ : Nat, bpat h' a_ j_ = bpat h_ a_ j_) ∧ (∀ D_, 60 ≤ D_ → xrun D_ 6 27 [(5, .int v5), (4, .int (0 : Int32)), (7, .int v7), (6, .int v6), (3, .int (0 : Int32)), (0, .index 152), (1, .index a1000), (2, .int v2)] [] h_ (some (.int (0 : Int32)), h', [])))) := by
  have hA : yas xisX00B_A (xisX00B_r v2 v5 v6 v7 v300 v302) (yg (xisX00B_s a1000)) := ⟨fun q_ hq => absurd hq List.not_mem_nil, fun q_ hq => absurd hq List.not_mem_nil, fun q_ hq => absurd hq List.not_mem_nil, fun n_ hn => yg_lo hn, fun q_ hq => absurd hq List.not_mem_nil⟩
  have Hs : ysh xisX00B_A.1 (yg (xisX00B_s a1000)) h_ := ysh_of2 hs (List.forall_mem_cons.mpr ⟨⟨by decide, k1000⟩, fun q_ hq => absurd hq List.not_mem_nil⟩)
  have Ho : ymem (xisX00B_r v2 v5 v6 v7 v300 v302) (yg (xisX00B_s a1000)) xisX00B_O h_ := List.forall_mem_cons.mpr ⟨bpat_some o0_, List.forall_mem_cons.mpr ⟨bpat_some o1, List.forall_mem_cons.mpr ⟨bpat_some o2, fun q_ hq => absurd hq List.not_mem_nil⟩⟩⟩
  have HC : ∀ q_ ∈ xisX00B_C, xhold (xisX00B_r v2 v5 v6 v7 v300 v302) q_ := List.forall_mem_cons.mpr ⟨xh_ltF c0_, List.forall_mem_cons.mpr ⟨xh_ltT c1_, fun q_ hq => absurd hq List.not_mem_nil⟩⟩
  rcases yrun (yis_ok xisX00B_k) hA Hs Ho HC with ⟨q_, hq, h', K_, G_⟩ | ⟨q_, hq, h', K_, G_⟩
  · cases hq
  · have e_ := List.mem_singleton.mp hq
    subst e_
    exact ⟨h', yfr_sm K_.2.2.2 hs K_.1 (ywa_r xisX00B_w List.mem_cons_self), ⟨fun a_ j_ => yfr_bp K_.2.2.2 (fun q_ hq => absurd hq List.not_mem_nil), G_⟩⟩
-- xisX01B: 16 steps, 0 ends, 1 returns
def xisX01B_L : List (Nat × Nat × Nat) := [(1000, 6, 2)]
def xisX01B_O : yO := [(152, .int 2, .arg 302), (152, .int 0, .index 1000), (1000, .int 1, .arg 300)]
def xisX01B_A : yA := (yZ xisX01B_L, [], [], [], [])
def xisX01B_C : List xB := [(.lt, .arg 302, .arg 300, false), (.lt, .arg 5, .int 12, true)]
def xisX01B_ss : List yS := []
def xisX01B_rs : List yR := [(some (.int 1), [(152, .int 2, .arg 302), (152, .int 0, .index 1000), (1000, .int 1, .arg 300)], [(.lt, .arg 302, .arg 300, false), (.lt, .arg 5, .int 12, true)], [])]
theorem xisX01B_w : ywa xisX01B_A xisX01B_ss xisX01B_rs = true := by decide +kernel
theorem xisX01B_k : yis (yev xisX01B_A 3000 60 6 [] (27, [(5, .arg 5), (4, .int 1), (7, .arg 7), (6, .arg 6), (3, .int 0), (0, .index 152), (1, .index 1000), (2, .arg 2)], [], xisX01B_O, xisX01B_C, [])) xisX01B_ss xisX01B_rs = true := by decide +kernel
def xisX01B_r (v2 v5 v6 v7 v300 v302 : Int32) (k_ : Nat) : Value := bif Nat.beq k_ 2 then .int v2 else (bif Nat.beq k_ 5 then .int v5 else (bif Nat.beq k_ 6 then .int v6 else (bif Nat.beq k_ 7 then .int v7 else (bif Nat.beq k_ 300 then .int v300 else (bif Nat.beq k_ 302 then .int v302 else (.int 0))))))
def xisX01B_s (a1000 : Nat) (n_ : Nat) : Nat := bif Nat.beq n_ 1000 then a1000 else (0)
theorem xisX01B {h_ : xH} {a1000 : Nat} {v2 v5 v6 v7 v300 v302 : Int32} (hs : sHp h_) (k1000 : bcq h_ a1000 6 2) (o0_ : bpat h_ 152 2 = some (.int v302)) (o1 : bpat h_ 152 0 = some (.index a1000)) (o2 : bpat h_ a1000 1 = some (.int v300)) (c0_ : v300.toInt ≤ v302.toInt) (c1_ : v5.toInt < (12 : Int32).toInt) : ∃ h', ysm h_ h' ∧ (((∀ a_ j_ : Nat, bpat h' a_ j_ = bpat h_ a_ j_) ∧ (∀ D_, 60 ≤ D_ → xrun D_ 6 27 [(5, .int v5), (4, .int (1 : Int32)), (7, .int v7), (6, .int v6), (3, .int (0 : Int32)), (0, .index 152), (1, .index a1000), (2, .int v2)] [] h_ (some (.int (1 : Int32)), h', [])))) := by
  have hA : yas xisX01B_A (xisX01B_r v2 v5 v6 v7 v300 v302) (yg (xisX01B_s a1000)) := ⟨fun q_ hq => absurd hq List.not_mem_nil, fun q_ hq => absurd hq List.not_mem_nil, fun q_ hq => absurd hq List.not_mem_nil, fun n_ hn => yg_lo hn, fun q_ hq => absurd hq List.not_mem_nil⟩
  have Hs : ysh xisX01B_A.1 (yg (xisX01B_s a1000)) h_ := ysh_of2 hs (List.forall_mem_cons.mpr ⟨⟨by decide, k1000⟩, fun q_ hq => absurd hq List.not_mem_nil⟩)
  have Ho : ymem (xisX01B_r v2 v5 v6 v7 v300 v302) (yg (xisX01B_s a1000)) xisX01B_O h_ := List.forall_mem_cons.mpr ⟨bpat_some o0_, List.forall_mem_cons.mpr ⟨bpat_some o1, List.forall_mem_cons.mpr ⟨bpat_some o2, fun q_ hq => absurd hq List.not_mem_nil⟩⟩⟩
  have HC : ∀ q_ ∈ xisX01B_C, xhold (xisX01B_r v2 v5 v6 v7 v300 v302) q_ := List.forall_mem_cons.mpr ⟨xh_ltF c0_, List.forall_mem_cons.mpr ⟨xh_ltT c1_, fun q_ hq => absurd hq List.not_mem_nil⟩⟩
  rcases yrun (yis_ok xisX01B_k) hA Hs Ho HC with ⟨q_, hq, h', K_, G_⟩ | ⟨q_, hq, h', K_, G_⟩
  · cases hq
  · have e_ := List.mem_singleton.mp hq
    subst e_
    exact ⟨h', yfr_sm K_.2.2.2 hs K_.1 (ywa_r xisX01B_w List.mem_cons_self), ⟨fun a_ j_ => yfr_bp K_.2.2.2 (fun q_ hq => absurd hq List.not_mem_nil), G_⟩⟩
-- xisX10B: 14 steps, 0 ends, 1 returns
def xisX10B_L : List (Nat × Nat × Nat) := [(1000, 6, 2)]
def xisX10B_O : yO := [(152, .int 2, .arg 302), (152, .int 0, .index 1000), (1000, .int 1, .arg 300)]
def xisX10B_A : yA := (yZ xisX10B_L, [], [], [], [])
def xisX10B_C : List xB := [(.lt, .arg 302, .arg 300, false), (.lt, .arg 5, .int 12, true)]
def xisX10B_ss : List yS := []
def xisX10B_rs : List yR := [(some (.int 1), [(152, .int 2, .arg 302), (152, .int 0, .index 1000), (1000, .int 1, .arg 300)], [(.lt, .arg 302, .arg 300, false), (.lt, .arg 5, .int 12, true)], [])]
theorem xisX10B_w : ywa xisX10B_A xisX10B_ss xisX10B_rs = true := by decide +kernel
theorem xisX10B_k : yis (yev xisX10B_A 3000 60 6 [] (27, [(5, .arg 5), (4, .int 0), (7, .arg 7), (6, .arg 6), (3, .int 1), (0, .index 152), (1, .index 1000), (2, .arg 2)], [], xisX10B_O, xisX10B_C, [])) xisX10B_ss xisX10B_rs = true := by decide +kernel
def xisX10B_r (v2 v5 v6 v7 v300 v302 : Int32) (k_ : Nat) : Value := bif Nat.beq k_ 2 then .int v2 else (bif Nat.beq k_ 5 then .int v5 else (bif Nat.beq k_ 6 then .int v6 else (bif Nat.beq k_ 7 then .int v7 else (bif Nat.beq k_ 300 then .int v300 else (bif Nat.beq k_ 302 then .int v302 else (.int 0))))))
def xisX10B_s (a1000 : Nat) (n_ : Nat) : Nat := bif Nat.beq n_ 1000 then a1000 else (0)
theorem xisX10B {h_ : xH} {a1000 : Nat} {v2 v5 v6 v7 v300 v302 : Int32} (hs : sHp h_) (k1000 : bcq h_ a1000 6 2) (o0_ : bpat h_ 152 2 = some (.int v302)) (o1 : bpat h_ 152 0 = some (.index a1000)) (o2 : bpat h_ a1000 1 = some (.int v300)) (c0_ : v300.toInt ≤ v302.toInt) (c1_ : v5.toInt < (12 : Int32).toInt) : ∃ h', ysm h_ h' ∧ (((∀ a_ j_ : Nat, bpat h' a_ j_ = bpat h_ a_ j_) ∧ (∀ D_, 60 ≤ D_ → xrun D_ 6 27 [(5, .int v5), (4, .int (0 : Int32)), (7, .int v7), (6, .int v6), (3, .int (1 : Int32)), (0, .index 152), (1, .index a1000), (2, .int v2)] [] h_ (some (.int (1 : Int32)), h', [])))) := by
  have hA : yas xisX10B_A (xisX10B_r v2 v5 v6 v7 v300 v302) (yg (xisX10B_s a1000)) := ⟨fun q_ hq => absurd hq List.not_mem_nil, fun q_ hq => absurd hq List.not_mem_nil, fun q_ hq => absurd hq List.not_mem_nil, fun n_ hn => yg_lo hn, fun q_ hq => absurd hq List.not_mem_nil⟩
  have Hs : ysh xisX10B_A.1 (yg (xisX10B_s a1000)) h_ := ysh_of2 hs (List.forall_mem_cons.mpr ⟨⟨by decide, k1000⟩, fun q_ hq => absurd hq List.not_mem_nil⟩)
  have Ho : ymem (xisX10B_r v2 v5 v6 v7 v300 v302) (yg (xisX10B_s a1000)) xisX10B_O h_ := List.forall_mem_cons.mpr ⟨bpat_some o0_, List.forall_mem_cons.mpr ⟨bpat_some o1, List.forall_mem_cons.mpr ⟨bpat_some o2, fun q_ hq => absurd hq List.not_mem_nil⟩⟩⟩
  have HC : ∀ q_ ∈ xisX10B_C, xhold (xisX10B_r v2 v5 v6 v7 v300 v302) q_ := List.forall_mem_cons.mpr ⟨xh_ltF c0_, List.forall_mem_cons.mpr ⟨xh_ltT c1_, fun q_ hq => absurd hq List.not_mem_nil⟩⟩
  rcases yrun (yis_ok xisX10B_k) hA Hs Ho HC with ⟨q_, hq, h', K_, G_⟩ | ⟨q_, hq, h', K_, G_⟩
  · cases hq
  · have e_ := List.mem_singleton.mp hq
    subst e_
    exact ⟨h', yfr_sm K_.2.2.2 hs K_.1 (ywa_r xisX10B_w List.mem_cons_self), ⟨fun a_ j_ => yfr_bp K_.2.2.2 (fun q_ hq => absurd hq List.not_mem_nil), G_⟩⟩
-- xisX11B: 14 steps, 0 ends, 1 returns
def xisX11B_L : List (Nat × Nat × Nat) := [(1000, 6, 2)]
def xisX11B_O : yO := [(152, .int 2, .arg 302), (152, .int 0, .index 1000), (1000, .int 1, .arg 300)]
def xisX11B_A : yA := (yZ xisX11B_L, [], [], [], [])
def xisX11B_C : List xB := [(.lt, .arg 302, .arg 300, false), (.lt, .arg 5, .int 12, true)]
def xisX11B_ss : List yS := []
def xisX11B_rs : List yR := [(some (.int 1), [(152, .int 2, .arg 302), (152, .int 0, .index 1000), (1000, .int 1, .arg 300)], [(.lt, .arg 302, .arg 300, false), (.lt, .arg 5, .int 12, true)], [])]
theorem xisX11B_w : ywa xisX11B_A xisX11B_ss xisX11B_rs = true := by decide +kernel
theorem xisX11B_k : yis (yev xisX11B_A 3000 60 6 [] (27, [(5, .arg 5), (4, .int 1), (7, .arg 7), (6, .arg 6), (3, .int 1), (0, .index 152), (1, .index 1000), (2, .arg 2)], [], xisX11B_O, xisX11B_C, [])) xisX11B_ss xisX11B_rs = true := by decide +kernel
def xisX11B_r (v2 v5 v6 v7 v300 v302 : Int32) (k_ : Nat) : Value := bif Nat.beq k_ 2 then .int v2 else (bif Nat.beq k_ 5 then .int v5 else (bif Nat.beq k_ 6 then .int v6 else (bif Nat.beq k_ 7 then .int v7 else (bif Nat.beq k_ 300 then .int v300 else (bif Nat.beq k_ 302 then .int v302 else (.int 0))))))
def xisX11B_s (a1000 : Nat) (n_ : Nat) : Nat := bif Nat.beq n_ 1000 then a1000 else (0)
theorem xisX11B {h_ : xH} {a1000 : Nat} {v2 v5 v6 v7 v300 v302 : Int32} (hs : sHp h_) (k1000 : bcq h_ a1000 6 2) (o0_ : bpat h_ 152 2 = some (.int v302)) (o1 : bpat h_ 152 0 = some (.index a1000)) (o2 : bpat h_ a1000 1 = some (.int v300)) (c0_ : v300.toInt ≤ v302.toInt) (c1_ : v5.toInt < (12 : Int32).toInt) : ∃ h', ysm h_ h' ∧ (((∀ a_ j_ : Nat, bpat h' a_ j_ = bpat h_ a_ j_) ∧ (∀ D_, 60 ≤ D_ → xrun D_ 6 27 [(5, .int v5), (4, .int (1 : Int32)), (7, .int v7), (6, .int v6), (3, .int (1 : Int32)), (0, .index 152), (1, .index a1000), (2, .int v2)] [] h_ (some (.int (1 : Int32)), h', [])))) := by
  have hA : yas xisX11B_A (xisX11B_r v2 v5 v6 v7 v300 v302) (yg (xisX11B_s a1000)) := ⟨fun q_ hq => absurd hq List.not_mem_nil, fun q_ hq => absurd hq List.not_mem_nil, fun q_ hq => absurd hq List.not_mem_nil, fun n_ hn => yg_lo hn, fun q_ hq => absurd hq List.not_mem_nil⟩
  have Hs : ysh xisX11B_A.1 (yg (xisX11B_s a1000)) h_ := ysh_of2 hs (List.forall_mem_cons.mpr ⟨⟨by decide, k1000⟩, fun q_ hq => absurd hq List.not_mem_nil⟩)
  have Ho : ymem (xisX11B_r v2 v5 v6 v7 v300 v302) (yg (xisX11B_s a1000)) xisX11B_O h_ := List.forall_mem_cons.mpr ⟨bpat_some o0_, List.forall_mem_cons.mpr ⟨bpat_some o1, List.forall_mem_cons.mpr ⟨bpat_some o2, fun q_ hq => absurd hq List.not_mem_nil⟩⟩⟩
  have HC : ∀ q_ ∈ xisX11B_C, xhold (xisX11B_r v2 v5 v6 v7 v300 v302) q_ := List.forall_mem_cons.mpr ⟨xh_ltF c0_, List.forall_mem_cons.mpr ⟨xh_ltT c1_, fun q_ hq => absurd hq List.not_mem_nil⟩⟩
  rcases yrun (yis_ok xisX11B_k) hA Hs Ho HC with ⟨q_, hq, h', K_, G_⟩ | ⟨q_, hq, h', K_, G_⟩
  · cases hq
  · have e_ := List.mem_singleton.mp hq
    subst e_
    exact ⟨h', yfr_sm K_.2.2.2 hs K_.1 (ywa_r xisX11B_w List.mem_cons_self), ⟨fun a_ j_ => yfr_bp K_.2.2.2 (fun q_ hq => absurd hq List.not_mem_nil), G_⟩⟩
-- xisMB: 1 steps, 1 ends, 0 returns
def xisMB_L : List (Nat × Nat × Nat) := [(1000, 6, 2)]
def xisMB_O : yO := []
def xisMB_A : yA := (yZ xisMB_L, [], [], [], [])
def xisMB_C : List xB := []
def xisMB_ss : List yS := [(61, [(7, .arg 8), (6, .arg 6), (5, .arg 5), (4, .arg 4), (3, .arg 3), (0, .index 152), (1, .index 1000), (2, .arg 2)], [], [], [], [])]
def xisMB_rs : List yR := []
theorem xisMB_w : ywa xisMB_A xisMB_ss xisMB_rs = true := by decide +kernel
theorem xisMB_k : yis (yev xisMB_A 3000 60 6 [61] (59, [(6, .arg 6), (5, .arg 5), (4, .arg 4), (7, .arg 7), (3, .arg 3), (0, .index 152), (1, .index 1000), (2, .arg 2)], [.arg 8], xisMB_O, xisMB_C, [])) xisMB_ss xisMB_rs = true := by decide +kernel
def xisMB_r (v2 v3 v4_ v5 v6 v7 v8 : Int32) (k_ : Nat) : Value := bif Nat.beq k_ 2 then .int v2 else (bif Nat.beq k_ 3 then .int v3 else (bif Nat.beq k_ 4 then .int v4_ else (bif Nat.beq k_ 5 then .int v5 else (bif Nat.beq k_ 6 then .int v6 else (bif Nat.beq k_ 7 then .int v7 else (bif Nat.beq k_ 8 then .int v8 else (.int 0)))))))
def xisMB_s (a1000 : Nat) (n_ : Nat) : Nat := bif Nat.beq n_ 1000 then a1000 else (0)
theorem xisMB {h_ : xH} {a1000 : Nat} {v2 v3 v4_ v5 v6 v7 v8 : Int32} (hs : sHp h_) (k1000 : bcq h_ a1000 6 2) : ∃ h', ysm h_ h' ∧ (((∀ a_ j_ : Nat, bpat h' a_ j_ = bpat h_ a_ j_) ∧ (bldD 60 6 59 [(6, .int v6), (5, .int v5), (4, .int v4_), (7, .int v7), (3, .int v3), (0, .index 152), (1, .index a1000), (2, .int v2)] [.int v8] h_ 61 [(7, .int v8), (6, .int v6), (5, .int v5), (4, .int v4_), (3, .int v3), (0, .index 152), (1, .index a1000), (2, .int v2)] [] h'))) := by
  have hA : yas xisMB_A (xisMB_r v2 v3 v4_ v5 v6 v7 v8) (yg (xisMB_s a1000)) := ⟨fun q_ hq => absurd hq List.not_mem_nil, fun q_ hq => absurd hq List.not_mem_nil, fun q_ hq => absurd hq List.not_mem_nil, fun n_ hn => yg_lo hn, fun q_ hq => absurd hq List.not_mem_nil⟩
  have Hs : ysh xisMB_A.1 (yg (xisMB_s a1000)) h_ := ysh_of2 hs (List.forall_mem_cons.mpr ⟨⟨by decide, k1000⟩, fun q_ hq => absurd hq List.not_mem_nil⟩)
  have Ho : ymem (xisMB_r v2 v3 v4_ v5 v6 v7 v8) (yg (xisMB_s a1000)) xisMB_O h_ := fun q_ hq => absurd hq List.not_mem_nil
  have HC : ∀ q_ ∈ xisMB_C, xhold (xisMB_r v2 v3 v4_ v5 v6 v7 v8) q_ := fun q_ hq => absurd hq List.not_mem_nil
  rcases yrun (yis_ok xisMB_k) hA Hs Ho HC with ⟨q_, hq, h', K_, G_⟩ | ⟨q_, hq, h', K_, G_⟩
  · have e_ := List.mem_singleton.mp hq
    subst e_
    exact ⟨h', yfr_sm K_.2.2.2 hs K_.1 (ywa_s xisMB_w List.mem_cons_self), ⟨fun a_ j_ => yfr_bp K_.2.2.2 (fun q_ hq => absurd hq List.not_mem_nil), G_⟩⟩
  · cases hq
-- xis50C: 35 steps, 1 ends, 0 returns
def xis50C_L : List (Nat × Nat × Nat) := [(1000, 6, 2), (1001, 20, 12)]
def xis50C_O : yO := [(152, .int 2, .arg 302), (152, .int 0, .index 1000), (1000, .int 1, .arg 300), (1000, .int 0, .index 1001), (1001, .sub (.add (.arg 302) (.int 1)) (.int 1), .int 50)]
def xis50C_A : yA := (yZ xis50C_L, [(.sub (.add (.arg 302) (.int 1)) (.int 1), 12)], [], [], [])
def xis50C_C : List xB := [(.lt, .arg 302, .arg 300, true), (.lt, .arg 5, .int 12, true)]
def xis50C_ss : List yS := [(56, [(6, .int 50), (5, .arg 5), (4, .arg 4), (3, .arg 3), (7, .arg 7), (0, .index 152), (1, .index 1000), (2, .arg 2)], [.int 0, .index 152], [(152, .int 2, .add (.arg 302) (.int 1)), (152, .int 0, .index 1000), (1000, .int 1, .arg 300), (1000, .int 0, .index 1001), (1001, .sub (.add (.arg 302) (.int 1)) (.int 1), .int 50)], [(.lt, .arg 302, .arg 300, true), (.lt, .arg 5, .int 12, true)], [(152, .int 2)])]
def xis50C_rs : List yR := []
theorem xis50C_w : ywa xis50C_A xis50C_ss xis50C_rs = true := by decide +kernel
theorem xis50C_k : yis (yev xis50C_A 3000 60 6 [56] (27, [(5, .arg 5), (4, .arg 4), (3, .arg 3), (7, .arg 7), (6, .arg 6), (0, .index 152), (1, .index 1000), (2, .arg 2)], [], xis50C_O, xis50C_C, [])) xis50C_ss xis50C_rs = true := by decide +kernel
def xis50C_r (v2 v3 v4_ v5 v6 v7 v300 v302 : Int32) (k_ : Nat) : Value := bif Nat.beq k_ 2 then .int v2 else (bif Nat.beq k_ 3 then .int v3 else (bif Nat.beq k_ 4 then .int v4_ else (bif Nat.beq k_ 5 then .int v5 else (bif Nat.beq k_ 6 then .int v6 else (bif Nat.beq k_ 7 then .int v7 else (bif Nat.beq k_ 300 then .int v300 else (bif Nat.beq k_ 302 then .int v302 else (.int 0))))))))
def xis50C_s (a1000 a1001 : Nat) (n_ : Nat) : Nat := bif Nat.beq n_ 1000 then a1000 else (bif Nat.beq n_ 1001 then a1001 else (0))
theorem xis50C {h_ : xH} {a1000 a1001 : Nat} {v2 v3 v4_ v5 v6 v7 v300 v302 : Int32} (hs : sHp h_) (k1000 : bcq h_ a1000 6 2) (k1001 : bcq h_ a1001 20 12) (o0_ : bpat h_ 152 2 = some (.int v302)) (o1 : bpat h_ 152 0 = some (.index a1000)) (o2 : bpat h_ a1000 1 = some (.int v300)) (o3_ : bpat h_ a1000 0 = some (.index a1001)) (o4_ : bpat h_ a1001 (((v302 + (1 : Int32)) - (1 : Int32))).toInt.toNat = some (.int (50 : Int32))) (b0 : 0 ≤ (((v302 + (1 : Int32)) - (1 : Int32))).toInt ∧ (((v302 + (1 : Int32)) - (1 : Int32))).toInt < 12) (c0_ : v302.toInt < v300.toInt) (c1_ : v5.toInt < (12 : Int32).toInt) : ∃ h', ysm h_ h' ∧ (((bpat h' 152 2 = some (.int (v302 + (1 : Int32)))) ∧ (∀ a_ j_ : Nat, ¬ (a_ = 152 ∧ j_ = 2) → bpat h' a_ j_ = bpat h_ a_ j_) ∧ (bldD 60 6 27 [(5, .int v5), (4, .int v4_), (3, .int v3), (7, .int v7), (6, .int v6), (0, .index 152), (1, .index a1000), (2, .int v2)] [] h_ 56 [(6, .int (50 : Int32)), (5, .int v5), (4, .int v4_), (3, .int v3), (7, .int v7), (0, .index 152), (1, .index a1000), (2, .int v2)] [.int (0 : Int32), .index 152] h'))) := by
  have hA : yas xis50C_A (xis50C_r v2 v3 v4_ v5 v6 v7 v300 v302) (yg (xis50C_s a1000 a1001)) := ⟨List.forall_mem_cons.mpr ⟨b0, fun q_ hq => absurd hq List.not_mem_nil⟩, fun q_ hq => absurd hq List.not_mem_nil, fun q_ hq => absurd hq List.not_mem_nil, fun n_ hn => yg_lo hn, fun q_ hq => absurd hq List.not_mem_nil⟩
  have Hs : ysh xis50C_A.1 (yg (xis50C_s a1000 a1001)) h_ := ysh_of2 hs (List.forall_mem_cons.mpr ⟨⟨by decide, k1000⟩, List.forall_mem_cons.mpr ⟨⟨by decide, k1001⟩, fun q_ hq => absurd hq List.not_mem_nil⟩⟩)
  have Ho : ymem (xis50C_r v2 v3 v4_ v5 v6 v7 v300 v302) (yg (xis50C_s a1000 a1001)) xis50C_O h_ := List.forall_mem_cons.mpr ⟨bpat_some o0_, List.forall_mem_cons.mpr ⟨bpat_some o1, List.forall_mem_cons.mpr ⟨bpat_some o2, List.forall_mem_cons.mpr ⟨bpat_some o3_, List.forall_mem_cons.mpr ⟨bpat_some o4_, fun q_ hq => absurd hq List.not_mem_nil⟩⟩⟩⟩⟩
  have HC : ∀ q_ ∈ xis50C_C, xhold (xis50C_r v2 v3 v4_ v5 v6 v7 v300 v302) q_ := List.forall_mem_cons.mpr ⟨xh_ltT c0_, List.forall_mem_cons.mpr ⟨xh_ltT c1_, fun q_ hq => absurd hq List.not_mem_nil⟩⟩
  rcases yrun (yis_ok xis50C_k) hA Hs Ho HC with ⟨q_, hq, h', K_, G_⟩ | ⟨q_, hq, h', K_, G_⟩
  · have e_ := List.mem_singleton.mp hq
    subst e_
    exact ⟨h', yfr_sm K_.2.2.2 hs K_.1 (ywa_s xis50C_w List.mem_cons_self), ⟨bpat_of (K_.2.1 _ List.mem_cons_self), fun a_ j_ n0_ => yfr_bp K_.2.2.2 (List.forall_mem_cons.mpr ⟨fun e_ => n0_ ⟨e_.1.symm, e_.2.symm⟩, fun q_ hq => absurd hq List.not_mem_nil⟩), G_⟩⟩
  · cases hq
-- xis51C: 35 steps, 1 ends, 0 returns
def xis51C_L : List (Nat × Nat × Nat) := [(1000, 6, 2), (1001, 20, 12)]
def xis51C_O : yO := [(152, .int 2, .arg 302), (152, .int 0, .index 1000), (1000, .int 1, .arg 300), (1000, .int 0, .index 1001), (1001, .sub (.add (.arg 302) (.int 1)) (.int 1), .int 51)]
def xis51C_A : yA := (yZ xis51C_L, [(.sub (.add (.arg 302) (.int 1)) (.int 1), 12)], [], [], [])
def xis51C_C : List xB := [(.lt, .arg 302, .arg 300, true), (.lt, .arg 5, .int 12, true)]
def xis51C_ss : List yS := [(56, [(6, .int 51), (5, .arg 5), (4, .arg 4), (3, .arg 3), (7, .arg 7), (0, .index 152), (1, .index 1000), (2, .arg 2)], [.int 0, .index 152], [(152, .int 2, .add (.arg 302) (.int 1)), (152, .int 0, .index 1000), (1000, .int 1, .arg 300), (1000, .int 0, .index 1001), (1001, .sub (.add (.arg 302) (.int 1)) (.int 1), .int 51)], [(.lt, .arg 302, .arg 300, true), (.lt, .arg 5, .int 12, true)], [(152, .int 2)])]
def xis51C_rs : List yR := []
theorem xis51C_w : ywa xis51C_A xis51C_ss xis51C_rs = true := by decide +kernel
theorem xis51C_k : yis (yev xis51C_A 3000 60 6 [56] (27, [(5, .arg 5), (4, .arg 4), (3, .arg 3), (7, .arg 7), (6, .arg 6), (0, .index 152), (1, .index 1000), (2, .arg 2)], [], xis51C_O, xis51C_C, [])) xis51C_ss xis51C_rs = true := by decide +kernel
def xis51C_r (v2 v3 v4_ v5 v6 v7 v300 v302 : Int32) (k_ : Nat) : Value := bif Nat.beq k_ 2 then .int v2 else (bif Nat.beq k_ 3 then .int v3 else (bif Nat.beq k_ 4 then .int v4_ else (bif Nat.beq k_ 5 then .int v5 else (bif Nat.beq k_ 6 then .int v6 else (bif Nat.beq k_ 7 then .int v7 else (bif Nat.beq k_ 300 then .int v300 else (bif Nat.beq k_ 302 then .int v302 else (.int 0))))))))
def xis51C_s (a1000 a1001 : Nat) (n_ : Nat) : Nat := bif Nat.beq n_ 1000 then a1000 else (bif Nat.beq n_ 1001 then a1001 else (0))
theorem xis51C {h_ : xH} {a1000 a1001 : Nat} {v2 v3 v4_ v5 v6 v7 v300 v302 : Int32} (hs : sHp h_) (k1000 : bcq h_ a1000 6 2) (k1001 : bcq h_ a1001 20 12) (o0_ : bpat h_ 152 2 = some (.int v302)) (o1 : bpat h_ 152 0 = some (.index a1000)) (o2 : bpat h_ a1000 1 = some (.int v300)) (o3_ : bpat h_ a1000 0 = some (.index a1001)) (o4_ : bpat h_ a1001 (((v302 + (1 : Int32)) - (1 : Int32))).toInt.toNat = some (.int (51 : Int32))) (b0 : 0 ≤ (((v302 + (1 : Int32)) - (1 : Int32))).toInt ∧ (((v302 + (1 : Int32)) - (1 : Int32))).toInt < 12) (c0_ : v302.toInt < v300.toInt) (c1_ : v5.toInt < (12 : Int32).toInt) : ∃ h', ysm h_ h' ∧ (((bpat h' 152 2 = some (.int (v302 + (1 : Int32)))) ∧ (∀ a_ j_ : Nat, ¬ (a_ = 152 ∧ j_ = 2) → bpat h' a_ j_ = bpat h_ a_ j_) ∧ (bldD 60 6 27 [(5, .int v5), (4, .int v4_), (3, .int v3), (7, .int v7), (6, .int v6), (0, .index 152), (1, .index a1000), (2, .int v2)] [] h_ 56 [(6, .int (51 : Int32)), (5, .int v5), (4, .int v4_), (3, .int v3), (7, .int v7), (0, .index 152), (1, .index a1000), (2, .int v2)] [.int (0 : Int32), .index 152] h'))) := by
  have hA : yas xis51C_A (xis51C_r v2 v3 v4_ v5 v6 v7 v300 v302) (yg (xis51C_s a1000 a1001)) := ⟨List.forall_mem_cons.mpr ⟨b0, fun q_ hq => absurd hq List.not_mem_nil⟩, fun q_ hq => absurd hq List.not_mem_nil, fun q_ hq => absurd hq List.not_mem_nil, fun n_ hn => yg_lo hn, fun q_ hq => absurd hq List.not_mem_nil⟩
  have Hs : ysh xis51C_A.1 (yg (xis51C_s a1000 a1001)) h_ := ysh_of2 hs (List.forall_mem_cons.mpr ⟨⟨by decide, k1000⟩, List.forall_mem_cons.mpr ⟨⟨by decide, k1001⟩, fun q_ hq => absurd hq List.not_mem_nil⟩⟩)
  have Ho : ymem (xis51C_r v2 v3 v4_ v5 v6 v7 v300 v302) (yg (xis51C_s a1000 a1001)) xis51C_O h_ := List.forall_mem_cons.mpr ⟨bpat_some o0_, List.forall_mem_cons.mpr ⟨bpat_some o1, List.forall_mem_cons.mpr ⟨bpat_some o2, List.forall_mem_cons.mpr ⟨bpat_some o3_, List.forall_mem_cons.mpr ⟨bpat_some o4_, fun q_ hq => absurd hq List.not_mem_nil⟩⟩⟩⟩⟩
  have HC : ∀ q_ ∈ xis51C_C, xhold (xis51C_r v2 v3 v4_ v5 v6 v7 v300 v302) q_ := List.forall_mem_cons.mpr ⟨xh_ltT c0_, List.forall_mem_cons.mpr ⟨xh_ltT c1_, fun q_ hq => absurd hq List.not_mem_nil⟩⟩
  rcases yrun (yis_ok xis51C_k) hA Hs Ho HC with ⟨q_, hq, h', K_, G_⟩ | ⟨q_, hq, h', K_, G_⟩
  · have e_ := List.mem_singleton.mp hq
    subst e_
    exact ⟨h', yfr_sm K_.2.2.2 hs K_.1 (ywa_s xis51C_w List.mem_cons_self), ⟨bpat_of (K_.2.1 _ List.mem_cons_self), fun a_ j_ n0_ => yfr_bp K_.2.2.2 (List.forall_mem_cons.mpr ⟨fun e_ => n0_ ⟨e_.1.symm, e_.2.symm⟩, fun q_ hq => absurd hq List.not_mem_nil⟩), G_⟩⟩
  · cases hq
-- xisX00C: 15 steps, 0 ends, 1 returns
def xisX00C_L : List (Nat × Nat × Nat) := [(1000, 6, 2)]
def xisX00C_O : yO := [(152, .int 2, .arg 302), (152, .int 0, .index 1000), (1000, .int 1, .arg 300)]
def xisX00C_A : yA := (yZ xisX00C_L, [], [], [], [])
def xisX00C_C : List xB := [(.lt, .arg 302, .arg 300, false), (.lt, .arg 5, .int 12, true)]
def xisX00C_ss : List yS := []
def xisX00C_rs : List yR := [(some (.int 0), [(152, .int 2, .arg 302), (152, .int 0, .index 1000), (1000, .int 1, .arg 300)], [(.lt, .arg 302, .arg 300, false), (.lt, .arg 5, .int 12, true)], [])]
theorem xisX00C_w : ywa xisX00C_A xisX00C_ss xisX00C_rs = true := by decide +kernel
theorem xisX00C_k : yis (yev xisX00C_A 3000 60 6 [] (27, [(5, .arg 5), (4, .int 0), (3, .int 0), (7, .arg 7), (6, .arg 6), (0, .index 152), (1, .index 1000), (2, .arg 2)], [], xisX00C_O, xisX00C_C, [])) xisX00C_ss xisX00C_rs = true := by decide +kernel
def xisX00C_r (v2 v5 v6 v7 v300 v302 : Int32) (k_ : Nat) : Value := bif Nat.beq k_ 2 then .int v2 else (bif Nat.beq k_ 5 then .int v5 else (bif Nat.beq k_ 6 then .int v6 else (bif Nat.beq k_ 7 then .int v7 else (bif Nat.beq k_ 300 then .int v300 else (bif Nat.beq k_ 302 then .int v302 else (.int 0))))))
def xisX00C_s (a1000 : Nat) (n_ : Nat) : Nat := bif Nat.beq n_ 1000 then a1000 else (0)
theorem xisX00C {h_ : xH} {a1000 : Nat} {v2 v5 v6 v7 v300 v302 : Int32} (hs : sHp h_) (k1000 : bcq h_ a1000 6 2) (o0_ : bpat h_ 152 2 = some (.int v302)) (o1 : bpat h_ 152 0 = some (.index a1000)) (o2 : bpat h_ a1000 1 = some (.int v300)) (c0_ : v300.toInt ≤ v302.toInt) (c1_ : v5.toInt < (12 : Int32).toInt) : ∃ h', ysm h_ h' ∧ (((∀ a_ j_ : Nat, bpat h' a_ j_ = bpat h_ a_ j_) ∧ (∀ D_, 60 ≤ D_ → xrun D_ 6 27 [(5, .int v5), (4, .int (0 : Int32)), (3, .int (0 : Int32)), (7, .int v7), (6, .int v6), (0, .index 152), (1, .index a1000), (2, .int v2)] [] h_ (some (.int (0 : Int32)), h', [])))) := by
  have hA : yas xisX00C_A (xisX00C_r v2 v5 v6 v7 v300 v302) (yg (xisX00C_s a1000)) := ⟨fun q_ hq => absurd hq List.not_mem_nil, fun q_ hq => absurd hq List.not_mem_nil, fun q_ hq => absurd hq List.not_mem_nil, fun n_ hn => yg_lo hn, fun q_ hq => absurd hq List.not_mem_nil⟩
  have Hs : ysh xisX00C_A.1 (yg (xisX00C_s a1000)) h_ := ysh_of2 hs (List.forall_mem_cons.mpr ⟨⟨by decide, k1000⟩, fun q_ hq => absurd hq List.not_mem_nil⟩)
  have Ho : ymem (xisX00C_r v2 v5 v6 v7 v300 v302) (yg (xisX00C_s a1000)) xisX00C_O h_ := List.forall_mem_cons.mpr ⟨bpat_some o0_, List.forall_mem_cons.mpr ⟨bpat_some o1, List.forall_mem_cons.mpr ⟨bpat_some o2, fun q_ hq => absurd hq List.not_mem_nil⟩⟩⟩
  have HC : ∀ q_ ∈ xisX00C_C, xhold (xisX00C_r v2 v5 v6 v7 v300 v302) q_ := List.forall_mem_cons.mpr ⟨xh_ltF c0_, List.forall_mem_cons.mpr ⟨xh_ltT c1_, fun q_ hq => absurd hq List.not_mem_nil⟩⟩
  rcases yrun (yis_ok xisX00C_k) hA Hs Ho HC with ⟨q_, hq, h', K_, G_⟩ | ⟨q_, hq, h', K_, G_⟩
  · cases hq
  · have e_ := List.mem_singleton.mp hq
    subst e_
    exact ⟨h', yfr_sm K_.2.2.2 hs K_.1 (ywa_r xisX00C_w List.mem_cons_self), ⟨fun a_ j_ => yfr_bp K_.2.2.2 (fun q_ hq => absurd hq List.not_mem_nil), G_⟩⟩
-- xisX01C: 16 steps, 0 ends, 1 returns
def xisX01C_L : List (Nat × Nat × Nat) := [(1000, 6, 2)]
def xisX01C_O : yO := [(152, .int 2, .arg 302), (152, .int 0, .index 1000), (1000, .int 1, .arg 300)]
def xisX01C_A : yA := (yZ xisX01C_L, [], [], [], [])
def xisX01C_C : List xB := [(.lt, .arg 302, .arg 300, false), (.lt, .arg 5, .int 12, true)]
def xisX01C_ss : List yS := []
def xisX01C_rs : List yR := [(some (.int 1), [(152, .int 2, .arg 302), (152, .int 0, .index 1000), (1000, .int 1, .arg 300)], [(.lt, .arg 302, .arg 300, false), (.lt, .arg 5, .int 12, true)], [])]
theorem xisX01C_w : ywa xisX01C_A xisX01C_ss xisX01C_rs = true := by decide +kernel
theorem xisX01C_k : yis (yev xisX01C_A 3000 60 6 [] (27, [(5, .arg 5), (4, .int 1), (3, .int 0), (7, .arg 7), (6, .arg 6), (0, .index 152), (1, .index 1000), (2, .arg 2)], [], xisX01C_O, xisX01C_C, [])) xisX01C_ss xisX01C_rs = true := by decide +kernel
def xisX01C_r (v2 v5 v6 v7 v300 v302 : Int32) (k_ : Nat) : Value := bif Nat.beq k_ 2 then .int v2 else (bif Nat.beq k_ 5 then .int v5 else (bif Nat.beq k_ 6 then .int v6 else (bif Nat.beq k_ 7 then .int v7 else (bif Nat.beq k_ 300 then .int v300 else (bif Nat.beq k_ 302 then .int v302 else (.int 0))))))
def xisX01C_s (a1000 : Nat) (n_ : Nat) : Nat := bif Nat.beq n_ 1000 then a1000 else (0)
theorem xisX01C {h_ : xH} {a1000 : Nat} {v2 v5 v6 v7 v300 v302 : Int32} (hs : sHp h_) (k1000 : bcq h_ a1000 6 2) (o0_ : bpat h_ 152 2 = some (.int v302)) (o1 : bpat h_ 152 0 = some (.index a1000)) (o2 : bpat h_ a1000 1 = some (.int v300)) (c0_ : v300.toInt ≤ v302.toInt) (c1_ : v5.toInt < (12 : Int32).toInt) : ∃ h', ysm h_ h' ∧ (((∀ a_ j_ : Nat, bpat h' a_ j_ = bpat h_ a_ j_) ∧ (∀ D_, 60 ≤ D_ → xrun D_ 6 27 [(5, .int v5), (4, .int (1 : Int32)), (3, .int (0 : Int32)), (7, .int v7), (6, .int v6), (0, .index 152), (1, .index a1000), (2, .int v2)] [] h_ (some (.int (1 : Int32)), h', [])))) := by
  have hA : yas xisX01C_A (xisX01C_r v2 v5 v6 v7 v300 v302) (yg (xisX01C_s a1000)) := ⟨fun q_ hq => absurd hq List.not_mem_nil, fun q_ hq => absurd hq List.not_mem_nil, fun q_ hq => absurd hq List.not_mem_nil, fun n_ hn => yg_lo hn, fun q_ hq => absurd hq List.not_mem_nil⟩
  have Hs : ysh xisX01C_A.1 (yg (xisX01C_s a1000)) h_ := ysh_of2 hs (List.forall_mem_cons.mpr ⟨⟨by decide, k1000⟩, fun q_ hq => absurd hq List.not_mem_nil⟩)
  have Ho : ymem (xisX01C_r v2 v5 v6 v7 v300 v302) (yg (xisX01C_s a1000)) xisX01C_O h_ := List.forall_mem_cons.mpr ⟨bpat_some o0_, List.forall_mem_cons.mpr ⟨bpat_some o1, List.forall_mem_cons.mpr ⟨bpat_some o2, fun q_ hq => absurd hq List.not_mem_nil⟩⟩⟩
  have HC : ∀ q_ ∈ xisX01C_C, xhold (xisX01C_r v2 v5 v6 v7 v300 v302) q_ := List.forall_mem_cons.mpr ⟨xh_ltF c0_, List.forall_mem_cons.mpr ⟨xh_ltT c1_, fun q_ hq => absurd hq List.not_mem_nil⟩⟩
  rcases yrun (yis_ok xisX01C_k) hA Hs Ho HC with ⟨q_, hq, h', K_, G_⟩ | ⟨q_, hq, h', K_, G_⟩
  · cases hq
  · have e_ := List.mem_singleton.mp hq
    subst e_
    exact ⟨h', yfr_sm K_.2.2.2 hs K_.1 (ywa_r xisX01C_w List.mem_cons_self), ⟨fun a_ j_ => yfr_bp K_.2.2.2 (fun q_ hq => absurd hq List.not_mem_nil), G_⟩⟩
-- xisX10C: 14 steps, 0 ends, 1 returns
def xisX10C_L : List (Nat × Nat × Nat) := [(1000, 6, 2)]
def xisX10C_O : yO := [(152, .int 2, .arg 302), (152, .int 0, .index 1000), (1000, .int 1, .arg 300)]
def xisX10C_A : yA := (yZ xisX10C_L, [], [], [], [])
def xisX10C_C : List xB := [(.lt, .arg 302, .arg 300, false), (.lt, .arg 5, .int 12, true)]
def xisX10C_ss : List yS := []
def xisX10C_rs : List yR := [(some (.int 1), [(152, .int 2, .arg 302), (152, .int 0, .index 1000), (1000, .int 1, .arg 300)], [(.lt, .arg 302, .arg 300, false), (.lt, .arg 5, .int 12, true)], [])]
theorem xisX10C_w : ywa xisX10C_A xisX10C_ss xisX10C_rs = true := by decide +kernel
theorem xisX10C_k : yis (yev xisX10C_A 3000 60 6 [] (27, [(5, .arg 5), (4, .int 0), (3, .int 1), (7, .arg 7), (6, .arg 6), (0, .index 152), (1, .index 1000), (2, .arg 2)], [], xisX10C_O, xisX10C_C, [])) xisX10C_ss xisX10C_rs = true := by decide +kernel
def xisX10C_r (v2 v5 v6 v7 v300 v302 : Int32) (k_ : Nat) : Value := bif Nat.beq k_ 2 then .int v2 else (bif Nat.beq k_ 5 then .int v5 else (bif Nat.beq k_ 6 then .int v6 else (bif Nat.beq k_ 7 then .int v7 else (bif Nat.beq k_ 300 then .int v300 else (bif Nat.beq k_ 302 then .int v302 else (.int 0))))))
def xisX10C_s (a1000 : Nat) (n_ : Nat) : Nat := bif Nat.beq n_ 1000 then a1000 else (0)
theorem xisX10C {h_ : xH} {a1000 : Nat} {v2 v5 v6 v7 v300 v302 : Int32} (hs : sHp h_) (k1000 : bcq h_ a1000 6 2) (o0_ : bpat h_ 152 2 = some (.int v302)) (o1 : bpat h_ 152 0 = some (.index a1000)) (o2 : bpat h_ a1000 1 = some (.int v300)) (c0_ : v300.toInt ≤ v302.toInt) (c1_ : v5.toInt < (12 : Int32).toInt) : ∃ h', ysm h_ h' ∧ (((∀ a_ j_ : Nat, bpat h' a_ j_ = bpat h_ a_ j_) ∧ (∀ D_, 60 ≤ D_ → xrun D_ 6 27 [(5, .int v5), (4, .int (0 : Int32)), (3, .int (1 : Int32)), (7, .int v7), (6, .int v6), (0, .index 152), (1, .index a1000), (2, .int v2)] [] h_ (some (.int (1 : Int32)), h', [])))) := by
  have hA : yas xisX10C_A (xisX10C_r v2 v5 v6 v7 v300 v302) (yg (xisX10C_s a1000)) := ⟨fun q_ hq => absurd hq List.not_mem_nil, fun q_ hq => absurd hq List.not_mem_nil, fun q_ hq => absurd hq List.not_mem_nil, fun n_ hn => yg_lo hn, fun q_ hq => absurd hq List.not_mem_nil⟩
  have Hs : ysh xisX10C_A.1 (yg (xisX10C_s a1000)) h_ := ysh_of2 hs (List.forall_mem_cons.mpr ⟨⟨by decide, k1000⟩, fun q_ hq => absurd hq List.not_mem_nil⟩)
  have Ho : ymem (xisX10C_r v2 v5 v6 v7 v300 v302) (yg (xisX10C_s a1000)) xisX10C_O h_ := List.forall_mem_cons.mpr ⟨bpat_some o0_, List.forall_mem_cons.mpr ⟨bpat_some o1, List.forall_mem_cons.mpr ⟨bpat_some o2, fun q_ hq => absurd hq List.not_mem_nil⟩⟩⟩
  have HC : ∀ q_ ∈ xisX10C_C, xhold (xisX10C_r v2 v5 v6 v7 v300 v302) q_ := List.forall_mem_cons.mpr ⟨xh_ltF c0_, List.forall_mem_cons.mpr ⟨xh_ltT c1_, fun q_ hq => absurd hq List.not_mem_nil⟩⟩
  rcases yrun (yis_ok xisX10C_k) hA Hs Ho HC with ⟨q_, hq, h', K_, G_⟩ | ⟨q_, hq, h', K_, G_⟩
  · cases hq
  · have e_ := List.mem_singleton.mp hq
    subst e_
    exact ⟨h', yfr_sm K_.2.2.2 hs K_.1 (ywa_r xisX10C_w List.mem_cons_self), ⟨fun a_ j_ => yfr_bp K_.2.2.2 (fun q_ hq => absurd hq List.not_mem_nil), G_⟩⟩
-- xisX11C: 14 steps, 0 ends, 1 returns
def xisX11C_L : List (Nat × Nat × Nat) := [(1000, 6, 2)]
def xisX11C_O : yO := [(152, .int 2, .arg 302), (152, .int 0, .index 1000), (1000, .int 1, .arg 300)]
def xisX11C_A : yA := (yZ xisX11C_L, [], [], [], [])
def xisX11C_C : List xB := [(.lt, .arg 302, .arg 300, false), (.lt, .arg 5, .int 12, true)]
def xisX11C_ss : List yS := []
def xisX11C_rs : List yR := [(some (.int 1), [(152, .int 2, .arg 302), (152, .int 0, .index 1000), (1000, .int 1, .arg 300)], [(.lt, .arg 302, .arg 300, false), (.lt, .arg 5, .int 12, true)], [])]
theorem xisX11C_w : ywa xisX11C_A xisX11C_ss xisX11C_rs = true := by decide +kernel
theorem xisX11C_k : yis (yev xisX11C_A 3000 60 6 [] (27, [(5, .arg 5), (4, .int 1), (3, .int 1), (7, .arg 7), (6, .arg 6), (0, .index 152), (1, .index 1000), (2, .arg 2)], [], xisX11C_O, xisX11C_C, [])) xisX11C_ss xisX11C_rs = true := by decide +kernel
def xisX11C_r (v2 v5 v6 v7 v300 v302 : Int32) (k_ : Nat) : Value := bif Nat.beq k_ 2 then .int v2 else (bif Nat.beq k_ 5 then .int v5 else (bif Nat.beq k_ 6 then .int v6 else (bif Nat.beq k_ 7 then .int v7 else (bif Nat.beq k_ 300 then .int v300 else (bif Nat.beq k_ 302 then .int v302 else (.int 0))))))
def xisX11C_s (a1000 : Nat) (n_ : Nat) : Nat := bif Nat.beq n_ 1000 then a1000 else (0)
theorem xisX11C {h_ : xH} {a1000 : Nat} {v2 v5 v6 v7 v300 v302 : Int32} (hs : sHp h_) (k1000 : bcq h_ a1000 6 2) (o0_ : bpat h_ 152 2 = some (.int v302)) (o1 : bpat h_ 152 0 = some (.index a1000)) (o2 : bpat h_ a1000 1 = some (.int v300)) (c0_ : v300.toInt ≤ v302.toInt) (c1_ : v5.toInt < (12 : Int32).toInt) : ∃ h', ysm h_ h' ∧ (((∀ a_ j_ : Nat, bpat h' a_ j_ = bpat h_ a_ j_) ∧ (∀ D_, 60 ≤ D_ → xrun D_ 6 27 [(5, .int v5), (4, .int (1 : Int32)), (3, .int (1 : Int32)), (7, .int v7), (6, .int v6), (0, .index 152), (1, .index a1000), (2, .int v2)] [] h_ (some (.int (1 : Int32)), h', [])))) := by
  have hA : yas xisX11C_A (xisX11C_r v2 v5 v6 v7 v300 v302) (yg (xisX11C_s a1000)) := ⟨fun q_ hq => absurd hq List.not_mem_nil, fun q_ hq => absurd hq List.not_mem_nil, fun q_ hq => absurd hq List.not_mem_nil, fun n_ hn => yg_lo hn, fun q_ hq => absurd hq List.not_mem_nil⟩
  have Hs : ysh xisX11C_A.1 (yg (xisX11C_s a1000)) h_ := ysh_of2 hs (List.forall_mem_cons.mpr ⟨⟨by decide, k1000⟩, fun q_ hq => absurd hq List.not_mem_nil⟩)
  have Ho : ymem (xisX11C_r v2 v5 v6 v7 v300 v302) (yg (xisX11C_s a1000)) xisX11C_O h_ := List.forall_mem_cons.mpr ⟨bpat_some o0_, List.forall_mem_cons.mpr ⟨bpat_some o1, List.forall_mem_cons.mpr ⟨bpat_some o2, fun q_ hq => absurd hq List.not_mem_nil⟩⟩⟩
  have HC : ∀ q_ ∈ xisX11C_C, xhold (xisX11C_r v2 v5 v6 v7 v300 v302) q_ := List.forall_mem_cons.mpr ⟨xh_ltF c0_, List.forall_mem_cons.mpr ⟨xh_ltT c1_, fun q_ hq => absurd hq List.not_mem_nil⟩⟩
  rcases yrun (yis_ok xisX11C_k) hA Hs Ho HC with ⟨q_, hq, h', K_, G_⟩ | ⟨q_, hq, h', K_, G_⟩
  · cases hq
  · have e_ := List.mem_singleton.mp hq
    subst e_
    exact ⟨h', yfr_sm K_.2.2.2 hs K_.1 (ywa_r xisX11C_w List.mem_cons_self), ⟨fun a_ j_ => yfr_bp K_.2.2.2 (fun q_ hq => absurd hq List.not_mem_nil), G_⟩⟩
-- xisMC: 1 steps, 1 ends, 0 returns
def xisMC_L : List (Nat × Nat × Nat) := [(1000, 6, 2)]
def xisMC_O : yO := []
def xisMC_A : yA := (yZ xisMC_L, [], [], [], [])
def xisMC_C : List xB := []
def xisMC_ss : List yS := [(61, [(7, .arg 8), (6, .arg 6), (5, .arg 5), (4, .arg 4), (3, .arg 3), (0, .index 152), (1, .index 1000), (2, .arg 2)], [], [], [], [])]
def xisMC_rs : List yR := []
theorem xisMC_w : ywa xisMC_A xisMC_ss xisMC_rs = true := by decide +kernel
theorem xisMC_k : yis (yev xisMC_A 3000 60 6 [61] (59, [(6, .arg 6), (5, .arg 5), (4, .arg 4), (3, .arg 3), (7, .arg 7), (0, .index 152), (1, .index 1000), (2, .arg 2)], [.arg 8], xisMC_O, xisMC_C, [])) xisMC_ss xisMC_rs = true := by decide +kernel
def xisMC_r (v2 v3 v4_ v5 v6 v7 v8 : Int32) (k_ : Nat) : Value := bif Nat.beq k_ 2 then .int v2 else (bif Nat.beq k_ 3 then .int v3 else (bif Nat.beq k_ 4 then .int v4_ else (bif Nat.beq k_ 5 then .int v5 else (bif Nat.beq k_ 6 then .int v6 else (bif Nat.beq k_ 7 then .int v7 else (bif Nat.beq k_ 8 then .int v8 else (.int 0)))))))
def xisMC_s (a1000 : Nat) (n_ : Nat) : Nat := bif Nat.beq n_ 1000 then a1000 else (0)
theorem xisMC {h_ : xH} {a1000 : Nat} {v2 v3 v4_ v5 v6 v7 v8 : Int32} (hs : sHp h_) (k1000 : bcq h_ a1000 6 2) : ∃ h', ysm h_ h' ∧ (((∀ a_ j_ : Nat, bpat h' a_ j_ = bpat h_ a_ j_) ∧ (bldD 60 6 59 [(6, .int v6), (5, .int v5), (4, .int v4_), (3, .int v3), (7, .int v7), (0, .index 152), (1, .index a1000), (2, .int v2)] [.int v8] h_ 61 [(7, .int v8), (6, .int v6), (5, .int v5), (4, .int v4_), (3, .int v3), (0, .index 152), (1, .index a1000), (2, .int v2)] [] h'))) := by
  have hA : yas xisMC_A (xisMC_r v2 v3 v4_ v5 v6 v7 v8) (yg (xisMC_s a1000)) := ⟨fun q_ hq => absurd hq List.not_mem_nil, fun q_ hq => absurd hq List.not_mem_nil, fun q_ hq => absurd hq List.not_mem_nil, fun n_ hn => yg_lo hn, fun q_ hq => absurd hq List.not_mem_nil⟩
  have Hs : ysh xisMC_A.1 (yg (xisMC_s a1000)) h_ := ysh_of2 hs (List.forall_mem_cons.mpr ⟨⟨by decide, k1000⟩, fun q_ hq => absurd hq List.not_mem_nil⟩)
  have Ho : ymem (xisMC_r v2 v3 v4_ v5 v6 v7 v8) (yg (xisMC_s a1000)) xisMC_O h_ := fun q_ hq => absurd hq List.not_mem_nil
  have HC : ∀ q_ ∈ xisMC_C, xhold (xisMC_r v2 v3 v4_ v5 v6 v7 v8) q_ := fun q_ hq => absurd hq List.not_mem_nil
  rcases yrun (yis_ok xisMC_k) hA Hs Ho HC with ⟨q_, hq, h', K_, G_⟩ | ⟨q_, hq, h', K_, G_⟩
  · have e_ := List.mem_singleton.mp hq
    subst e_
    exact ⟨h', yfr_sm K_.2.2.2 hs K_.1 (ywa_s xisMC_w List.mem_cons_self), ⟨fun a_ j_ => yfr_bp K_.2.2.2 (fun q_ hq => absurd hq List.not_mem_nil), G_⟩⟩
  · cases hq
-- xisN00: 10 steps, 1 ends, 0 returns
def xisN00_L : List (Nat × Nat × Nat) := [(1000, 6, 2)]
def xisN00_O : yO := []
def xisN00_A : yA := (yZ xisN00_L, [], [], [], [])
def xisN00_C : List xB := []
def xisN00_ss : List yS := [(27, [(5, .add (.arg 5) (.int 1)), (4, .int 0), (7, .int 0), (6, .int 50), (3, .arg 3), (0, .index 152), (1, .index 1000), (2, .arg 2)], [], [], [], [])]
def xisN00_rs : List yR := []
theorem xisN00_w : ywa xisN00_A xisN00_ss xisN00_rs = true := by decide +kernel
theorem xisN00_k : yis (yev xisN00_A 3000 60 6 [27] (61, [(7, .int 0), (6, .int 50), (5, .arg 5), (4, .int 0), (3, .arg 3), (0, .index 152), (1, .index 1000), (2, .arg 2)], [], xisN00_O, xisN00_C, [])) xisN00_ss xisN00_rs = true := by decide +kernel
def xisN00_r (v2 v3 v5 : Int32) (k_ : Nat) : Value := bif Nat.beq k_ 2 then .int v2 else (bif Nat.beq k_ 3 then .int v3 else (bif Nat.beq k_ 5 then .int v5 else (.int 0)))
def xisN00_s (a1000 : Nat) (n_ : Nat) : Nat := bif Nat.beq n_ 1000 then a1000 else (0)
theorem xisN00 {h_ : xH} {a1000 : Nat} {v2 v3 v5 : Int32} (hs : sHp h_) (k1000 : bcq h_ a1000 6 2) : ∃ h', ysm h_ h' ∧ (((∀ a_ j_ : Nat, bpat h' a_ j_ = bpat h_ a_ j_) ∧ (bldD 60 6 61 [(7, .int (0 : Int32)), (6, .int (50 : Int32)), (5, .int v5), (4, .int (0 : Int32)), (3, .int v3), (0, .index 152), (1, .index a1000), (2, .int v2)] [] h_ 27 [(5, .int (v5 + (1 : Int32))), (4, .int (0 : Int32)), (7, .int (0 : Int32)), (6, .int (50 : Int32)), (3, .int v3), (0, .index 152), (1, .index a1000), (2, .int v2)] [] h'))) := by
  have hA : yas xisN00_A (xisN00_r v2 v3 v5) (yg (xisN00_s a1000)) := ⟨fun q_ hq => absurd hq List.not_mem_nil, fun q_ hq => absurd hq List.not_mem_nil, fun q_ hq => absurd hq List.not_mem_nil, fun n_ hn => yg_lo hn, fun q_ hq => absurd hq List.not_mem_nil⟩
  have Hs : ysh xisN00_A.1 (yg (xisN00_s a1000)) h_ := ysh_of2 hs (List.forall_mem_cons.mpr ⟨⟨by decide, k1000⟩, fun q_ hq => absurd hq List.not_mem_nil⟩)
  have Ho : ymem (xisN00_r v2 v3 v5) (yg (xisN00_s a1000)) xisN00_O h_ := fun q_ hq => absurd hq List.not_mem_nil
  have HC : ∀ q_ ∈ xisN00_C, xhold (xisN00_r v2 v3 v5) q_ := fun q_ hq => absurd hq List.not_mem_nil
  rcases yrun (yis_ok xisN00_k) hA Hs Ho HC with ⟨q_, hq, h', K_, G_⟩ | ⟨q_, hq, h', K_, G_⟩
  · have e_ := List.mem_singleton.mp hq
    subst e_
    exact ⟨h', yfr_sm K_.2.2.2 hs K_.1 (ywa_s xisN00_w List.mem_cons_self), ⟨fun a_ j_ => yfr_bp K_.2.2.2 (fun q_ hq => absurd hq List.not_mem_nil), G_⟩⟩
  · cases hq
-- xisO00: 13 steps, 1 ends, 0 returns
def xisO00_L : List (Nat × Nat × Nat) := [(1000, 6, 2)]
def xisO00_O : yO := []
def xisO00_A : yA := (yZ xisO00_L, [], [], [], [])
def xisO00_C : List xB := []
def xisO00_ss : List yS := [(27, [(5, .add (.arg 5) (.int 1)), (4, .arg 7), (3, .int 0), (7, .arg 7), (6, .int 51), (0, .index 152), (1, .index 1000), (2, .arg 2)], [], [], [], [])]
def xisO00_rs : List yR := []
theorem xisO00_w : ywa xisO00_A xisO00_ss xisO00_rs = true := by decide +kernel
theorem xisO00_k : yis (yev xisO00_A 3000 60 6 [27] (61, [(7, .arg 7), (6, .int 51), (5, .arg 5), (4, .int 0), (3, .int 0), (0, .index 152), (1, .index 1000), (2, .arg 2)], [], xisO00_O, xisO00_C, [])) xisO00_ss xisO00_rs = true := by decide +kernel
def xisO00_r (v2 v5 v7 : Int32) (k_ : Nat) : Value := bif Nat.beq k_ 2 then .int v2 else (bif Nat.beq k_ 5 then .int v5 else (bif Nat.beq k_ 7 then .int v7 else (.int 0)))
def xisO00_s (a1000 : Nat) (n_ : Nat) : Nat := bif Nat.beq n_ 1000 then a1000 else (0)
theorem xisO00 {h_ : xH} {a1000 : Nat} {v2 v5 v7 : Int32} (hs : sHp h_) (k1000 : bcq h_ a1000 6 2) : ∃ h', ysm h_ h' ∧ (((∀ a_ j_ : Nat, bpat h' a_ j_ = bpat h_ a_ j_) ∧ (bldD 60 6 61 [(7, .int v7), (6, .int (51 : Int32)), (5, .int v5), (4, .int (0 : Int32)), (3, .int (0 : Int32)), (0, .index 152), (1, .index a1000), (2, .int v2)] [] h_ 27 [(5, .int (v5 + (1 : Int32))), (4, .int v7), (3, .int (0 : Int32)), (7, .int v7), (6, .int (51 : Int32)), (0, .index 152), (1, .index a1000), (2, .int v2)] [] h'))) := by
  have hA : yas xisO00_A (xisO00_r v2 v5 v7) (yg (xisO00_s a1000)) := ⟨fun q_ hq => absurd hq List.not_mem_nil, fun q_ hq => absurd hq List.not_mem_nil, fun q_ hq => absurd hq List.not_mem_nil, fun n_ hn => yg_lo hn, fun q_ hq => absurd hq List.not_mem_nil⟩
  have Hs : ysh xisO00_A.1 (yg (xisO00_s a1000)) h_ := ysh_of2 hs (List.forall_mem_cons.mpr ⟨⟨by decide, k1000⟩, fun q_ hq => absurd hq List.not_mem_nil⟩)
  have Ho : ymem (xisO00_r v2 v5 v7) (yg (xisO00_s a1000)) xisO00_O h_ := fun q_ hq => absurd hq List.not_mem_nil
  have HC : ∀ q_ ∈ xisO00_C, xhold (xisO00_r v2 v5 v7) q_ := fun q_ hq => absurd hq List.not_mem_nil
  rcases yrun (yis_ok xisO00_k) hA Hs Ho HC with ⟨q_, hq, h', K_, G_⟩ | ⟨q_, hq, h', K_, G_⟩
  · have e_ := List.mem_singleton.mp hq
    subst e_
    exact ⟨h', yfr_sm K_.2.2.2 hs K_.1 (ywa_s xisO00_w List.mem_cons_self), ⟨fun a_ j_ => yfr_bp K_.2.2.2 (fun q_ hq => absurd hq List.not_mem_nil), G_⟩⟩
  · cases hq
-- xisN01: 10 steps, 1 ends, 0 returns
def xisN01_L : List (Nat × Nat × Nat) := [(1000, 6, 2)]
def xisN01_O : yO := []
def xisN01_A : yA := (yZ xisN01_L, [], [], [], [])
def xisN01_C : List xB := []
def xisN01_ss : List yS := [(27, [(5, .add (.arg 5) (.int 1)), (4, .int 0), (7, .int 1), (6, .int 50), (3, .arg 3), (0, .index 152), (1, .index 1000), (2, .arg 2)], [], [], [], [])]
def xisN01_rs : List yR := []
theorem xisN01_w : ywa xisN01_A xisN01_ss xisN01_rs = true := by decide +kernel
theorem xisN01_k : yis (yev xisN01_A 3000 60 6 [27] (61, [(7, .int 1), (6, .int 50), (5, .arg 5), (4, .int 0), (3, .arg 3), (0, .index 152), (1, .index 1000), (2, .arg 2)], [], xisN01_O, xisN01_C, [])) xisN01_ss xisN01_rs = true := by decide +kernel
def xisN01_r (v2 v3 v5 : Int32) (k_ : Nat) : Value := bif Nat.beq k_ 2 then .int v2 else (bif Nat.beq k_ 3 then .int v3 else (bif Nat.beq k_ 5 then .int v5 else (.int 0)))
def xisN01_s (a1000 : Nat) (n_ : Nat) : Nat := bif Nat.beq n_ 1000 then a1000 else (0)
theorem xisN01 {h_ : xH} {a1000 : Nat} {v2 v3 v5 : Int32} (hs : sHp h_) (k1000 : bcq h_ a1000 6 2) : ∃ h', ysm h_ h' ∧ (((∀ a_ j_ : Nat, bpat h' a_ j_ = bpat h_ a_ j_) ∧ (bldD 60 6 61 [(7, .int (1 : Int32)), (6, .int (50 : Int32)), (5, .int v5), (4, .int (0 : Int32)), (3, .int v3), (0, .index 152), (1, .index a1000), (2, .int v2)] [] h_ 27 [(5, .int (v5 + (1 : Int32))), (4, .int (0 : Int32)), (7, .int (1 : Int32)), (6, .int (50 : Int32)), (3, .int v3), (0, .index 152), (1, .index a1000), (2, .int v2)] [] h'))) := by
  have hA : yas xisN01_A (xisN01_r v2 v3 v5) (yg (xisN01_s a1000)) := ⟨fun q_ hq => absurd hq List.not_mem_nil, fun q_ hq => absurd hq List.not_mem_nil, fun q_ hq => absurd hq List.not_mem_nil, fun n_ hn => yg_lo hn, fun q_ hq => absurd hq List.not_mem_nil⟩
  have Hs : ysh xisN01_A.1 (yg (xisN01_s a1000)) h_ := ysh_of2 hs (List.forall_mem_cons.mpr ⟨⟨by decide, k1000⟩, fun q_ hq => absurd hq List.not_mem_nil⟩)
  have Ho : ymem (xisN01_r v2 v3 v5) (yg (xisN01_s a1000)) xisN01_O h_ := fun q_ hq => absurd hq List.not_mem_nil
  have HC : ∀ q_ ∈ xisN01_C, xhold (xisN01_r v2 v3 v5) q_ := fun q_ hq => absurd hq List.not_mem_nil
  rcases yrun (yis_ok xisN01_k) hA Hs Ho HC with ⟨q_, hq, h', K_, G_⟩ | ⟨q_, hq, h', K_, G_⟩
  · have e_ := List.mem_singleton.mp hq
    subst e_
    exact ⟨h', yfr_sm K_.2.2.2 hs K_.1 (ywa_s xisN01_w List.mem_cons_self), ⟨fun a_ j_ => yfr_bp K_.2.2.2 (fun q_ hq => absurd hq List.not_mem_nil), G_⟩⟩
  · cases hq
-- xisO01: 14 steps, 1 ends, 0 returns
def xisO01_L : List (Nat × Nat × Nat) := [(1000, 6, 2)]
def xisO01_O : yO := []
def xisO01_A : yA := (yZ xisO01_L, [], [], [], [])
def xisO01_C : List xB := []
def xisO01_ss : List yS := [(27, [(5, .add (.arg 5) (.int 1)), (4, .arg 7), (3, .int 1), (7, .arg 7), (6, .int 51), (0, .index 152), (1, .index 1000), (2, .arg 2)], [], [], [], [])]
def xisO01_rs : List yR := []
theorem xisO01_w : ywa xisO01_A xisO01_ss xisO01_rs = true := by decide +kernel
theorem xisO01_k : yis (yev xisO01_A 3000 60 6 [27] (61, [(7, .arg 7), (6, .int 51), (5, .arg 5), (4, .int 1), (3, .int 0), (0, .index 152), (1, .index 1000), (2, .arg 2)], [], xisO01_O, xisO01_C, [])) xisO01_ss xisO01_rs = true := by decide +kernel
def xisO01_r (v2 v5 v7 : Int32) (k_ : Nat) : Value := bif Nat.beq k_ 2 then .int v2 else (bif Nat.beq k_ 5 then .int v5 else (bif Nat.beq k_ 7 then .int v7 else (.int 0)))
def xisO01_s (a1000 : Nat) (n_ : Nat) : Nat := bif Nat.beq n_ 1000 then a1000 else (0)
theorem xisO01 {h_ : xH} {a1000 : Nat} {v2 v5 v7 : Int32} (hs : sHp h_) (k1000 : bcq h_ a1000 6 2) : ∃ h', ysm h_ h' ∧ (((∀ a_ j_ : Nat, bpat h' a_ j_ = bpat h_ a_ j_) ∧ (bldD 60 6 61 [(7, .int v7), (6, .int (51 : Int32)), (5, .int v5), (4, .int (1 : Int32)), (3, .int (0 : Int32)), (0, .index 152), (1, .index a1000), (2, .int v2)] [] h_ 27 [(5, .int (v5 + (1 : Int32))), (4, .int v7), (3, .int (1 : Int32)), (7, .int v7), (6, .int (51 : Int32)), (0, .index 152), (1, .index a1000), (2, .int v2)] [] h'))) := by
  have hA : yas xisO01_A (xisO01_r v2 v5 v7) (yg (xisO01_s a1000)) := ⟨fun q_ hq => absurd hq List.not_mem_nil, fun q_ hq => absurd hq List.not_mem_nil, fun q_ hq => absurd hq List.not_mem_nil, fun n_ hn => yg_lo hn, fun q_ hq => absurd hq List.not_mem_nil⟩
  have Hs : ysh xisO01_A.1 (yg (xisO01_s a1000)) h_ := ysh_of2 hs (List.forall_mem_cons.mpr ⟨⟨by decide, k1000⟩, fun q_ hq => absurd hq List.not_mem_nil⟩)
  have Ho : ymem (xisO01_r v2 v5 v7) (yg (xisO01_s a1000)) xisO01_O h_ := fun q_ hq => absurd hq List.not_mem_nil
  have HC : ∀ q_ ∈ xisO01_C, xhold (xisO01_r v2 v5 v7) q_ := fun q_ hq => absurd hq List.not_mem_nil
  rcases yrun (yis_ok xisO01_k) hA Hs Ho HC with ⟨q_, hq, h', K_, G_⟩ | ⟨q_, hq, h', K_, G_⟩
  · have e_ := List.mem_singleton.mp hq
    subst e_
    exact ⟨h', yfr_sm K_.2.2.2 hs K_.1 (ywa_s xisO01_w List.mem_cons_self), ⟨fun a_ j_ => yfr_bp K_.2.2.2 (fun q_ hq => absurd hq List.not_mem_nil), G_⟩⟩
  · cases hq
-- xisN10: 12 steps, 1 ends, 0 returns
def xisN10_L : List (Nat × Nat × Nat) := [(1000, 6, 2)]
def xisN10_O : yO := []
def xisN10_A : yA := (yZ xisN10_L, [], [], [], [])
def xisN10_C : List xB := []
def xisN10_ss : List yS := [(27, [(5, .add (.arg 5) (.int 1)), (4, .int 0), (7, .int 0), (6, .int 50), (3, .arg 3), (0, .index 152), (1, .index 1000), (2, .arg 2)], [], [], [], [])]
def xisN10_rs : List yR := []
theorem xisN10_w : ywa xisN10_A xisN10_ss xisN10_rs = true := by decide +kernel
theorem xisN10_k : yis (yev xisN10_A 3000 60 6 [27] (61, [(7, .int 0), (6, .int 50), (5, .arg 5), (4, .int 1), (3, .arg 3), (0, .index 152), (1, .index 1000), (2, .arg 2)], [], xisN10_O, xisN10_C, [])) xisN10_ss xisN10_rs = true := by decide +kernel
def xisN10_r (v2 v3 v5 : Int32) (k_ : Nat) : Value := bif Nat.beq k_ 2 then .int v2 else (bif Nat.beq k_ 3 then .int v3 else (bif Nat.beq k_ 5 then .int v5 else (.int 0)))
def xisN10_s (a1000 : Nat) (n_ : Nat) : Nat := bif Nat.beq n_ 1000 then a1000 else (0)
theorem xisN10 {h_ : xH} {a1000 : Nat} {v2 v3 v5 : Int32} (hs : sHp h_) (k1000 : bcq h_ a1000 6 2) : ∃ h', ysm h_ h' ∧ (((∀ a_ j_ : Nat, bpat h' a_ j_ = bpat h_ a_ j_) ∧ (bldD 60 6 61 [(7, .int (0 : Int32)), (6, .int (50 : Int32)), (5, .int v5), (4, .int (1 : Int32)), (3, .int v3), (0, .index 152), (1, .index a1000), (2, .int v2)] [] h_ 27 [(5, .int (v5 + (1 : Int32))), (4, .int (0 : Int32)), (7, .int (0 : Int32)), (6, .int (50 : Int32)), (3, .int v3), (0, .index 152), (1, .index a1000), (2, .int v2)] [] h'))) := by
  have hA : yas xisN10_A (xisN10_r v2 v3 v5) (yg (xisN10_s a1000)) := ⟨fun q_ hq => absurd hq List.not_mem_nil, fun q_ hq => absurd hq List.not_mem_nil, fun q_ hq => absurd hq List.not_mem_nil, fun n_ hn => yg_lo hn, fun q_ hq => absurd hq List.not_mem_nil⟩
  have Hs : ysh xisN10_A.1 (yg (xisN10_s a1000)) h_ := ysh_of2 hs (List.forall_mem_cons.mpr ⟨⟨by decide, k1000⟩, fun q_ hq => absurd hq List.not_mem_nil⟩)
  have Ho : ymem (xisN10_r v2 v3 v5) (yg (xisN10_s a1000)) xisN10_O h_ := fun q_ hq => absurd hq List.not_mem_nil
  have HC : ∀ q_ ∈ xisN10_C, xhold (xisN10_r v2 v3 v5) q_ := fun q_ hq => absurd hq List.not_mem_nil
  rcases yrun (yis_ok xisN10_k) hA Hs Ho HC with ⟨q_, hq, h', K_, G_⟩ | ⟨q_, hq, h', K_, G_⟩
  · have e_ := List.mem_singleton.mp hq
    subst e_
    exact ⟨h', yfr_sm K_.2.2.2 hs K_.1 (ywa_s xisN10_w List.mem_cons_self), ⟨fun a_ j_ => yfr_bp K_.2.2.2 (fun q_ hq => absurd hq List.not_mem_nil), G_⟩⟩
  · cases hq
-- xisO10: 12 steps, 1 ends, 0 returns
def xisO10_L : List (Nat × Nat × Nat) := [(1000, 6, 2)]
def xisO10_O : yO := []
def xisO10_A : yA := (yZ xisO10_L, [], [], [], [])
def xisO10_C : List xB := []
def xisO10_ss : List yS := [(27, [(5, .add (.arg 5) (.int 1)), (4, .arg 7), (3, .int 1), (7, .arg 7), (6, .int 51), (0, .index 152), (1, .index 1000), (2, .arg 2)], [], [], [], [])]
def xisO10_rs : List yR := []
theorem xisO10_w : ywa xisO10_A xisO10_ss xisO10_rs = true := by decide +kernel
theorem xisO10_k : yis (yev xisO10_A 3000 60 6 [27] (61, [(7, .arg 7), (6, .int 51), (5, .arg 5), (4, .int 0), (3, .int 1), (0, .index 152), (1, .index 1000), (2, .arg 2)], [], xisO10_O, xisO10_C, [])) xisO10_ss xisO10_rs = true := by decide +kernel
def xisO10_r (v2 v5 v7 : Int32) (k_ : Nat) : Value := bif Nat.beq k_ 2 then .int v2 else (bif Nat.beq k_ 5 then .int v5 else (bif Nat.beq k_ 7 then .int v7 else (.int 0)))
def xisO10_s (a1000 : Nat) (n_ : Nat) : Nat := bif Nat.beq n_ 1000 then a1000 else (0)
theorem xisO10 {h_ : xH} {a1000 : Nat} {v2 v5 v7 : Int32} (hs : sHp h_) (k1000 : bcq h_ a1000 6 2) : ∃ h', ysm h_ h' ∧ (((∀ a_ j_ : Nat, bpat h' a_ j_ = bpat h_ a_ j_) ∧ (bldD 60 6 61 [(7, .int v7), (6, .int (51 : Int32)), (5, .int v5), (4, .int (0 : Int32)), (3, .int (1 : Int32)), (0, .index 152), (1, .index a1000), (2, .int v2)] [] h_ 27 [(5, .int (v5 + (1 : Int32))), (4, .int v7), (3, .int (1 : Int32)), (7, .int v7), (6, .int (51 : Int32)), (0, .index 152), (1, .index a1000), (2, .int v2)] [] h'))) := by
  have hA : yas xisO10_A (xisO10_r v2 v5 v7) (yg (xisO10_s a1000)) := ⟨fun q_ hq => absurd hq List.not_mem_nil, fun q_ hq => absurd hq List.not_mem_nil, fun q_ hq => absurd hq List.not_mem_nil, fun n_ hn => yg_lo hn, fun q_ hq => absurd hq List.not_mem_nil⟩
  have Hs : ysh xisO10_A.1 (yg (xisO10_s a1000)) h_ := ysh_of2 hs (List.forall_mem_cons.mpr ⟨⟨by decide, k1000⟩, fun q_ hq => absurd hq List.not_mem_nil⟩)
  have Ho : ymem (xisO10_r v2 v5 v7) (yg (xisO10_s a1000)) xisO10_O h_ := fun q_ hq => absurd hq List.not_mem_nil
  have HC : ∀ q_ ∈ xisO10_C, xhold (xisO10_r v2 v5 v7) q_ := fun q_ hq => absurd hq List.not_mem_nil
  rcases yrun (yis_ok xisO10_k) hA Hs Ho HC with ⟨q_, hq, h', K_, G_⟩ | ⟨q_, hq, h', K_, G_⟩
  · have e_ := List.mem_singleton.mp hq
    subst e_
    exact ⟨h', yfr_sm K_.2.2.2 hs K_.1 (ywa_s xisO10_w List.mem_cons_self), ⟨fun a_ j_ => yfr_bp K_.2.2.2 (fun q_ hq => absurd hq List.not_mem_nil), G_⟩⟩
  · cases hq
-- xisN11: 13 steps, 1 ends, 0 returns
def xisN11_L : List (Nat × Nat × Nat) := [(1000, 6, 2)]
def xisN11_O : yO := []
def xisN11_A : yA := (yZ xisN11_L, [], [], [], [])
def xisN11_C : List xB := []
def xisN11_ss : List yS := [(27, [(5, .add (.arg 5) (.int 1)), (4, .int 1), (7, .int 1), (6, .int 50), (3, .arg 3), (0, .index 152), (1, .index 1000), (2, .arg 2)], [], [], [], [])]
def xisN11_rs : List yR := []
theorem xisN11_w : ywa xisN11_A xisN11_ss xisN11_rs = true := by decide +kernel
theorem xisN11_k : yis (yev xisN11_A 3000 60 6 [27] (61, [(7, .int 1), (6, .int 50), (5, .arg 5), (4, .int 1), (3, .arg 3), (0, .index 152), (1, .index 1000), (2, .arg 2)], [], xisN11_O, xisN11_C, [])) xisN11_ss xisN11_rs = true := by decide +kernel
def xisN11_r (v2 v3 v5 : Int32) (k_ : Nat) : Value := bif Nat.beq k_ 2 then .int v2 else (bif Nat.beq k_ 3 then .int v3 else (bif Nat.beq k_ 5 then .int v5 else (.int 0)))
def xisN11_s (a1000 : Nat) (n_ : Nat) : Nat := bif Nat.beq n_ 1000 then a1000 else (0)
theorem xisN11 {h_ : xH} {a1000 : Nat} {v2 v3 v5 : Int32} (hs : sHp h_) (k1000 : bcq h_ a1000 6 2) : ∃ h', ysm h_ h' ∧ (((∀ a_ j_ : Nat, bpat h' a_ j_ = bpat h_ a_ j_) ∧ (bldD 60 6 61 [(7, .int (1 : Int32)), (6, .int (50 : Int32)), (5, .int v5), (4, .int (1 : Int32)), (3, .int v3), (0, .index 152), (1, .index a1000), (2, .int v2)] [] h_ 27 [(5, .int (v5 + (1 : Int32))), (4, .int (1 : Int32)), (7, .int (1 : Int32)), (6, .int (50 : Int32)), (3, .int v3), (0, .index 152), (1, .index a1000), (2, .int v2)] [] h'))) := by
  have hA : yas xisN11_A (xisN11_r v2 v3 v5) (yg (xisN11_s a1000)) := ⟨fun q_ hq => absurd hq List.not_mem_nil, fun q_ hq => absurd hq List.not_mem_nil, fun q_ hq => absurd hq List.not_mem_nil, fun n_ hn => yg_lo hn, fun q_ hq => absurd hq List.not_mem_nil⟩
  have Hs : ysh xisN11_A.1 (yg (xisN11_s a1000)) h_ := ysh_of2 hs (List.forall_mem_cons.mpr ⟨⟨by decide, k1000⟩, fun q_ hq => absurd hq List.not_mem_nil⟩)
  have Ho : ymem (xisN11_r v2 v3 v5) (yg (xisN11_s a1000)) xisN11_O h_ := fun q_ hq => absurd hq List.not_mem_nil
  have HC : ∀ q_ ∈ xisN11_C, xhold (xisN11_r v2 v3 v5) q_ := fun q_ hq => absurd hq List.not_mem_nil
  rcases yrun (yis_ok xisN11_k) hA Hs Ho HC with ⟨q_, hq, h', K_, G_⟩ | ⟨q_, hq, h', K_, G_⟩
  · have e_ := List.mem_singleton.mp hq
    subst e_
    exact ⟨h', yfr_sm K_.2.2.2 hs K_.1 (ywa_s xisN11_w List.mem_cons_self), ⟨fun a_ j_ => yfr_bp K_.2.2.2 (fun q_ hq => absurd hq List.not_mem_nil), G_⟩⟩
  · cases hq
-- xisO11: 12 steps, 1 ends, 0 returns
def xisO11_L : List (Nat × Nat × Nat) := [(1000, 6, 2)]
def xisO11_O : yO := []
def xisO11_A : yA := (yZ xisO11_L, [], [], [], [])
def xisO11_C : List xB := []
def xisO11_ss : List yS := [(27, [(5, .add (.arg 5) (.int 1)), (4, .arg 7), (3, .int 1), (7, .arg 7), (6, .int 51), (0, .index 152), (1, .index 1000), (2, .arg 2)], [], [], [], [])]
def xisO11_rs : List yR := []
theorem xisO11_w : ywa xisO11_A xisO11_ss xisO11_rs = true := by decide +kernel
theorem xisO11_k : yis (yev xisO11_A 3000 60 6 [27] (61, [(7, .arg 7), (6, .int 51), (5, .arg 5), (4, .int 1), (3, .int 1), (0, .index 152), (1, .index 1000), (2, .arg 2)], [], xisO11_O, xisO11_C, [])) xisO11_ss xisO11_rs = true := by decide +kernel
def xisO11_r (v2 v5 v7 : Int32) (k_ : Nat) : Value := bif Nat.beq k_ 2 then .int v2 else (bif Nat.beq k_ 5 then .int v5 else (bif Nat.beq k_ 7 then .int v7 else (.int 0)))
def xisO11_s (a1000 : Nat) (n_ : Nat) : Nat := bif Nat.beq n_ 1000 then a1000 else (0)
theorem xisO11 {h_ : xH} {a1000 : Nat} {v2 v5 v7 : Int32} (hs : sHp h_) (k1000 : bcq h_ a1000 6 2) : ∃ h', ysm h_ h' ∧ (((∀ a_ j_ : Nat, bpat h' a_ j_ = bpat h_ a_ j_) ∧ (bldD 60 6 61 [(7, .int v7), (6, .int (51 : Int32)), (5, .int v5), (4, .int (1 : Int32)), (3, .int (1 : Int32)), (0, .index 152), (1, .index a1000), (2, .int v2)] [] h_ 27 [(5, .int (v5 + (1 : Int32))), (4, .int v7), (3, .int (1 : Int32)), (7, .int v7), (6, .int (51 : Int32)), (0, .index 152), (1, .index a1000), (2, .int v2)] [] h'))) := by
  have hA : yas xisO11_A (xisO11_r v2 v5 v7) (yg (xisO11_s a1000)) := ⟨fun q_ hq => absurd hq List.not_mem_nil, fun q_ hq => absurd hq List.not_mem_nil, fun q_ hq => absurd hq List.not_mem_nil, fun n_ hn => yg_lo hn, fun q_ hq => absurd hq List.not_mem_nil⟩
  have Hs : ysh xisO11_A.1 (yg (xisO11_s a1000)) h_ := ysh_of2 hs (List.forall_mem_cons.mpr ⟨⟨by decide, k1000⟩, fun q_ hq => absurd hq List.not_mem_nil⟩)
  have Ho : ymem (xisO11_r v2 v5 v7) (yg (xisO11_s a1000)) xisO11_O h_ := fun q_ hq => absurd hq List.not_mem_nil
  have HC : ∀ q_ ∈ xisO11_C, xhold (xisO11_r v2 v5 v7) q_ := fun q_ hq => absurd hq List.not_mem_nil
  rcases yrun (yis_ok xisO11_k) hA Hs Ho HC with ⟨q_, hq, h', K_, G_⟩ | ⟨q_, hq, h', K_, G_⟩
  · have e_ := List.mem_singleton.mp hq
    subst e_
    exact ⟨h', yfr_sm K_.2.2.2 hs K_.1 (ywa_s xisO11_w List.mem_cons_self), ⟨fun a_ j_ => yfr_bp K_.2.2.2 (fun q_ hq => absurd hq List.not_mem_nil), G_⟩⟩
  · cases hq
-- xsyE: 57 steps, 1 ends, 2 returns
def xsyE_L : List (Nat × Nat × Nat) := []
def xsyE_O : yO := [(0, .int 0, .index 1), (1, .int 9, .arg 310), (0, .int 13, .index 323), (323, .int 1, .arg 400), (0, .int 8, .index 314)]
def xsyE_A : yA := (yZ xsyE_L, [], [], [], [])
def xsyE_C : List xB := []
def xsyE_ss : List yS := [(17, [(0, .index 0), (1, .arg 1), (2, .arg 2)], [.index 314, .arg 2, .index 1], [(0, .int 0, .index 1), (1, .int 9, .arg 310), (0, .int 13, .index 323), (323, .int 1, .arg 400), (0, .int 8, .index 314)], [(.lt, .arg 1, .arg 310, true), (.lt, .arg 1, .int 0, false)], [])]
def xsyE_rs : List yR := [(some (.int (Int32.ofInt (-1000001))), [(323, .int 1, .add (.arg 400) (.int 1)), (0, .int 0, .index 1), (1, .int 9, .arg 310), (0, .int 13, .index 323), (0, .int 8, .index 314)], [(.lt, .arg 1, .int 0, true)], [(323, .int 1)]),
  (some (.int (Int32.ofInt (-1000001))), [(323, .int 1, .add (.arg 400) (.int 1)), (0, .int 0, .index 1), (1, .int 9, .arg 310), (0, .int 13, .index 323), (0, .int 8, .index 314)], [(.lt, .arg 1, .arg 310, false), (.lt, .arg 1, .int 0, false)], [(323, .int 1)])]
theorem xsyE_w : ywa xsyE_A xsyE_ss xsyE_rs = true := by decide +kernel
theorem xsyE_k : yis (yev xsyE_A 3000 60 100 [17] (0, [(0, .index 0), (1, .arg 1), (2, .arg 2)], [], xsyE_O, xsyE_C, [])) xsyE_ss xsyE_rs = true := by decide +kernel
def xsyE_r (v1_ v2 v310 v400 : Int32) (k_ : Nat) : Value := bif Nat.beq k_ 1 then .int v1_ else (bif Nat.beq k_ 2 then .int v2 else (bif Nat.beq k_ 310 then .int v310 else (bif Nat.beq k_ 400 then .int v400 else (.int 0))))
def xsyE_s (n_ : Nat) : Nat := 0
theorem xsyE {h_ : xH} {v1_ v2 v310 v400 : Int32} (hs : sHp h_) (o0_ : bpat h_ 1 9 = some (.int v310)) (o1 : bpat h_ 323 1 = some (.int v400)) : ∃ h', ysm h_ h' ∧ (((v1_.toInt < v310.toInt) ∧ ((0 : Int32).toInt ≤ v1_.toInt) ∧ (∀ a_ j_ : Nat, bpat h' a_ j_ = bpat h_ a_ j_) ∧ (bldD 60 100 0 [(0, .index 0), (1, .int v1_), (2, .int v2)] [] h_ 17 [(0, .index 0), (1, .int v1_), (2, .int v2)] [.index 314, .int v2, .index 1] h'))
  ∨ ((v1_.toInt < (0 : Int32).toInt) ∧ (bpat h' 323 1 = some (.int (v400 + (1 : Int32)))) ∧ (∀ a_ j_ : Nat, ¬ (a_ = 323 ∧ j_ = 1) → bpat h' a_ j_ = bpat h_ a_ j_) ∧ (∀ D_, 60 ≤ D_ → xrun D_ 100 0 [(0, .index 0), (1, .int v1_), (2, .int v2)] [] h_ (some (.int (Int32.ofInt (-1000001))), h', [])))
  ∨ ((v310.toInt ≤ v1_.toInt) ∧ ((0 : Int32).toInt ≤ v1_.toInt) ∧ (bpat h' 323 1 = some (.int (v400 + (1 : Int32)))) ∧ (∀ a_ j_ : Nat, ¬ (a_ = 323 ∧ j_ = 1) → bpat h' a_ j_ = bpat h_ a_ j_) ∧ (∀ D_, 60 ≤ D_ → xrun D_ 100 0 [(0, .index 0), (1, .int v1_), (2, .int v2)] [] h_ (some (.int (Int32.ofInt (-1000001))), h', [])))) := by
  have hA : yas xsyE_A (xsyE_r v1_ v2 v310 v400) (yg xsyE_s) := ⟨fun q_ hq => absurd hq List.not_mem_nil, fun q_ hq => absurd hq List.not_mem_nil, fun q_ hq => absurd hq List.not_mem_nil, fun n_ hn => yg_lo hn, fun q_ hq => absurd hq List.not_mem_nil⟩
  have Hs : ysh xsyE_A.1 (yg xsyE_s) h_ := ysh_of2 hs (fun q_ hq => absurd hq List.not_mem_nil)
  have Ho : ymem (xsyE_r v1_ v2 v310 v400) (yg xsyE_s) xsyE_O h_ := List.forall_mem_cons.mpr ⟨bpat_some (fxr_at hs.2 (show fxk fxl 0 0 = some 1 by decide +kernel)), List.forall_mem_cons.mpr ⟨bpat_some o0_, List.forall_mem_cons.mpr ⟨bpat_some (fxr_at hs.2 (show fxk fxl 0 13 = some 323 by decide +kernel)), List.forall_mem_cons.mpr ⟨bpat_some o1, List.forall_mem_cons.mpr ⟨bpat_some (fxr_at hs.2 (show fxk fxl 0 8 = some 314 by decide +kernel)), fun q_ hq => absurd hq List.not_mem_nil⟩⟩⟩⟩⟩
  have HC : ∀ q_ ∈ xsyE_C, xhold (xsyE_r v1_ v2 v310 v400) q_ := fun q_ hq => absurd hq List.not_mem_nil
  rcases yrun (yis_ok xsyE_k) hA Hs Ho HC with ⟨q_, hq, h', K_, G_⟩ | ⟨q_, hq, h', K_, G_⟩
  · have e_ := List.mem_singleton.mp hq
    subst e_
    exact ⟨h', yfr_sm K_.2.2.2 hs K_.1 (ywa_s xsyE_w List.mem_cons_self), Or.inl (⟨xq_ltT rfl rfl (K_.2.2.1 _ List.mem_cons_self), xq_ltF rfl rfl (K_.2.2.1 _ (List.mem_cons_of_mem _ List.mem_cons_self)), fun a_ j_ => yfr_bp K_.2.2.2 (fun q_ hq => absurd hq List.not_mem_nil), G_⟩)⟩
  · rcases List.mem_cons.mp hq with e_ | hq
    · subst e_
      exact ⟨h', yfr_sm K_.2.2.2 hs K_.1 (ywa_r xsyE_w List.mem_cons_self), Or.inr (Or.inl (⟨xq_ltT rfl rfl (K_.2.2.1 _ List.mem_cons_self), bpat_of (K_.2.1 _ List.mem_cons_self), fun a_ j_ n0_ => yfr_bp K_.2.2.2 (List.forall_mem_cons.mpr ⟨fun e_ => n0_ ⟨e_.1.symm, e_.2.symm⟩, fun q_ hq => absurd hq List.not_mem_nil⟩), G_⟩))⟩
    have e_ := List.mem_singleton.mp hq
    subst e_
    exact ⟨h', yfr_sm K_.2.2.2 hs K_.1 (ywa_r xsyE_w (List.mem_cons_of_mem _ List.mem_cons_self)), Or.inr (Or.inr (⟨xq_ltF rfl rfl (K_.2.2.1 _ List.mem_cons_self), xq_ltF rfl rfl (K_.2.2.1 _ (List.mem_cons_of_mem _ List.mem_cons_self)), bpat_of (K_.2.1 _ List.mem_cons_self), fun a_ j_ n0_ => yfr_bp K_.2.2.2 (List.forall_mem_cons.mpr ⟨fun e_ => n0_ ⟨e_.1.symm, e_.2.symm⟩, fun q_ hq => absurd hq List.not_mem_nil⟩), G_⟩))⟩
-- xsyF: 17 steps, 0 ends, 1 returns
def xsyF_L : List (Nat × Nat × Nat) := []
def xsyF_O : yO := [(0, .int 13, .index 323), (323, .int 1, .arg 400)]
def xsyF_A : yA := (yZ xsyF_L, [], [], [], [])
def xsyF_C : List xB := []
def xsyF_ss : List yS := []
def xsyF_rs : List yR := [(some (.int (Int32.ofInt (-1000001))), [(323, .int 1, .add (.arg 400) (.int 1)), (0, .int 13, .index 323)], [], [(323, .int 1)])]
theorem xsyF_w : ywa xsyF_A xsyF_ss xsyF_rs = true := by decide +kernel
theorem xsyF_k : yis (yev xsyF_A 3000 60 100 [] (20, [(0, .index 0), (1, .arg 1), (2, .arg 2)], [.int 0], xsyF_O, xsyF_C, [])) xsyF_ss xsyF_rs = true := by decide +kernel
def xsyF_r (v1_ v2 v400 : Int32) (k_ : Nat) : Value := bif Nat.beq k_ 1 then .int v1_ else (bif Nat.beq k_ 2 then .int v2 else (bif Nat.beq k_ 400 then .int v400 else (.int 0)))
def xsyF_s (n_ : Nat) : Nat := 0
theorem xsyF {h_ : xH} {v1_ v2 v400 : Int32} (hs : sHp h_) (o0_ : bpat h_ 323 1 = some (.int v400)) : ∃ h', ysm h_ h' ∧ (((bpat h' 323 1 = some (.int (v400 + (1 : Int32)))) ∧ (∀ a_ j_ : Nat, ¬ (a_ = 323 ∧ j_ = 1) → bpat h' a_ j_ = bpat h_ a_ j_) ∧ (∀ D_, 60 ≤ D_ → xrun D_ 100 20 [(0, .index 0), (1, .int v1_), (2, .int v2)] [.int (0 : Int32)] h_ (some (.int (Int32.ofInt (-1000001))), h', [])))) := by
  have hA : yas xsyF_A (xsyF_r v1_ v2 v400) (yg xsyF_s) := ⟨fun q_ hq => absurd hq List.not_mem_nil, fun q_ hq => absurd hq List.not_mem_nil, fun q_ hq => absurd hq List.not_mem_nil, fun n_ hn => yg_lo hn, fun q_ hq => absurd hq List.not_mem_nil⟩
  have Hs : ysh xsyF_A.1 (yg xsyF_s) h_ := ysh_of2 hs (fun q_ hq => absurd hq List.not_mem_nil)
  have Ho : ymem (xsyF_r v1_ v2 v400) (yg xsyF_s) xsyF_O h_ := List.forall_mem_cons.mpr ⟨bpat_some (fxr_at hs.2 (show fxk fxl 0 13 = some 323 by decide +kernel)), List.forall_mem_cons.mpr ⟨bpat_some o0_, fun q_ hq => absurd hq List.not_mem_nil⟩⟩
  have HC : ∀ q_ ∈ xsyF_C, xhold (xsyF_r v1_ v2 v400) q_ := fun q_ hq => absurd hq List.not_mem_nil
  rcases yrun (yis_ok xsyF_k) hA Hs Ho HC with ⟨q_, hq, h', K_, G_⟩ | ⟨q_, hq, h', K_, G_⟩
  · cases hq
  · have e_ := List.mem_singleton.mp hq
    subst e_
    exact ⟨h', yfr_sm K_.2.2.2 hs K_.1 (ywa_r xsyF_w List.mem_cons_self), ⟨bpat_of (K_.2.1 _ List.mem_cons_self), fun a_ j_ n0_ => yfr_bp K_.2.2.2 (List.forall_mem_cons.mpr ⟨fun e_ => n0_ ⟨e_.1.symm, e_.2.symm⟩, fun q_ hq => absurd hq List.not_mem_nil⟩), G_⟩⟩
-- xsyG: 12 steps, 1 ends, 0 returns
def xsyG_L : List (Nat × Nat × Nat) := [(1000, 6, 2)]
def xsyG_O : yO := [(0, .int 0, .index 1), (1, .int 0, .index 2), (2, .arg 1, .index 1000), (0, .int 8, .index 314), (0, .int 10, .index 318)]
def xsyG_A : yA := (yZ xsyG_L, [(.arg 1, 12)], [], [], [])
def xsyG_C : List xB := []
def xsyG_ss : List yS := [(50, [(0, .index 0), (1, .arg 1), (2, .arg 2)], [.index 318, .index 314, .index 1000, .index 1], [(0, .int 0, .index 1), (1, .int 0, .index 2), (2, .arg 1, .index 1000), (0, .int 8, .index 314), (0, .int 10, .index 318)], [], [])]
def xsyG_rs : List yR := []
theorem xsyG_w : ywa xsyG_A xsyG_ss xsyG_rs = true := by decide +kernel
theorem xsyG_k : yis (yev xsyG_A 3000 60 100 [50] (20, [(0, .index 0), (1, .arg 1), (2, .arg 2)], [.int 1], xsyG_O, xsyG_C, [])) xsyG_ss xsyG_rs = true := by decide +kernel
def xsyG_r (v1_ v2 : Int32) (k_ : Nat) : Value := bif Nat.beq k_ 1 then .int v1_ else (bif Nat.beq k_ 2 then .int v2 else (.int 0))
def xsyG_s (a1000 : Nat) (n_ : Nat) : Nat := bif Nat.beq n_ 1000 then a1000 else (0)
theorem xsyG {h_ : xH} {a1000 : Nat} {v1_ v2 : Int32} (hs : sHp h_) (k1000 : bcq h_ a1000 6 2) (o0_ : bpat h_ 2 (v1_).toInt.toNat = some (.index a1000)) (b0 : 0 ≤ (v1_).toInt ∧ (v1_).toInt < 12) : ∃ h', ysm h_ h' ∧ (((∀ a_ j_ : Nat, bpat h' a_ j_ = bpat h_ a_ j_) ∧ (bldD 60 100 20 [(0, .index 0), (1, .int v1_), (2, .int v2)] [.int (1 : Int32)] h_ 50 [(0, .index 0), (1, .int v1_), (2, .int v2)] [.index 318, .index 314, .index a1000, .index 1] h'))) := by
  have hA : yas xsyG_A (xsyG_r v1_ v2) (yg (xsyG_s a1000)) := ⟨List.forall_mem_cons.mpr ⟨b0, fun q_ hq => absurd hq List.not_mem_nil⟩, fun q_ hq => absurd hq List.not_mem_nil, fun q_ hq => absurd hq List.not_mem_nil, fun n_ hn => yg_lo hn, fun q_ hq => absurd hq List.not_mem_nil⟩
  have Hs : ysh xsyG_A.1 (yg (xsyG_s a1000)) h_ := ysh_of2 hs (List.forall_mem_cons.mpr ⟨⟨by decide, k1000⟩, fun q_ hq => absurd hq List.not_mem_nil⟩)
  have Ho : ymem (xsyG_r v1_ v2) (yg (xsyG_s a1000)) xsyG_O h_ := List.forall_mem_cons.mpr ⟨bpat_some (fxr_at hs.2 (show fxk fxl 0 0 = some 1 by decide +kernel)), List.forall_mem_cons.mpr ⟨bpat_some (fxr_at hs.2 (show fxk fxl 1 0 = some 2 by decide +kernel)), List.forall_mem_cons.mpr ⟨bpat_some o0_, List.forall_mem_cons.mpr ⟨bpat_some (fxr_at hs.2 (show fxk fxl 0 8 = some 314 by decide +kernel)), List.forall_mem_cons.mpr ⟨bpat_some (fxr_at hs.2 (show fxk fxl 0 10 = some 318 by decide +kernel)), fun q_ hq => absurd hq List.not_mem_nil⟩⟩⟩⟩⟩
  have HC : ∀ q_ ∈ xsyG_C, xhold (xsyG_r v1_ v2) q_ := fun q_ hq => absurd hq List.not_mem_nil
  rcases yrun (yis_ok xsyG_k) hA Hs Ho HC with ⟨q_, hq, h', K_, G_⟩ | ⟨q_, hq, h', K_, G_⟩
  · have e_ := List.mem_singleton.mp hq
    subst e_
    exact ⟨h', yfr_sm K_.2.2.2 hs K_.1 (ywa_s xsyG_w List.mem_cons_self), ⟨fun a_ j_ => yfr_bp K_.2.2.2 (fun q_ hq => absurd hq List.not_mem_nil), G_⟩⟩
  · cases hq
-- xsyH: 4 steps, 1 ends, 0 returns
def xsyH_L : List (Nat × Nat × Nat) := []
def xsyH_O : yO := [(0, .int 3, .index 152), (0, .int 10, .index 318)]
def xsyH_A : yA := (yZ xsyH_L, [], [], [], [])
def xsyH_C : List xB := []
def xsyH_ss : List yS := [(61, [(0, .index 0), (1, .arg 1), (2, .arg 2)], [.index 318, .index 152], [(0, .int 3, .index 152), (0, .int 10, .index 318)], [], [])]
def xsyH_rs : List yR := []
theorem xsyH_w : ywa xsyH_A xsyH_ss xsyH_rs = true := by decide +kernel
theorem xsyH_k : yis (yev xsyH_A 3000 60 100 [61] (53, [(0, .index 0), (1, .arg 1), (2, .arg 2)], [], xsyH_O, xsyH_C, [])) xsyH_ss xsyH_rs = true := by decide +kernel
def xsyH_r (v1_ v2 : Int32) (k_ : Nat) : Value := bif Nat.beq k_ 1 then .int v1_ else (bif Nat.beq k_ 2 then .int v2 else (.int 0))
def xsyH_s (n_ : Nat) : Nat := 0
theorem xsyH {h_ : xH} {v1_ v2 : Int32} (hs : sHp h_) : ∃ h', ysm h_ h' ∧ (((∀ a_ j_ : Nat, bpat h' a_ j_ = bpat h_ a_ j_) ∧ (bldD 60 100 53 [(0, .index 0), (1, .int v1_), (2, .int v2)] [] h_ 61 [(0, .index 0), (1, .int v1_), (2, .int v2)] [.index 318, .index 152] h'))) := by
  have hA : yas xsyH_A (xsyH_r v1_ v2) (yg xsyH_s) := ⟨fun q_ hq => absurd hq List.not_mem_nil, fun q_ hq => absurd hq List.not_mem_nil, fun q_ hq => absurd hq List.not_mem_nil, fun n_ hn => yg_lo hn, fun q_ hq => absurd hq List.not_mem_nil⟩
  have Hs : ysh xsyH_A.1 (yg xsyH_s) h_ := ysh_of2 hs (fun q_ hq => absurd hq List.not_mem_nil)
  have Ho : ymem (xsyH_r v1_ v2) (yg xsyH_s) xsyH_O h_ := List.forall_mem_cons.mpr ⟨bpat_some (fxr_at hs.2 (show fxk fxl 0 3 = some 152 by decide +kernel)), List.forall_mem_cons.mpr ⟨bpat_some (fxr_at hs.2 (show fxk fxl 0 10 = some 318 by decide +kernel)), fun q_ hq => absurd hq List.not_mem_nil⟩⟩
  have HC : ∀ q_ ∈ xsyH_C, xhold (xsyH_r v1_ v2) q_ := fun q_ hq => absurd hq List.not_mem_nil
  rcases yrun (yis_ok xsyH_k) hA Hs Ho HC with ⟨q_, hq, h', K_, G_⟩ | ⟨q_, hq, h', K_, G_⟩
  · have e_ := List.mem_singleton.mp hq
    subst e_
    exact ⟨h', yfr_sm K_.2.2.2 hs K_.1 (ywa_s xsyH_w List.mem_cons_self), ⟨fun a_ j_ => yfr_bp K_.2.2.2 (fun q_ hq => absurd hq List.not_mem_nil), G_⟩⟩
  · cases hq
-- xsyN: 17 steps, 0 ends, 1 returns
def xsyN_L : List (Nat × Nat × Nat) := []
def xsyN_O : yO := [(0, .int 13, .index 323), (323, .int 2, .arg 400)]
def xsyN_A : yA := (yZ xsyN_L, [], [], [], [])
def xsyN_C : List xB := [(.lt, .arg 5, .int 0, false)]
def xsyN_ss : List yS := []
def xsyN_rs : List yR := [(some (.int (Int32.ofInt (-1000002))), [(323, .int 2, .add (.arg 400) (.int 1)), (0, .int 13, .index 323)], [(.lt, .arg 5, .int 0, false)], [(323, .int 2)])]
theorem xsyN_w : ywa xsyN_A xsyN_ss xsyN_rs = true := by decide +kernel
theorem xsyN_k : yis (yev xsyN_A 3000 60 100 [] (64, [(0, .index 0), (1, .arg 1), (2, .arg 2)], [.arg 5], xsyN_O, xsyN_C, [])) xsyN_ss xsyN_rs = true := by decide +kernel
def xsyN_r (v1_ v2 v5 v400 : Int32) (k_ : Nat) : Value := bif Nat.beq k_ 1 then .int v1_ else (bif Nat.beq k_ 2 then .int v2 else (bif Nat.beq k_ 5 then .int v5 else (bif Nat.beq k_ 400 then .int v400 else (.int 0))))
def xsyN_s (n_ : Nat) : Nat := 0
theorem xsyN {h_ : xH} {v1_ v2 v5 v400 : Int32} (hs : sHp h_) (o0_ : bpat h_ 323 2 = some (.int v400)) (c0_ : (0 : Int32).toInt ≤ v5.toInt) : ∃ h', ysm h_ h' ∧ (((bpat h' 323 2 = some (.int (v400 + (1 : Int32)))) ∧ (∀ a_ j_ : Nat, ¬ (a_ = 323 ∧ j_ = 2) → bpat h' a_ j_ = bpat h_ a_ j_) ∧ (∀ D_, 60 ≤ D_ → xrun D_ 100 64 [(0, .index 0), (1, .int v1_), (2, .int v2)] [.int v5] h_ (some (.int (Int32.ofInt (-1000002))), h', [])))) := by
  have hA : yas xsyN_A (xsyN_r v1_ v2 v5 v400) (yg xsyN_s) := ⟨fun q_ hq => absurd hq List.not_mem_nil, fun q_ hq => absurd hq List.not_mem_nil, fun q_ hq => absurd hq List.not_mem_nil, fun n_ hn => yg_lo hn, fun q_ hq => absurd hq List.not_mem_nil⟩
  have Hs : ysh xsyN_A.1 (yg xsyN_s) h_ := ysh_of2 hs (fun q_ hq => absurd hq List.not_mem_nil)
  have Ho : ymem (xsyN_r v1_ v2 v5 v400) (yg xsyN_s) xsyN_O h_ := List.forall_mem_cons.mpr ⟨bpat_some (fxr_at hs.2 (show fxk fxl 0 13 = some 323 by decide +kernel)), List.forall_mem_cons.mpr ⟨bpat_some o0_, fun q_ hq => absurd hq List.not_mem_nil⟩⟩
  have HC : ∀ q_ ∈ xsyN_C, xhold (xsyN_r v1_ v2 v5 v400) q_ := List.forall_mem_cons.mpr ⟨xh_ltF c0_, fun q_ hq => absurd hq List.not_mem_nil⟩
  rcases yrun (yis_ok xsyN_k) hA Hs Ho HC with ⟨q_, hq, h', K_, G_⟩ | ⟨q_, hq, h', K_, G_⟩
  · cases hq
  · have e_ := List.mem_singleton.mp hq
    subst e_
    exact ⟨h', yfr_sm K_.2.2.2 hs K_.1 (ywa_r xsyN_w List.mem_cons_self), ⟨bpat_of (K_.2.1 _ List.mem_cons_self), fun a_ j_ n0_ => yfr_bp K_.2.2.2 (List.forall_mem_cons.mpr ⟨fun e_ => n0_ ⟨e_.1.symm, e_.2.symm⟩, fun q_ hq => absurd hq List.not_mem_nil⟩), G_⟩⟩
-- xsyI: 8 steps, 1 ends, 0 returns
def xsyI_L : List (Nat × Nat × Nat) := []
def xsyI_O : yO := [(0, .int 3, .index 152), (0, .int 10, .index 318), (0, .int 0, .index 1), (1, .int 12, .arg 312)]
def xsyI_A : yA := (yZ xsyI_L, [], [], [], [])
def xsyI_C : List xB := [(.lt, .arg 5, .int 0, true)]
def xsyI_ss : List yS := [(88, [(0, .index 0), (1, .arg 1), (2, .arg 2)], [.arg 312, .index 318, .index 152], [(0, .int 3, .index 152), (0, .int 10, .index 318), (0, .int 0, .index 1), (1, .int 12, .arg 312)], [(.lt, .arg 5, .int 0, true)], [])]
def xsyI_rs : List yR := []
theorem xsyI_w : ywa xsyI_A xsyI_ss xsyI_rs = true := by decide +kernel
theorem xsyI_k : yis (yev xsyI_A 3000 60 100 [88] (64, [(0, .index 0), (1, .arg 1), (2, .arg 2)], [.arg 5], xsyI_O, xsyI_C, [])) xsyI_ss xsyI_rs = true := by decide +kernel
def xsyI_r (v1_ v2 v5 v312 : Int32) (k_ : Nat) : Value := bif Nat.beq k_ 1 then .int v1_ else (bif Nat.beq k_ 2 then .int v2 else (bif Nat.beq k_ 5 then .int v5 else (bif Nat.beq k_ 312 then .int v312 else (.int 0))))
def xsyI_s (n_ : Nat) : Nat := 0
theorem xsyI {h_ : xH} {v1_ v2 v5 v312 : Int32} (hs : sHp h_) (o0_ : bpat h_ 1 12 = some (.int v312)) (c0_ : v5.toInt < (0 : Int32).toInt) : ∃ h', ysm h_ h' ∧ (((∀ a_ j_ : Nat, bpat h' a_ j_ = bpat h_ a_ j_) ∧ (bldD 60 100 64 [(0, .index 0), (1, .int v1_), (2, .int v2)] [.int v5] h_ 88 [(0, .index 0), (1, .int v1_), (2, .int v2)] [.int v312, .index 318, .index 152] h'))) := by
  have hA : yas xsyI_A (xsyI_r v1_ v2 v5 v312) (yg xsyI_s) := ⟨fun q_ hq => absurd hq List.not_mem_nil, fun q_ hq => absurd hq List.not_mem_nil, fun q_ hq => absurd hq List.not_mem_nil, fun n_ hn => yg_lo hn, fun q_ hq => absurd hq List.not_mem_nil⟩
  have Hs : ysh xsyI_A.1 (yg xsyI_s) h_ := ysh_of2 hs (fun q_ hq => absurd hq List.not_mem_nil)
  have Ho : ymem (xsyI_r v1_ v2 v5 v312) (yg xsyI_s) xsyI_O h_ := List.forall_mem_cons.mpr ⟨bpat_some (fxr_at hs.2 (show fxk fxl 0 3 = some 152 by decide +kernel)), List.forall_mem_cons.mpr ⟨bpat_some (fxr_at hs.2 (show fxk fxl 0 10 = some 318 by decide +kernel)), List.forall_mem_cons.mpr ⟨bpat_some (fxr_at hs.2 (show fxk fxl 0 0 = some 1 by decide +kernel)), List.forall_mem_cons.mpr ⟨bpat_some o0_, fun q_ hq => absurd hq List.not_mem_nil⟩⟩⟩⟩
  have HC : ∀ q_ ∈ xsyI_C, xhold (xsyI_r v1_ v2 v5 v312) q_ := List.forall_mem_cons.mpr ⟨xh_ltT c0_, fun q_ hq => absurd hq List.not_mem_nil⟩
  rcases yrun (yis_ok xsyI_k) hA Hs Ho HC with ⟨q_, hq, h', K_, G_⟩ | ⟨q_, hq, h', K_, G_⟩
  · have e_ := List.mem_singleton.mp hq
    subst e_
    exact ⟨h', yfr_sm K_.2.2.2 hs K_.1 (ywa_s xsyI_w List.mem_cons_self), ⟨fun a_ j_ => yfr_bp K_.2.2.2 (fun q_ hq => absurd hq List.not_mem_nil), G_⟩⟩
  · cases hq
-- xsyR0: 3 steps, 0 ends, 1 returns
def xsyR0_L : List (Nat × Nat × Nat) := []
def xsyR0_O : yO := []
def xsyR0_A : yA := (yZ xsyR0_L, [], [], [], [])
def xsyR0_C : List xB := []
def xsyR0_ss : List yS := []
def xsyR0_rs : List yR := [(some (.int 0), [], [], [])]
theorem xsyR0_w : ywa xsyR0_A xsyR0_ss xsyR0_rs = true := by decide +kernel
theorem xsyR0_k : yis (yev xsyR0_A 3000 60 100 [] (91, [(0, .index 0), (1, .arg 1), (2, .arg 2)], [.int 0], xsyR0_O, xsyR0_C, [])) xsyR0_ss xsyR0_rs = true := by decide +kernel
def xsyR0_r (v1_ v2 : Int32) (k_ : Nat) : Value := bif Nat.beq k_ 1 then .int v1_ else (bif Nat.beq k_ 2 then .int v2 else (.int 0))
def xsyR0_s (n_ : Nat) : Nat := 0
theorem xsyR0 {h_ : xH} {v1_ v2 : Int32} (hs : sHp h_) : ∃ h', ysm h_ h' ∧ (((∀ a_ j_ : Nat, bpat h' a_ j_ = bpat h_ a_ j_) ∧ (∀ D_, 60 ≤ D_ → xrun D_ 100 91 [(0, .index 0), (1, .int v1_), (2, .int v2)] [.int (0 : Int32)] h_ (some (.int (0 : Int32)), h', [])))) := by
  have hA : yas xsyR0_A (xsyR0_r v1_ v2) (yg xsyR0_s) := ⟨fun q_ hq => absurd hq List.not_mem_nil, fun q_ hq => absurd hq List.not_mem_nil, fun q_ hq => absurd hq List.not_mem_nil, fun n_ hn => yg_lo hn, fun q_ hq => absurd hq List.not_mem_nil⟩
  have Hs : ysh xsyR0_A.1 (yg xsyR0_s) h_ := ysh_of2 hs (fun q_ hq => absurd hq List.not_mem_nil)
  have Ho : ymem (xsyR0_r v1_ v2) (yg xsyR0_s) xsyR0_O h_ := fun q_ hq => absurd hq List.not_mem_nil
  have HC : ∀ q_ ∈ xsyR0_C, xhold (xsyR0_r v1_ v2) q_ := fun q_ hq => absurd hq List.not_mem_nil
  rcases yrun (yis_ok xsyR0_k) hA Hs Ho HC with ⟨q_, hq, h', K_, G_⟩ | ⟨q_, hq, h', K_, G_⟩
  · cases hq
  · have e_ := List.mem_singleton.mp hq
    subst e_
    exact ⟨h', yfr_sm K_.2.2.2 hs K_.1 (ywa_r xsyR0_w List.mem_cons_self), ⟨fun a_ j_ => yfr_bp K_.2.2.2 (fun q_ hq => absurd hq List.not_mem_nil), G_⟩⟩
-- xsyR1: 4 steps, 0 ends, 1 returns
def xsyR1_L : List (Nat × Nat × Nat) := []
def xsyR1_O : yO := []
def xsyR1_A : yA := (yZ xsyR1_L, [], [], [], [])
def xsyR1_C : List xB := []
def xsyR1_ss : List yS := []
def xsyR1_rs : List yR := [(some (.int 1), [], [], [])]
theorem xsyR1_w : ywa xsyR1_A xsyR1_ss xsyR1_rs = true := by decide +kernel
theorem xsyR1_k : yis (yev xsyR1_A 3000 60 100 [] (91, [(0, .index 0), (1, .arg 1), (2, .arg 2)], [.int 1], xsyR1_O, xsyR1_C, [])) xsyR1_ss xsyR1_rs = true := by decide +kernel
def xsyR1_r (v1_ v2 : Int32) (k_ : Nat) : Value := bif Nat.beq k_ 1 then .int v1_ else (bif Nat.beq k_ 2 then .int v2 else (.int 0))
def xsyR1_s (n_ : Nat) : Nat := 0
theorem xsyR1 {h_ : xH} {v1_ v2 : Int32} (hs : sHp h_) : ∃ h', ysm h_ h' ∧ (((∀ a_ j_ : Nat, bpat h' a_ j_ = bpat h_ a_ j_) ∧ (∀ D_, 60 ≤ D_ → xrun D_ 100 91 [(0, .index 0), (1, .int v1_), (2, .int v2)] [.int (1 : Int32)] h_ (some (.int (1 : Int32)), h', [])))) := by
  have hA : yas xsyR1_A (xsyR1_r v1_ v2) (yg xsyR1_s) := ⟨fun q_ hq => absurd hq List.not_mem_nil, fun q_ hq => absurd hq List.not_mem_nil, fun q_ hq => absurd hq List.not_mem_nil, fun n_ hn => yg_lo hn, fun q_ hq => absurd hq List.not_mem_nil⟩
  have Hs : ysh xsyR1_A.1 (yg xsyR1_s) h_ := ysh_of2 hs (fun q_ hq => absurd hq List.not_mem_nil)
  have Ho : ymem (xsyR1_r v1_ v2) (yg xsyR1_s) xsyR1_O h_ := fun q_ hq => absurd hq List.not_mem_nil
  have HC : ∀ q_ ∈ xsyR1_C, xhold (xsyR1_r v1_ v2) q_ := fun q_ hq => absurd hq List.not_mem_nil
  rcases yrun (yis_ok xsyR1_k) hA Hs Ho HC with ⟨q_, hq, h', K_, G_⟩ | ⟨q_, hq, h', K_, G_⟩
  · cases hq
  · have e_ := List.mem_singleton.mp hq
    subst e_
    exact ⟨h', yfr_sm K_.2.2.2 hs K_.1 (ywa_r xsyR1_w List.mem_cons_self), ⟨fun a_ j_ => yfr_bp K_.2.2.2 (fun q_ hq => absurd hq List.not_mem_nil), G_⟩⟩
theorem tmF_p {so : Int32 → Bool} : ∀ (f_ i_ : Nat) (l : List Int32), (tmF so f_ i_ l).1 = true → i_ + 1 ≤ (tmF so f_ i_ l).2.1 := by
  intro f_
  induction f_ with
  | zero => intro i_ l q_; cases q_
  | succ f_ ih_ =>
    intro i_ l q_
    cases l with
    | nil => cases q_
    | cons v_ t_ =>
      by_cases gq : 60 ≤ v_.toInt ∨ (v_.toInt = 50 ∨ v_.toInt = 51)
      · have e_ : tmF so (f_ + 1) i_ (v_ :: t_) = (false, i_, false, v_ :: t_) := if_pos gq
        rw [e_] at q_
        cases q_
      by_cases g53 : v_.toInt = 53
      · have e_ : tmF so (f_ + 1) i_ (v_ :: t_) = ((tmF so f_ (i_ + 1) t_).1, (tmF so f_ (i_ + 1) t_).2.1, !(tmF so f_ (i_ + 1) t_).2.2.1, (tmF so f_ (i_ + 1) t_).2.2.2) := (if_neg gq).trans (if_pos g53)
        rw [e_] at q_ ⊢
        have z_ := ih_ (i_ + 1) t_ q_
        show i_ + 1 ≤ (tmF so f_ (i_ + 1) t_).2.1
        omega
      by_cases g52 : v_.toInt = 52
      · by_cases ga : (tmF so f_ (i_ + 1) t_).1 = true
        · have e_ : tmF so (f_ + 1) i_ (v_ :: t_) = ((tmF so f_ (tmF so f_ (i_ + 1) t_).2.1 (tmF so f_ (i_ + 1) t_).2.2.2).1, (tmF so f_ (tmF so f_ (i_ + 1) t_).2.1 (tmF so f_ (i_ + 1) t_).2.2.2).2.1, !(tmF so f_ (i_ + 1) t_).2.2.1 || (tmF so f_ (tmF so f_ (i_ + 1) t_).2.1 (tmF so f_ (i_ + 1) t_).2.2.2).2.2.1, (tmF so f_ (tmF so f_ (i_ + 1) t_).2.1 (tmF so f_ (i_ + 1) t_).2.2.2).2.2.2) := (if_neg gq).trans ((if_neg g53).trans ((if_pos g52).trans (if_pos ga)))
          rw [e_] at q_ ⊢
          have z1 := ih_ (i_ + 1) t_ ga
          have z2 := ih_ _ _ q_
          show i_ + 1 ≤ (tmF so f_ (tmF so f_ (i_ + 1) t_).2.1 (tmF so f_ (i_ + 1) t_).2.2.2).2.1
          omega
        · have e_ : tmF so (f_ + 1) i_ (v_ :: t_) = (false, (tmF so f_ (i_ + 1) t_).2.1, false, (tmF so f_ (i_ + 1) t_).2.2.2) := (if_neg gq).trans ((if_neg g53).trans ((if_pos g52).trans (if_neg ga)))
          rw [e_] at q_
          cases q_
      · have e_ : tmF so (f_ + 1) i_ (v_ :: t_) = (true, (nru (i_ + 1) 0 t_).1, so v_ && decide (0 ≤ (nru (i_ + 1) 0 t_).2.1.toInt), (nru (i_ + 1) 0 t_).2.2) := (if_neg gq).trans ((if_neg g53).trans (if_neg g52))
        rw [e_]
        obtain ⟨_, _, h3, h4⟩ := nru_c (m_ := 0) t_ (i_ + 1) 0
        show i_ + 1 ≤ (nru (i_ + 1) 0 t_).1
        omega
theorem is_lp {a_ ia : Nat} {L_ : List Int32} {s_ : Int32} (hS_ : snds L_) (na : ¬ a_ = 152 ∧ ¬ ia = 152) : ∀ (f_ i_ : Nat) (l : List Int32) (k_ : Nat) (any all : Bool) (h_ : xH) (lo_ : xL), l.length < f_ → L_.drop i_ = l → i_ + l.length = L_.length → k_ + 1 ≤ i_ → sHp h_ → rwx h_ a_ ia 12 L_ → bpat h_ 152 0 = some (.index a_) → bpat h_ 152 1 = some (.int s_) → bpat h_ 152 2 = some (.int (Int32.ofNat i_)) → (lo_ = [(5, .int (Int32.ofNat k_)), (4, .int (bI all)), (3, .int (bI any)), (0, .index 152), (1, .index a_), (2, .int s_)] ∨ ((∃ y7 y6 : Int32, lo_ = [(5, .int (Int32.ofNat k_)), (4, .int (bI all)), (7, .int y7), (6, .int y6), (3, .int (bI any)), (0, .index 152), (1, .index a_), (2, .int s_)]) ∨ ∃ y7 y6 : Int32, lo_ = [(5, .int (Int32.ofNat k_)), (4, .int (bI all)), (3, .int (bI any)), (7, .int y7), (6, .int y6), (0, .index 152), (1, .index a_), (2, .int s_)])) → (syF (wso s_) f_ i_ any all l).1 = true → ∃ h', gmf h_ h' ∧ ∀ D_, 90 ≤ D_ → xrun D_ 6 27 lo_ [] h_ (some (.int (bI (syF (wso s_) f_ i_ any all l).2.2)), h', []) := by
  intro f_
  have z12 : (12 : Int32).toInt = 12 := rfl
  have z50_ : (50 : Int32).toInt = 50 := rfl
  have z51 : (51 : Int32).toInt = 51 := rfl
  have nA : ∀ (h2 : xH) (k_ : Nat) (any all tm : Bool), sHp h2 → bcq h2 a_ 6 2 → ∃ h3, (ysm h2 h3 ∧ ∀ c_ j_, bpat h3 c_ j_ = bpat h2 c_ j_) ∧ bldD 60 6 61 [(7, .int (bI tm)), (6, .int 50), (5, .int (Int32.ofNat k_)), (4, .int (bI all)), (3, .int (bI any)), (0, .index 152), (1, .index a_), (2, .int s_)] [] h2 27 [(5, .int (Int32.ofNat (k_ + 1))), (4, .int (bI (all && tm))), (7, .int (bI tm)), (6, .int 50), (3, .int (bI any)), (0, .index 152), (1, .index a_), (2, .int s_)] [] h3 := by
    intro h2 k_ any all tm S2 k2_
    match all, tm with
        | false, false =>
          obtain ⟨h3, m3_, f3_, ld3⟩ := xisN00 (v2 := s_) (v5 := Int32.ofNat k_) (v3 := bI any) S2 k2_
          rw [i32s] at ld3
          exact ⟨h3, ⟨m3_, f3_⟩, ld3⟩
        | false, true =>
          obtain ⟨h3, m3_, f3_, ld3⟩ := xisN01 (v2 := s_) (v5 := Int32.ofNat k_) (v3 := bI any) S2 k2_
          rw [i32s] at ld3
          exact ⟨h3, ⟨m3_, f3_⟩, ld3⟩
        | true, false =>
          obtain ⟨h3, m3_, f3_, ld3⟩ := xisN10 (v2 := s_) (v5 := Int32.ofNat k_) (v3 := bI any) S2 k2_
          rw [i32s] at ld3
          exact ⟨h3, ⟨m3_, f3_⟩, ld3⟩
        | true, true =>
          obtain ⟨h3, m3_, f3_, ld3⟩ := xisN11 (v2 := s_) (v5 := Int32.ofNat k_) (v3 := bI any) S2 k2_
          rw [i32s] at ld3
          exact ⟨h3, ⟨m3_, f3_⟩, ld3⟩
  have nO : ∀ (h2 : xH) (k_ : Nat) (any all tm : Bool), sHp h2 → bcq h2 a_ 6 2 → ∃ h3, (ysm h2 h3 ∧ ∀ c_ j_, bpat h3 c_ j_ = bpat h2 c_ j_) ∧ bldD 60 6 61 [(7, .int (bI tm)), (6, .int 51), (5, .int (Int32.ofNat k_)), (4, .int (bI all)), (3, .int (bI any)), (0, .index 152), (1, .index a_), (2, .int s_)] [] h2 27 [(5, .int (Int32.ofNat (k_ + 1))), (4, .int (bI tm)), (3, .int (bI (any || all))), (7, .int (bI tm)), (6, .int 51), (0, .index 152), (1, .index a_), (2, .int s_)] [] h3 := by
    intro h2 k_ any all tm S2 k2_
    match any, all with
        | false, false =>
          obtain ⟨h3, m3_, f3_, ld3⟩ := xisO00 (v2 := s_) (v5 := Int32.ofNat k_) (v7 := bI tm) S2 k2_
          rw [i32s] at ld3
          exact ⟨h3, ⟨m3_, f3_⟩, ld3⟩
        | false, true =>
          obtain ⟨h3, m3_, f3_, ld3⟩ := xisO01 (v2 := s_) (v5 := Int32.ofNat k_) (v7 := bI tm) S2 k2_
          rw [i32s] at ld3
          exact ⟨h3, ⟨m3_, f3_⟩, ld3⟩
        | true, false =>
          obtain ⟨h3, m3_, f3_, ld3⟩ := xisO10 (v2 := s_) (v5 := Int32.ofNat k_) (v7 := bI tm) S2 k2_
          rw [i32s] at ld3
          exact ⟨h3, ⟨m3_, f3_⟩, ld3⟩
        | true, true =>
          obtain ⟨h3, m3_, f3_, ld3⟩ := xisO11 (v2 := s_) (v5 := Int32.ofNat k_) (v7 := bI tm) S2 k2_
          rw [i32s] at ld3
          exact ⟨h3, ⟨m3_, f3_⟩, ld3⟩
  induction f_ with
  | zero => intro i_ l k_ any all h_ lo_ hl; omega
  | succ f_ ih_ =>
    intro i_ l k_ any all h_ lo_ hl ed hi_ hk S_ R_ e0_ e1_ e2_ hd_ q_
    have l12 := R_.2.2.1
    cases l with
    | nil =>
      rw [List.length_nil] at hi_
      have eL : i_ = L_.length := by omega
      have ik := i32n (i_ := k_) (by omega)
      have e_ : syF (wso s_) (f_ + 1) i_ any all [] = (true, i_, any || all) := rfl
      rw [e_]
      rcases hd_ with rfl | ⟨y7, y6, rfl⟩ | ⟨y7, y6, rfl⟩
      · match any, all with
      | false, false =>
        obtain ⟨h1, m1_, f1_, r1_⟩ := xisX00A (v2 := s_) (v300 := Int32.ofNat L_.length) (v302 := Int32.ofNat i_) (v5 := Int32.ofNat k_) S_ R_.1.1 e2_ e0_ R_.2.1.2 (by rw [eL]; exact Int.le_refl _) (by omega)
        exact ⟨h1, gmf_a m1_ f1_, fun D_ hD => r1_ D_ (by omega)⟩
      | false, true =>
        obtain ⟨h1, m1_, f1_, r1_⟩ := xisX01A (v2 := s_) (v300 := Int32.ofNat L_.length) (v302 := Int32.ofNat i_) (v5 := Int32.ofNat k_) S_ R_.1.1 e2_ e0_ R_.2.1.2 (by rw [eL]; exact Int.le_refl _) (by omega)
        exact ⟨h1, gmf_a m1_ f1_, fun D_ hD => r1_ D_ (by omega)⟩
      | true, false =>
        obtain ⟨h1, m1_, f1_, r1_⟩ := xisX10A (v2 := s_) (v300 := Int32.ofNat L_.length) (v302 := Int32.ofNat i_) (v5 := Int32.ofNat k_) S_ R_.1.1 e2_ e0_ R_.2.1.2 (by rw [eL]; exact Int.le_refl _) (by omega)
        exact ⟨h1, gmf_a m1_ f1_, fun D_ hD => r1_ D_ (by omega)⟩
      | true, true =>
        obtain ⟨h1, m1_, f1_, r1_⟩ := xisX11A (v2 := s_) (v300 := Int32.ofNat L_.length) (v302 := Int32.ofNat i_) (v5 := Int32.ofNat k_) S_ R_.1.1 e2_ e0_ R_.2.1.2 (by rw [eL]; exact Int.le_refl _) (by omega)
        exact ⟨h1, gmf_a m1_ f1_, fun D_ hD => r1_ D_ (by omega)⟩
      · match any, all with
      | false, false =>
        obtain ⟨h1, m1_, f1_, r1_⟩ := xisX00B (v2 := s_) (v300 := Int32.ofNat L_.length) (v302 := Int32.ofNat i_) (v5 := Int32.ofNat k_) (v7 := y7) (v6 := y6) S_ R_.1.1 e2_ e0_ R_.2.1.2 (by rw [eL]; exact Int.le_refl _) (by omega)
        exact ⟨h1, gmf_a m1_ f1_, fun D_ hD => r1_ D_ (by omega)⟩
      | false, true =>
        obtain ⟨h1, m1_, f1_, r1_⟩ := xisX01B (v2 := s_) (v300 := Int32.ofNat L_.length) (v302 := Int32.ofNat i_) (v5 := Int32.ofNat k_) (v7 := y7) (v6 := y6) S_ R_.1.1 e2_ e0_ R_.2.1.2 (by rw [eL]; exact Int.le_refl _) (by omega)
        exact ⟨h1, gmf_a m1_ f1_, fun D_ hD => r1_ D_ (by omega)⟩
      | true, false =>
        obtain ⟨h1, m1_, f1_, r1_⟩ := xisX10B (v2 := s_) (v300 := Int32.ofNat L_.length) (v302 := Int32.ofNat i_) (v5 := Int32.ofNat k_) (v7 := y7) (v6 := y6) S_ R_.1.1 e2_ e0_ R_.2.1.2 (by rw [eL]; exact Int.le_refl _) (by omega)
        exact ⟨h1, gmf_a m1_ f1_, fun D_ hD => r1_ D_ (by omega)⟩
      | true, true =>
        obtain ⟨h1, m1_, f1_, r1_⟩ := xisX11B (v2 := s_) (v300 := Int32.ofNat L_.length) (v302 := Int32.ofNat i_) (v5 := Int32.ofNat k_) (v7 := y7) (v6 := y6) S_ R_.1.1 e2_ e0_ R_.2.1.2 (by rw [eL]; exact Int.le_refl _) (by omega)
        exact ⟨h1, gmf_a m1_ f1_, fun D_ hD => r1_ D_ (by omega)⟩
      · match any, all with
      | false, false =>
        obtain ⟨h1, m1_, f1_, r1_⟩ := xisX00C (v2 := s_) (v300 := Int32.ofNat L_.length) (v302 := Int32.ofNat i_) (v5 := Int32.ofNat k_) (v7 := y7) (v6 := y6) S_ R_.1.1 e2_ e0_ R_.2.1.2 (by rw [eL]; exact Int.le_refl _) (by omega)
        exact ⟨h1, gmf_a m1_ f1_, fun D_ hD => r1_ D_ (by omega)⟩
      | false, true =>
        obtain ⟨h1, m1_, f1_, r1_⟩ := xisX01C (v2 := s_) (v300 := Int32.ofNat L_.length) (v302 := Int32.ofNat i_) (v5 := Int32.ofNat k_) (v7 := y7) (v6 := y6) S_ R_.1.1 e2_ e0_ R_.2.1.2 (by rw [eL]; exact Int.le_refl _) (by omega)
        exact ⟨h1, gmf_a m1_ f1_, fun D_ hD => r1_ D_ (by omega)⟩
      | true, false =>
        obtain ⟨h1, m1_, f1_, r1_⟩ := xisX10C (v2 := s_) (v300 := Int32.ofNat L_.length) (v302 := Int32.ofNat i_) (v5 := Int32.ofNat k_) (v7 := y7) (v6 := y6) S_ R_.1.1 e2_ e0_ R_.2.1.2 (by rw [eL]; exact Int.le_refl _) (by omega)
        exact ⟨h1, gmf_a m1_ f1_, fun D_ hD => r1_ D_ (by omega)⟩
      | true, true =>
        obtain ⟨h1, m1_, f1_, r1_⟩ := xisX11C (v2 := s_) (v300 := Int32.ofNat L_.length) (v302 := Int32.ofNat i_) (v5 := Int32.ofNat k_) (v7 := y7) (v6 := y6) S_ R_.1.1 e2_ e0_ R_.2.1.2 (by rw [eL]; exact Int.le_refl _) (by omega)
        exact ⟨h1, gmf_a m1_ f1_, fun D_ hD => r1_ D_ (by omega)⟩
    | cons v_ t_ =>
      rw [List.length_cons] at hl hi_
      have ii := i32n (i_ := i_) (by omega)
      have ik := i32n (i_ := k_) (by omega)
      have iL := i32n (i_ := L_.length) (by omega)
      have ed2 : L_.drop (i_ + 1) = t_ := by rw [show L_.drop (i_ + 1) = (L_.drop i_).drop 1 by rw [List.drop_drop], ed]; rfl
      have ov : bpat h_ ia i_ = some (.int v_) := R_.2.2.2 i_ v_ (by have q_ : (L_.drop i_)[0]? = some v_ := (by rw [ed]; rfl); rw [List.getElem?_drop, Nat.add_zero] at q_; exact q_)
      have en : Int32.ofNat i_ + 1 - 1 = Int32.ofNat i_ := Int32.add_sub_cancel _ _
      by_cases gj : v_.toInt = 50 ∨ v_.toInt = 51
      · by_cases ga : (tmF (wso s_) 20 (i_ + 1) t_).1 = true
        · have e_ : syF (wso s_) (f_ + 1) i_ any all (v_ :: t_) = syF (wso s_) f_ (tmF (wso s_) 20 (i_ + 1) t_).2.1 (any || (decide (v_.toInt = 51) && all)) (if v_.toInt = 51 then (tmF (wso s_) 20 (i_ + 1) t_).2.2.1 else (all && (tmF (wso s_) 20 (i_ + 1) t_).2.2.1)) (tmF (wso s_) 20 (i_ + 1) t_).2.2.2 := (if_pos gj).trans (if_pos ga)
          obtain ⟨k1_, _⟩ := tmF_c (so := wso s_) 20 (i_ + 1) t_ 0 false (by omega) (Or.inl rfl)
          obtain ⟨b1, b2, b3, b4⟩ := k1_ ga
          have d2_ := tmF_d 20 (i_ + 1) t_ ed2 ga
          have d3_ := tmF_p 20 (i_ + 1) t_ ga
          rcases gj with gv | gv
          · rw [e_, decide_eq_false (show ¬ v_.toInt = 51 by omega), Bool.false_and, Bool.or_false, if_neg (show ¬ v_.toInt = 51 by omega)] at q_ ⊢
            have ev_ : v_ = 50 := Int32.toInt_inj.mp gv
            subst ev_
            have mid_ : ∃ h2, gmf h_ h2 ∧ (bpat h2 152 2 = some (.int (Int32.ofNat (tmF (wso s_) 20 (i_ + 1) t_).2.1)) ∧ ∀ D_, 84 ≤ D_ → ∀ oo, xrun D_ 6 61 [(7, .int (bI (tmF (wso s_) 20 (i_ + 1) t_).2.2.1)), (6, .int 50), (5, .int (Int32.ofNat k_)), (4, .int (bI all)), (3, .int (bI any)), (0, .index 152), (1, .index a_), (2, .int s_)] [] h2 oo → xrun D_ 6 27 lo_ [] h_ oo) := by
              rcases hd_ with rfl | ⟨y7, y6, rfl⟩ | ⟨y7, y6, rfl⟩
              · obtain ⟨h1, m1_, w0_, f1_, ld1⟩ := xis50A (v2 := s_) (v300 := Int32.ofNat L_.length) (v302 := Int32.ofNat i_) (v5 := Int32.ofNat k_) (v4_ := bI all) (v3 := bI any) S_ R_.1.1 R_.1.2 e2_ e0_ R_.2.1.2 R_.2.1.1 (by rw [en, i32t (by omega)]; exact ov) ⟨by rw [en]; omega, by rw [en]; omega⟩ (by omega) (by omega)
                rw [i32s] at w0_
                have F1_ : gmf h_ h1 := ⟨m1_, fun c_ j_ q_ => f1_ c_ j_ q_⟩
                obtain ⟨h2, F2, g2, r2⟩ := ts_x hS_ na 20 (i_ + 1) t_ 0 h1 (by omega) ed2 (by omega) (by omega) m1_.1 (gmf_R R_ F1_ na) ((f1_ _ _ (by omega)).trans e0_) ((f1_ _ _ (by omega)).trans e1_) w0_ ga
                have ld2 := ycv (d_ := 83) (mi := 6) (pc := 56) (cm := 8) (lo_ := [(6, .int 50), (5, .int (Int32.ofNat k_)), (4, .int (bI all)), (3, .int (bI any)), (0, .index 152), (1, .index a_), (2, .int s_)]) (st_ := [.int 0, .index 152]) (as_ := [.int 0]) (s' := []) rfl rfl (bcq_of (n_ := 152) (z_ := (1, 3)) m1_.1 rfl) rfl (xcc_l (List.forall_mem_cons.mpr ⟨rfl, List.forall_mem_cons.mpr ⟨rfl, List.forall_mem_cons.mpr ⟨rfl, List.forall_mem_cons.mpr ⟨rfl, List.forall_mem_cons.mpr ⟨xidx_i (bcq_lt (bcq_of (n_ := 152) (z_ := (1, 3)) m1_.1 rfl)), List.forall_mem_cons.mpr ⟨xidx_i (bcq_lt (gmf_R R_ F1_ na).1.1), List.forall_mem_cons.mpr ⟨rfl, fun q_ hq => absurd hq List.not_mem_nil⟩⟩⟩⟩⟩⟩⟩) (fun t_ ht => absurd ht List.not_mem_nil) (Nat.le_of_ble_eq_true rfl)) r2
                obtain ⟨h3, m3_, f3_, ld3⟩ := xisMA (v2 := s_) (v5 := Int32.ofNat k_) (v4_ := bI all) (v3 := bI any) (v6 := 50) (v8 := bI (tmF (wso s_) 20 (i_ + 1) t_).2.2.1) (F2.1).1 (gmf_R R_ (gmf_t F1_ F2) na).1.1
                exact ⟨h3, gmf_t F1_ (gmf_t F2 (gmf_a m3_ f3_)), (f3_ _ _).trans g2, fun D_ hD oo z_ => ld1 D_ (by omega) oo (ld2 D_ (by omega) oo (ld3 D_ (by omega) oo z_))⟩
              · obtain ⟨h1, m1_, w0_, f1_, ld1⟩ := xis50B (v2 := s_) (v300 := Int32.ofNat L_.length) (v302 := Int32.ofNat i_) (v5 := Int32.ofNat k_) (v4_ := bI all) (v3 := bI any) (v7 := y7) S_ R_.1.1 R_.1.2 e2_ e0_ R_.2.1.2 R_.2.1.1 (by rw [en, i32t (by omega)]; exact ov) ⟨by rw [en]; omega, by rw [en]; omega⟩ (by omega) (by omega)
                rw [i32s] at w0_
                have F1_ : gmf h_ h1 := ⟨m1_, fun c_ j_ q_ => f1_ c_ j_ q_⟩
                obtain ⟨h2, F2, g2, r2⟩ := ts_x hS_ na 20 (i_ + 1) t_ 0 h1 (by omega) ed2 (by omega) (by omega) m1_.1 (gmf_R R_ F1_ na) ((f1_ _ _ (by omega)).trans e0_) ((f1_ _ _ (by omega)).trans e1_) w0_ ga
                have ld2 := ycv (d_ := 83) (mi := 6) (pc := 56) (cm := 8) (lo_ := [(6, .int 50), (5, .int (Int32.ofNat k_)), (4, .int (bI all)), (7, .int y7), (3, .int (bI any)), (0, .index 152), (1, .index a_), (2, .int s_)]) (st_ := [.int 0, .index 152]) (as_ := [.int 0]) (s' := []) rfl rfl (bcq_of (n_ := 152) (z_ := (1, 3)) m1_.1 rfl) rfl (xcc_l (List.forall_mem_cons.mpr ⟨rfl, List.forall_mem_cons.mpr ⟨rfl, List.forall_mem_cons.mpr ⟨rfl, List.forall_mem_cons.mpr ⟨rfl, List.forall_mem_cons.mpr ⟨rfl, List.forall_mem_cons.mpr ⟨xidx_i (bcq_lt (bcq_of (n_ := 152) (z_ := (1, 3)) m1_.1 rfl)), List.forall_mem_cons.mpr ⟨xidx_i (bcq_lt (gmf_R R_ F1_ na).1.1), List.forall_mem_cons.mpr ⟨rfl, fun q_ hq => absurd hq List.not_mem_nil⟩⟩⟩⟩⟩⟩⟩⟩) (fun t_ ht => absurd ht List.not_mem_nil) (Nat.le_of_ble_eq_true rfl)) r2
                obtain ⟨h3, m3_, f3_, ld3⟩ := xisMB (v2 := s_) (v5 := Int32.ofNat k_) (v4_ := bI all) (v3 := bI any) (v6 := 50) (v8 := bI (tmF (wso s_) 20 (i_ + 1) t_).2.2.1) (v7 := y7) (F2.1).1 (gmf_R R_ (gmf_t F1_ F2) na).1.1
                exact ⟨h3, gmf_t F1_ (gmf_t F2 (gmf_a m3_ f3_)), (f3_ _ _).trans g2, fun D_ hD oo z_ => ld1 D_ (by omega) oo (ld2 D_ (by omega) oo (ld3 D_ (by omega) oo z_))⟩
              · obtain ⟨h1, m1_, w0_, f1_, ld1⟩ := xis50C (v2 := s_) (v300 := Int32.ofNat L_.length) (v302 := Int32.ofNat i_) (v5 := Int32.ofNat k_) (v4_ := bI all) (v3 := bI any) (v7 := y7) S_ R_.1.1 R_.1.2 e2_ e0_ R_.2.1.2 R_.2.1.1 (by rw [en, i32t (by omega)]; exact ov) ⟨by rw [en]; omega, by rw [en]; omega⟩ (by omega) (by omega)
                rw [i32s] at w0_
                have F1_ : gmf h_ h1 := ⟨m1_, fun c_ j_ q_ => f1_ c_ j_ q_⟩
                obtain ⟨h2, F2, g2, r2⟩ := ts_x hS_ na 20 (i_ + 1) t_ 0 h1 (by omega) ed2 (by omega) (by omega) m1_.1 (gmf_R R_ F1_ na) ((f1_ _ _ (by omega)).trans e0_) ((f1_ _ _ (by omega)).trans e1_) w0_ ga
                have ld2 := ycv (d_ := 83) (mi := 6) (pc := 56) (cm := 8) (lo_ := [(6, .int 50), (5, .int (Int32.ofNat k_)), (4, .int (bI all)), (3, .int (bI any)), (7, .int y7), (0, .index 152), (1, .index a_), (2, .int s_)]) (st_ := [.int 0, .index 152]) (as_ := [.int 0]) (s' := []) rfl rfl (bcq_of (n_ := 152) (z_ := (1, 3)) m1_.1 rfl) rfl (xcc_l (List.forall_mem_cons.mpr ⟨rfl, List.forall_mem_cons.mpr ⟨rfl, List.forall_mem_cons.mpr ⟨rfl, List.forall_mem_cons.mpr ⟨rfl, List.forall_mem_cons.mpr ⟨rfl, List.forall_mem_cons.mpr ⟨xidx_i (bcq_lt (bcq_of (n_ := 152) (z_ := (1, 3)) m1_.1 rfl)), List.forall_mem_cons.mpr ⟨xidx_i (bcq_lt (gmf_R R_ F1_ na).1.1), List.forall_mem_cons.mpr ⟨rfl, fun q_ hq => absurd hq List.not_mem_nil⟩⟩⟩⟩⟩⟩⟩⟩) (fun t_ ht => absurd ht List.not_mem_nil) (Nat.le_of_ble_eq_true rfl)) r2
                obtain ⟨h3, m3_, f3_, ld3⟩ := xisMC (v2 := s_) (v5 := Int32.ofNat k_) (v4_ := bI all) (v3 := bI any) (v6 := 50) (v8 := bI (tmF (wso s_) 20 (i_ + 1) t_).2.2.1) (v7 := y7) (F2.1).1 (gmf_R R_ (gmf_t F1_ F2) na).1.1
                exact ⟨h3, gmf_t F1_ (gmf_t F2 (gmf_a m3_ f3_)), (f3_ _ _).trans g2, fun D_ hD oo z_ => ld1 D_ (by omega) oo (ld2 D_ (by omega) oo (ld3 D_ (by omega) oo z_))⟩
            obtain ⟨h2, F2, g2, ld2⟩ := mid_
            obtain ⟨h3, ⟨m3_, f3_⟩, ld3⟩ := nA h2 k_ any all (tmF (wso s_) 20 (i_ + 1) t_).2.2.1 F2.1.1 (gmf_R R_ F2 na).1.1
            have F3 := gmf_t F2 (gmf_a m3_ f3_)
            obtain ⟨h4, F4, r4⟩ := ih_ (tmF (wso s_) 20 (i_ + 1) t_).2.1 (tmF (wso s_) 20 (i_ + 1) t_).2.2.2 (k_ + 1) any (all && (tmF (wso s_) 20 (i_ + 1) t_).2.2.1) h3 _ (by omega) d2_ (by omega) (by omega) m3_.1 (gmf_R R_ F3 na) ((F3.2 _ _ (by omega)).trans e0_) ((F3.2 _ _ (by omega)).trans e1_) ((f3_ _ _).trans g2) (Or.inr (Or.inl ⟨_, _, rfl⟩)) q_
            exact ⟨h4, gmf_t F3 F4, fun D_ hD => ld2 D_ (by omega) _ (ld3 D_ (by omega) _ (r4 D_ hD))⟩
          · rw [e_, decide_eq_true gv, Bool.true_and, if_pos gv] at q_ ⊢
            have ev_ : v_ = 51 := Int32.toInt_inj.mp gv
            subst ev_
            have mid_ : ∃ h2, gmf h_ h2 ∧ (bpat h2 152 2 = some (.int (Int32.ofNat (tmF (wso s_) 20 (i_ + 1) t_).2.1)) ∧ ∀ D_, 84 ≤ D_ → ∀ oo, xrun D_ 6 61 [(7, .int (bI (tmF (wso s_) 20 (i_ + 1) t_).2.2.1)), (6, .int 51), (5, .int (Int32.ofNat k_)), (4, .int (bI all)), (3, .int (bI any)), (0, .index 152), (1, .index a_), (2, .int s_)] [] h2 oo → xrun D_ 6 27 lo_ [] h_ oo) := by
              rcases hd_ with rfl | ⟨y7, y6, rfl⟩ | ⟨y7, y6, rfl⟩
              · obtain ⟨h1, m1_, w0_, f1_, ld1⟩ := xis51A (v2 := s_) (v300 := Int32.ofNat L_.length) (v302 := Int32.ofNat i_) (v5 := Int32.ofNat k_) (v4_ := bI all) (v3 := bI any) S_ R_.1.1 R_.1.2 e2_ e0_ R_.2.1.2 R_.2.1.1 (by rw [en, i32t (by omega)]; exact ov) ⟨by rw [en]; omega, by rw [en]; omega⟩ (by omega) (by omega)
                rw [i32s] at w0_
                have F1_ : gmf h_ h1 := ⟨m1_, fun c_ j_ q_ => f1_ c_ j_ q_⟩
                obtain ⟨h2, F2, g2, r2⟩ := ts_x hS_ na 20 (i_ + 1) t_ 0 h1 (by omega) ed2 (by omega) (by omega) m1_.1 (gmf_R R_ F1_ na) ((f1_ _ _ (by omega)).trans e0_) ((f1_ _ _ (by omega)).trans e1_) w0_ ga
                have ld2 := ycv (d_ := 83) (mi := 6) (pc := 56) (cm := 8) (lo_ := [(6, .int 51), (5, .int (Int32.ofNat k_)), (4, .int (bI all)), (3, .int (bI any)), (0, .index 152), (1, .index a_), (2, .int s_)]) (st_ := [.int 0, .index 152]) (as_ := [.int 0]) (s' := []) rfl rfl (bcq_of (n_ := 152) (z_ := (1, 3)) m1_.1 rfl) rfl (xcc_l (List.forall_mem_cons.mpr ⟨rfl, List.forall_mem_cons.mpr ⟨rfl, List.forall_mem_cons.mpr ⟨rfl, List.forall_mem_cons.mpr ⟨rfl, List.forall_mem_cons.mpr ⟨xidx_i (bcq_lt (bcq_of (n_ := 152) (z_ := (1, 3)) m1_.1 rfl)), List.forall_mem_cons.mpr ⟨xidx_i (bcq_lt (gmf_R R_ F1_ na).1.1), List.forall_mem_cons.mpr ⟨rfl, fun q_ hq => absurd hq List.not_mem_nil⟩⟩⟩⟩⟩⟩⟩) (fun t_ ht => absurd ht List.not_mem_nil) (Nat.le_of_ble_eq_true rfl)) r2
                obtain ⟨h3, m3_, f3_, ld3⟩ := xisMA (v2 := s_) (v5 := Int32.ofNat k_) (v4_ := bI all) (v3 := bI any) (v6 := 51) (v8 := bI (tmF (wso s_) 20 (i_ + 1) t_).2.2.1) (F2.1).1 (gmf_R R_ (gmf_t F1_ F2) na).1.1
                exact ⟨h3, gmf_t F1_ (gmf_t F2 (gmf_a m3_ f3_)), (f3_ _ _).trans g2, fun D_ hD oo z_ => ld1 D_ (by omega) oo (ld2 D_ (by omega) oo (ld3 D_ (by omega) oo z_))⟩
              · obtain ⟨h1, m1_, w0_, f1_, ld1⟩ := xis51B (v2 := s_) (v300 := Int32.ofNat L_.length) (v302 := Int32.ofNat i_) (v5 := Int32.ofNat k_) (v4_ := bI all) (v3 := bI any) (v7 := y7) S_ R_.1.1 R_.1.2 e2_ e0_ R_.2.1.2 R_.2.1.1 (by rw [en, i32t (by omega)]; exact ov) ⟨by rw [en]; omega, by rw [en]; omega⟩ (by omega) (by omega)
                rw [i32s] at w0_
                have F1_ : gmf h_ h1 := ⟨m1_, fun c_ j_ q_ => f1_ c_ j_ q_⟩
                obtain ⟨h2, F2, g2, r2⟩ := ts_x hS_ na 20 (i_ + 1) t_ 0 h1 (by omega) ed2 (by omega) (by omega) m1_.1 (gmf_R R_ F1_ na) ((f1_ _ _ (by omega)).trans e0_) ((f1_ _ _ (by omega)).trans e1_) w0_ ga
                have ld2 := ycv (d_ := 83) (mi := 6) (pc := 56) (cm := 8) (lo_ := [(6, .int 51), (5, .int (Int32.ofNat k_)), (4, .int (bI all)), (7, .int y7), (3, .int (bI any)), (0, .index 152), (1, .index a_), (2, .int s_)]) (st_ := [.int 0, .index 152]) (as_ := [.int 0]) (s' := []) rfl rfl (bcq_of (n_ := 152) (z_ := (1, 3)) m1_.1 rfl) rfl (xcc_l (List.forall_mem_cons.mpr ⟨rfl, List.forall_mem_cons.mpr ⟨rfl, List.forall_mem_cons.mpr ⟨rfl, List.forall_mem_cons.mpr ⟨rfl, List.forall_mem_cons.mpr ⟨rfl, List.forall_mem_cons.mpr ⟨xidx_i (bcq_lt (bcq_of (n_ := 152) (z_ := (1, 3)) m1_.1 rfl)), List.forall_mem_cons.mpr ⟨xidx_i (bcq_lt (gmf_R R_ F1_ na).1.1), List.forall_mem_cons.mpr ⟨rfl, fun q_ hq => absurd hq List.not_mem_nil⟩⟩⟩⟩⟩⟩⟩⟩) (fun t_ ht => absurd ht List.not_mem_nil) (Nat.le_of_ble_eq_true rfl)) r2
                obtain ⟨h3, m3_, f3_, ld3⟩ := xisMB (v2 := s_) (v5 := Int32.ofNat k_) (v4_ := bI all) (v3 := bI any) (v6 := 51) (v8 := bI (tmF (wso s_) 20 (i_ + 1) t_).2.2.1) (v7 := y7) (F2.1).1 (gmf_R R_ (gmf_t F1_ F2) na).1.1
                exact ⟨h3, gmf_t F1_ (gmf_t F2 (gmf_a m3_ f3_)), (f3_ _ _).trans g2, fun D_ hD oo z_ => ld1 D_ (by omega) oo (ld2 D_ (by omega) oo (ld3 D_ (by omega) oo z_))⟩
              · obtain ⟨h1, m1_, w0_, f1_, ld1⟩ := xis51C (v2 := s_) (v300 := Int32.ofNat L_.length) (v302 := Int32.ofNat i_) (v5 := Int32.ofNat k_) (v4_ := bI all) (v3 := bI any) (v7 := y7) S_ R_.1.1 R_.1.2 e2_ e0_ R_.2.1.2 R_.2.1.1 (by rw [en, i32t (by omega)]; exact ov) ⟨by rw [en]; omega, by rw [en]; omega⟩ (by omega) (by omega)
                rw [i32s] at w0_
                have F1_ : gmf h_ h1 := ⟨m1_, fun c_ j_ q_ => f1_ c_ j_ q_⟩
                obtain ⟨h2, F2, g2, r2⟩ := ts_x hS_ na 20 (i_ + 1) t_ 0 h1 (by omega) ed2 (by omega) (by omega) m1_.1 (gmf_R R_ F1_ na) ((f1_ _ _ (by omega)).trans e0_) ((f1_ _ _ (by omega)).trans e1_) w0_ ga
                have ld2 := ycv (d_ := 83) (mi := 6) (pc := 56) (cm := 8) (lo_ := [(6, .int 51), (5, .int (Int32.ofNat k_)), (4, .int (bI all)), (3, .int (bI any)), (7, .int y7), (0, .index 152), (1, .index a_), (2, .int s_)]) (st_ := [.int 0, .index 152]) (as_ := [.int 0]) (s' := []) rfl rfl (bcq_of (n_ := 152) (z_ := (1, 3)) m1_.1 rfl) rfl (xcc_l (List.forall_mem_cons.mpr ⟨rfl, List.forall_mem_cons.mpr ⟨rfl, List.forall_mem_cons.mpr ⟨rfl, List.forall_mem_cons.mpr ⟨rfl, List.forall_mem_cons.mpr ⟨rfl, List.forall_mem_cons.mpr ⟨xidx_i (bcq_lt (bcq_of (n_ := 152) (z_ := (1, 3)) m1_.1 rfl)), List.forall_mem_cons.mpr ⟨xidx_i (bcq_lt (gmf_R R_ F1_ na).1.1), List.forall_mem_cons.mpr ⟨rfl, fun q_ hq => absurd hq List.not_mem_nil⟩⟩⟩⟩⟩⟩⟩⟩) (fun t_ ht => absurd ht List.not_mem_nil) (Nat.le_of_ble_eq_true rfl)) r2
                obtain ⟨h3, m3_, f3_, ld3⟩ := xisMC (v2 := s_) (v5 := Int32.ofNat k_) (v4_ := bI all) (v3 := bI any) (v6 := 51) (v8 := bI (tmF (wso s_) 20 (i_ + 1) t_).2.2.1) (v7 := y7) (F2.1).1 (gmf_R R_ (gmf_t F1_ F2) na).1.1
                exact ⟨h3, gmf_t F1_ (gmf_t F2 (gmf_a m3_ f3_)), (f3_ _ _).trans g2, fun D_ hD oo z_ => ld1 D_ (by omega) oo (ld2 D_ (by omega) oo (ld3 D_ (by omega) oo z_))⟩
            obtain ⟨h2, F2, g2, ld2⟩ := mid_
            obtain ⟨h3, ⟨m3_, f3_⟩, ld3⟩ := nO h2 k_ any all (tmF (wso s_) 20 (i_ + 1) t_).2.2.1 F2.1.1 (gmf_R R_ F2 na).1.1
            have F3 := gmf_t F2 (gmf_a m3_ f3_)
            obtain ⟨h4, F4, r4⟩ := ih_ (tmF (wso s_) 20 (i_ + 1) t_).2.1 (tmF (wso s_) 20 (i_ + 1) t_).2.2.2 (k_ + 1) (any || all) (tmF (wso s_) 20 (i_ + 1) t_).2.2.1 h3 _ (by omega) d2_ (by omega) (by omega) m3_.1 (gmf_R R_ F3 na) ((F3.2 _ _ (by omega)).trans e0_) ((F3.2 _ _ (by omega)).trans e1_) ((f3_ _ _).trans g2) (Or.inr (Or.inr ⟨_, _, rfl⟩)) q_
            exact ⟨h4, gmf_t F3 F4, fun D_ hD => ld2 D_ (by omega) _ (ld3 D_ (by omega) _ (r4 D_ hD))⟩
        · have e_ : syF (wso s_) (f_ + 1) i_ any all (v_ :: t_) = (false, (tmF (wso s_) 20 (i_ + 1) t_).2.1, false) := (if_pos gj).trans (if_neg ga)
          rw [e_] at q_
          cases q_
      · have e_ : syF (wso s_) (f_ + 1) i_ any all (v_ :: t_) = (false, i_, false) := if_neg gj
        rw [e_] at q_
        cases q_
/-- isSo -/
def gm0 (h_ h' : xH) : Prop := ysm h_ h' ∧ ∀ c_ j_, ¬ c_ = 152 → bpat h' c_ j_ = bpat h_ c_ j_
theorem gm0_t {a_ b_ c_ : xH} (h1 : gm0 a_ b_) (h2 : gm0 b_ c_) : gm0 a_ c_ := ⟨ysm_tr h1.1 h2.1, fun c_ j_ q_ => (h2.2 c_ j_ q_).trans (h1.2 c_ j_ q_)⟩
theorem gm0_g {h_ h' : xH} (F_ : gmf h_ h') : gm0 h_ h' := ⟨F_.1, fun c_ j_ q_ => F_.2 c_ j_ (fun e_ => q_ e_.1)⟩
theorem isX {a_ ia : Nat} {L_ : List Int32} {s_ : Int32} {h_ : xH} (hS_ : snds L_) (na : ¬ a_ = 152 ∧ ¬ ia = 152) (S_ : sHp h_) (R_ : rwx h_ a_ ia 12 L_) (q_ : (sayF (wso s_) L_).1 = true) : ∃ h', gm0 h_ h' ∧ ∀ D_, 91 ≤ D_ → xrun D_ 6 0 [(0, .index 152), (1, .index a_), (2, .int s_)] [] h_ (some (.int (bI (sayF (wso s_) L_).2.2)), h', []) := by
  have l12 := R_.2.2.1
  by_cases ga : (tmF (wso s_) 20 0 L_).1 = true
  · have e_ : sayF (wso s_) L_ = syF (wso s_) 20 (tmF (wso s_) 20 0 L_).2.1 false (tmF (wso s_) 20 0 L_).2.2.1 (tmF (wso s_) 20 0 L_).2.2.2 := if_pos ga
    rw [e_] at q_ ⊢
    obtain ⟨k1_, _⟩ := tmF_c (so := wso s_) 20 0 L_ 0 false (by omega) (Or.inl rfl)
    obtain ⟨b1, b2, b3, b4⟩ := k1_ ga
    have d2_ := tmF_d 20 0 L_ rfl ga
    have d3_ := tmF_p 20 0 L_ ga
    obtain ⟨h1, m1_, w0_, w1_, w2_, f1_, ld1⟩ := xisE (v2 := s_) S_ R_.1.1
    have R1 : rwx h1 a_ ia 12 L_ := rwx_keep R_ m1_ (fun c_ j_ z_ => f1_ c_ j_ (by omega) (by omega) (by omega))
    obtain ⟨h2, F2, g2, r2⟩ := ts_x hS_ na 20 0 L_ 0 h1 (by omega) rfl (by omega) (by omega) m1_.1 R1 w2_ w1_ w0_ ga
    have ld2 := ycv (d_ := 83) (mi := 6) (pc := 19) (cm := 8) (lo_ := [(3, .int 0), (0, .index 152), (1, .index a_), (2, .int s_)]) (st_ := [.int 0, .index 152]) (as_ := [.int 0]) (s' := []) rfl rfl (bcq_of (n_ := 152) (z_ := (1, 3)) m1_.1 rfl) rfl (xcc_l (List.forall_mem_cons.mpr ⟨rfl, List.forall_mem_cons.mpr ⟨xidx_i (bcq_lt (bcq_of (n_ := 152) (z_ := (1, 3)) m1_.1 rfl)), List.forall_mem_cons.mpr ⟨xidx_i (bcq_lt R1.1.1), List.forall_mem_cons.mpr ⟨rfl, fun q_ hq => absurd hq List.not_mem_nil⟩⟩⟩⟩) (fun t_ ht => absurd ht List.not_mem_nil) (Nat.le_of_ble_eq_true rfl)) r2
    obtain ⟨h3, m3_, f3_, ld3⟩ := xisA (v2 := s_) (v8 := bI (tmF (wso s_) 20 0 L_).2.2.1) (F2.1).1 (gmf_R R1 F2 na).1.1
    have F3 := gmf_t F2 (gmf_a m3_ f3_)
    obtain ⟨h4, F4, r4⟩ := is_lp hS_ na 20 (tmF (wso s_) 20 0 L_).2.1 (tmF (wso s_) 20 0 L_).2.2.2 0 false (tmF (wso s_) 20 0 L_).2.2.1 h3 _ (by omega) d2_ (by omega) (by omega) m3_.1 (gmf_R R1 F3 na) ((F3.2 _ _ (by omega)).trans w2_) ((F3.2 _ _ (by omega)).trans w1_) ((f3_ _ _).trans g2) (Or.inl rfl) q_
    exact ⟨h4, gm0_t ⟨m1_, fun c_ j_ q_ => f1_ c_ j_ (by omega) (by omega) (by omega)⟩ (gm0_g (gmf_t F3 F4)), fun D_ hD => ld1 D_ (by omega) _ (ld2 D_ (by omega) _ (ld3 D_ (by omega) _ (r4 D_ (by omega))))⟩
  · have e_ : sayF (wso s_) L_ = (false, (tmF (wso s_) 20 0 L_).2.1, false) := if_neg ga
    rw [e_] at q_
    cases q_
-- ===== says, the class
theorem x_says {W_ : Nat → List Int32} {V : Nat → Int32} {h_ : xH} {z_ d_ : Int32} (B_ : bInv bZ bIj h_) (K_ : okS W_ V) (H_ : SX W_ V h_) : ∃ h', ysm h_ h' ∧ (SX (saysF W_ V z_ d_).1 (saysF W_ V z_ d_).2.1 h' ∧ ∀ D_, 95 ≤ D_ → xrun D_ 100 0 [(0, .index 0), (1, .int z_), (2, .int d_)] [] h_ (some (.int (saysF W_ V z_ d_).2.2), h', [])) := by
  obtain ⟨y_, oy⟩ := xerr (k_ := 1) B_ (by omega)
  obtain ⟨y2, oy2⟩ := xerr (k_ := 2) B_ (by omega)
  have zz := z0_
  unfold saysF
  obtain ⟨h0, m0_, e_⟩ := xsyE (v1_ := z_) (v2 := d_) H_.1 (xNc H_) oy
  rcases e_ with ⟨g1, g2, f_, r_⟩ | ⟨g1, w0_, f_, r_⟩ | ⟨g1, g2, w0_, f_, r_⟩
  rotate_left
  · rw [pif_f (fun q_ => by have q2_ := q_.1; omega)]; exact ⟨h0, m0_, SX_e H_ m0_ f_, fun D_ hD => r_ D_ (by omega)⟩
  · rw [pif_f (fun q_ => by have q2_ := q_.1; omega)]; exact ⟨h0, m0_, SX_e H_ m0_ f_, fun D_ hD => r_ D_ (by omega)⟩
  have H0 := SX_fr H_ m0_ (fun c_ j_ _ => f_ c_ j_)
  obtain ⟨c_, hc_, hN_, rfl, ec⟩ := isC_n (z_ := z_) K_ ⟨by omega, by omega⟩
  obtain ⟨h1, ⟨H1_, F1_⟩, e1_⟩ := c_rdw (mi := 100) (pc := 17) (lo_ := [(0, .index 0), (1, .int (Int32.ofNat c_)), (2, .int d_)]) (z_ := d_) (s' := []) rfl (xcc_l (List.forall_mem_cons.mpr ⟨xidx_i (bcq_lt (bcq_of (n_ := 0) (z_ := (11, 15)) H0.1 rfl)), List.forall_mem_cons.mpr ⟨rfl, List.forall_mem_cons.mpr ⟨rfl, fun q_ hq => absurd hq List.not_mem_nil⟩⟩⟩) (fun t_ ht => absurd ht List.not_mem_nil) (Nat.le_of_ble_eq_true rfl)) K_ H0 (Or.inl ⟨rfl, rfl⟩)
  have fy : ∀ k_, bpat h1 323 k_ = bpat h_ 323 k_ := fun k_ => (F1_.2 _ _ (by omega) (by omega)).trans (f_ _ _)
  rcases e1_ with ⟨gw, RW, ld1⟩ | ⟨gw, ld1⟩
  · rw [pif_t ⟨⟨by omega, by omega⟩, gw⟩, ec]
    obtain ⟨s1_, s2_, s3_⟩ := cl_s H1_.1 hc_
    obtain ⟨h2, m2_, f2_, ld2⟩ := xsyG (v1_ := Int32.ofNat c_) (v2 := d_) H1_.1 s2_ (by rw [ec]; exact s1_) ⟨by omega, by omega⟩
    have H2_ := SX_fr H1_ m2_ (fun c_ j_ _ => f2_ c_ j_)
    obtain ⟨h3, ⟨H3, F3⟩, R3, ld3⟩ := c_hear (mi := 100) (pc := 50) (lo_ := [(0, .index 0), (1, .int (Int32.ofNat c_)), (2, .int d_)]) (s' := []) rfl (xcc_l (List.forall_mem_cons.mpr ⟨xidx_i (bcq_lt (bcq_of (n_ := 0) (z_ := (11, 15)) H2_.1 rfl)), List.forall_mem_cons.mpr ⟨rfl, List.forall_mem_cons.mpr ⟨rfl, fun q_ hq => absurd hq List.not_mem_nil⟩⟩⟩) (fun t_ ht => absurd ht List.not_mem_nil) (Nat.le_of_ble_eq_true rfl)) K_ H2_ (Or.inl ⟨rfl, rfl⟩) (Or.inl ⟨rfl, rfl⟩) hc_ gw (rwx_keep RW m2_ (fun c_ j_ _ => f2_ c_ j_))
    obtain ⟨h4, m4_, f4_, ld4⟩ := xsyH (v1_ := Int32.ofNat c_) (v2 := d_) H3.1
    have H4 := SX_fr H3 m4_ (fun c_ j_ _ => f4_ c_ j_)
    have R4 := rW_all R3 m4_ f4_
    have kc_ := K_.1.2.2.1 c_ hc_
    rw [Nat.zero_add] at kc_
    have hS_ : snds (hrd W_ V d_ (W_ c_)) := snds_hrf kc_.2
    obtain ⟨h5, ⟨m5_, f5_⟩, r5_⟩ := foX H4.1 hS_ R4.2.1
    have ld5 := ycv (d_ := 60) (mi := 100) (pc := 61) (cm := 5) (lo_ := [(0, .index 0), (1, .int (Int32.ofNat c_)), (2, .int d_)]) (st_ := [.index 318, .index 152]) (as_ := [.index 318]) (s' := []) rfl rfl (bcq_of (n_ := 152) (z_ := (1, 3)) H4.1 rfl) rfl (xcc_l (List.forall_mem_cons.mpr ⟨xidx_i (bcq_lt (bcq_of (n_ := 0) (z_ := (11, 15)) H4.1 rfl)), List.forall_mem_cons.mpr ⟨rfl, List.forall_mem_cons.mpr ⟨rfl, fun q_ hq => absurd hq List.not_mem_nil⟩⟩⟩) (fun t_ ht => absurd ht List.not_mem_nil) (Nat.le_of_ble_eq_true rfl)) r5_
    have H5 := SX_fr H4 m5_ (fun c_ j_ _ => f5_ c_ j_)
    have R5 := rW_all R4 m5_ f5_
    have l12 : (hrd W_ V d_ (W_ c_)).length ≤ 12 := R5.2.1.2.2.1
    have b_ := cf_b (hrd W_ V d_ (W_ c_)) 1 0 false
    have ei : (Int32.ofInt (cf 1 false 0 (hrd W_ V d_ (W_ c_)))).toInt = cf 1 false 0 (hrd W_ V d_ (W_ c_)) := Int32.toInt_ofInt_of_le (by omega) (by omega)
    obtain ⟨k1_, k2_⟩ := sayF_c (so := wso (V 3)) (l := hrd W_ V d_ (W_ c_)) (by omega)
    have M5_ := ysm_tr m0_ (ysm_tr F1_.1 (ysm_tr m2_ (ysm_tr F3.1 (ysm_tr m4_ m5_))))
    by_cases gs : (sayF (wso (V 3)) (hrd W_ V d_ (W_ c_))).1 = true
    · rw [if_pos gs]
      have q1_ := k1_ gs
      obtain ⟨h6, m6_, f6_, ld6⟩ := xsyI (v1_ := Int32.ofNat c_) (v2 := d_) (v5 := Int32.ofInt (cf 1 false 0 (hrd W_ V d_ (W_ c_)))) (v312 := V 3) H5.1 (SX_v H5 (show ((1, 12), 3) ∈ wvX by decide)) (by omega)
      have H6 := SX_fr H5 m6_ (fun c_ j_ _ => f6_ c_ j_)
      have R6 := rW_all R5 m6_ f6_
      obtain ⟨h7, F7, r7⟩ := isX hS_ ⟨by decide, by decide⟩ H6.1 R6.2.1 gs
      have ld7 := ycv (d_ := 91) (mi := 100) (pc := 88) (cm := 6) (lo_ := [(0, .index 0), (1, .int (Int32.ofNat c_)), (2, .int d_)]) (st_ := [.int (V 3), .index 318, .index 152]) (as_ := [.index 318, .int (V 3)]) (s' := []) rfl rfl (bcq_of (n_ := 152) (z_ := (1, 3)) H6.1 rfl) rfl (xcc_l (List.forall_mem_cons.mpr ⟨xidx_i (bcq_lt (bcq_of (n_ := 0) (z_ := (11, 15)) H6.1 rfl)), List.forall_mem_cons.mpr ⟨rfl, List.forall_mem_cons.mpr ⟨rfl, fun q_ hq => absurd hq List.not_mem_nil⟩⟩⟩) (fun t_ ht => absurd ht List.not_mem_nil) (Nat.le_of_ble_eq_true rfl)) r7
      have H7 := SX_fr H6 F7.1 (fun c_ j_ hc_ => F7.2 c_ j_ (fun q_ => by rw [q_] at hc_; exact absurd hc_ (by decide)))
      have fin_ : ∀ vb : Bool, ∃ h8, (ysm h7 h8 ∧ ∀ c_ j_, bpat h8 c_ j_ = bpat h7 c_ j_) ∧ ∀ D_, 60 ≤ D_ → xrun D_ 100 91 [(0, .index 0), (1, .int (Int32.ofNat c_)), (2, .int d_)] [.int (bI vb)] h7 (some (.int (bI vb)), h8, []) := by
        intro vb
        cases vb with
        | true =>
          obtain ⟨h8, m8_, f8_, r8⟩ := xsyR1 (v1_ := Int32.ofNat c_) (v2 := d_) (F7.1).1
          exact ⟨h8, ⟨m8_, f8_⟩, r8⟩
        | false =>
          obtain ⟨h8, m8_, f8_, r8⟩ := xsyR0 (v1_ := Int32.ofNat c_) (v2 := d_) (F7.1).1
          exact ⟨h8, ⟨m8_, f8_⟩, r8⟩
      obtain ⟨h8, ⟨m8_, f8_⟩, r8⟩ := fin_ (sayF (wso (V 3)) (hrd W_ V d_ (W_ c_))).2.2
      exact ⟨h8, ysm_tr M5_ (ysm_tr m6_ (ysm_tr F7.1 m8_)), SX_fr H7 m8_ (fun c_ j_ _ => f8_ c_ j_), fun D_ hD => r_ D_ (by omega) _ (ld1 D_ (by omega) _ (ld2 D_ (by omega) _ (ld3 D_ (by omega) _ (ld4 D_ (by omega) _ (ld5 D_ (by omega) _ (ld6 D_ (by omega) _ (ld7 D_ (by omega) _ (r8 D_ (by omega)))))))))⟩
    · rw [if_neg gs]
      have q2_ := k2_ (by cases q_ : (sayF (wso (V 3)) (hrd W_ V d_ (W_ c_))).1 with
        | true => exact absurd q_ gs
        | false => rfl)
      obtain ⟨h6, m6_, w0_, f6_, r6⟩ := xsyN (v1_ := Int32.ofNat c_) (v2 := d_) (v5 := Int32.ofInt (cf 1 false 0 (hrd W_ V d_ (W_ c_)))) H5.1 ((f5_ _ _).trans ((f4_ _ _).trans ((F3.2 _ _ (by omega) (by omega) (by omega) (by omega)).trans ((f2_ _ _).trans ((fy 2).trans oy2))))) (by omega)
      exact ⟨h6, ysm_tr M5_ m6_, SX_e H5 m6_ f6_, fun D_ hD => r_ D_ (by omega) _ (ld1 D_ (by omega) _ (ld2 D_ (by omega) _ (ld3 D_ (by omega) _ (ld4 D_ (by omega) _ (ld5 D_ (by omega) _ (r6 D_ (by omega)))))))⟩
  · rw [pif_f (fun q_ => gw q_.2)]
    obtain ⟨h2, m2_, w0_, f2_, r2⟩ := xsyF (v1_ := Int32.ofNat c_) (v2 := d_) H1_.1 ((fy 1).trans oy)
    exact ⟨h2, ysm_tr m0_ (ysm_tr F1_.1 m2_), SX_e H1_ m2_ f2_, fun D_ hD => r_ D_ (by omega) _ (ld1 D_ (by omega) _ (r2 D_ (by omega)))⟩
