-- ===== texts worked out, the reference
-- wmN_v0: 42 steps, 1 ends, 0 returns
def wmN_v0_L : List (Nat × Nat × Nat) := []
def wmN_v0_O : yO := [(338, .int 0, .index 339), (339, .arg 2, .arg 300), (339, .add (.add (.arg 2) (.int 1)) (.mul (.int 2) (.arg 4)), .int 0), (339, .add (.add (.arg 2) (.int 2)) (.mul (.int 2) (.arg 4)), .arg 302), (338, .int 13, .index 347)]
def wmN_v0_A : yA := (yZ wmN_v0_L, [(.arg 2, 768), (.add (.add (.arg 2) (.int 1)) (.mul (.int 2) (.arg 4)), 768), (.add (.add (.arg 2) (.int 2)) (.mul (.int 2) (.arg 4)), 768), (.arg 3, 64)], [], [], [])
def wmN_v0_C : List xB := [(.lt, .arg 4, .arg 300, true)]
def wmN_v0_ss : List yS := [(14, [(4, .add (.arg 4) (.int 1)), (3, .add (.arg 3) (.int 1)), (6, .arg 302), (5, .int 0), (2, .arg 2), (0, .index 338), (1, .arg 1)], [], [(347, .arg 3, .arg 302), (338, .int 0, .index 339), (339, .arg 2, .arg 300), (339, .add (.add (.arg 2) (.int 1)) (.mul (.int 2) (.arg 4)), .int 0), (339, .add (.add (.arg 2) (.int 2)) (.mul (.int 2) (.arg 4)), .arg 302), (338, .int 13, .index 347)], [(.lt, .arg 4, .arg 300, true)], [(347, .arg 3)])]
def wmN_v0_rs : List yR := []
theorem wmN_v0_w : ywa wmN_v0_A wmN_v0_ss wmN_v0_rs = true := by decide +kernel
theorem wmN_v0_k : yis (yev wmN_v0_A 3000 60 187 [14] (14, [(4, .arg 4), (3, .arg 3), (2, .arg 2), (0, .index 338), (1, .arg 1)], [], wmN_v0_O, wmN_v0_C, [])) wmN_v0_ss wmN_v0_rs = true := by decide +kernel
def wmN_v0_r (v1_ v2 v3 v4_ v300 v302 : Int32) (k_ : Nat) : Value := bif Nat.beq k_ 1 then .int v1_ else (bif Nat.beq k_ 2 then .int v2 else (bif Nat.beq k_ 3 then .int v3 else (bif Nat.beq k_ 4 then .int v4_ else (bif Nat.beq k_ 300 then .int v300 else (bif Nat.beq k_ 302 then .int v302 else (.int 0))))))
def wmN_v0_s (n_ : Nat) : Nat := 0
theorem wmN_v0 {h_ : xH} {v1_ v2 v3 v4_ v300 v302 : Int32} (hs : sHp h_) (o0_ : bpat h_ 339 (v2).toInt.toNat = some (.int v300)) (o1 : bpat h_ 339 (((v2 + (1 : Int32)) + ((2 : Int32) * v4_))).toInt.toNat = some (.int (0 : Int32))) (o2 : bpat h_ 339 (((v2 + (2 : Int32)) + ((2 : Int32) * v4_))).toInt.toNat = some (.int v302)) (b0 : 0 ≤ (v2).toInt ∧ (v2).toInt < 768) (b1 : 0 ≤ (((v2 + (1 : Int32)) + ((2 : Int32) * v4_))).toInt ∧ (((v2 + (1 : Int32)) + ((2 : Int32) * v4_))).toInt < 768) (b2 : 0 ≤ (((v2 + (2 : Int32)) + ((2 : Int32) * v4_))).toInt ∧ (((v2 + (2 : Int32)) + ((2 : Int32) * v4_))).toInt < 768) (b3 : 0 ≤ (v3).toInt ∧ (v3).toInt < 64) (c0_ : v4_.toInt < v300.toInt) : ∃ h', ysm h_ h' ∧ (((bpat h' 347 (v3).toInt.toNat = some (.int v302)) ∧ (∀ a_ j_ : Nat, ¬ (a_ = 347 ∧ j_ = (v3).toInt.toNat) → bpat h' a_ j_ = bpat h_ a_ j_) ∧ (bldD 60 187 14 [(4, .int v4_), (3, .int v3), (2, .int v2), (0, .index 338), (1, .int v1_)] [] h_ 14 [(4, .int (v4_ + (1 : Int32))), (3, .int (v3 + (1 : Int32))), (6, .int v302), (5, .int (0 : Int32)), (2, .int v2), (0, .index 338), (1, .int v1_)] [] h'))) := by
  have hA : yas wmN_v0_A (wmN_v0_r v1_ v2 v3 v4_ v300 v302) (yg wmN_v0_s) := ⟨List.forall_mem_cons.mpr ⟨b0, List.forall_mem_cons.mpr ⟨b1, List.forall_mem_cons.mpr ⟨b2, List.forall_mem_cons.mpr ⟨b3, fun q_ hq => absurd hq List.not_mem_nil⟩⟩⟩⟩, fun q_ hq => absurd hq List.not_mem_nil, fun q_ hq => absurd hq List.not_mem_nil, fun n_ hn => yg_lo hn, fun q_ hq => absurd hq List.not_mem_nil⟩
  have Hs : ysh wmN_v0_A.1 (yg wmN_v0_s) h_ := ysh_of2 hs (fun q_ hq => absurd hq List.not_mem_nil)
  have Ho : ymem (wmN_v0_r v1_ v2 v3 v4_ v300 v302) (yg wmN_v0_s) wmN_v0_O h_ := List.forall_mem_cons.mpr ⟨bpat_some (fxr_at hs.2 (show fxk fxl 338 0 = some 339 by decide +kernel)), List.forall_mem_cons.mpr ⟨bpat_some o0_, List.forall_mem_cons.mpr ⟨bpat_some o1, List.forall_mem_cons.mpr ⟨bpat_some o2, List.forall_mem_cons.mpr ⟨bpat_some (fxr_at hs.2 (show fxk fxl 338 13 = some 347 by decide +kernel)), fun q_ hq => absurd hq List.not_mem_nil⟩⟩⟩⟩⟩
  have HC : ∀ q_ ∈ wmN_v0_C, xhold (wmN_v0_r v1_ v2 v3 v4_ v300 v302) q_ := List.forall_mem_cons.mpr ⟨xh_ltT c0_, fun q_ hq => absurd hq List.not_mem_nil⟩
  rcases yrun (yis_ok wmN_v0_k) hA Hs Ho HC with ⟨q_, hq, h', K_, G_⟩ | ⟨q_, hq, h', K_, G_⟩
  · have e_ := List.mem_singleton.mp hq
    subst e_
    exact ⟨h', yfr_sm K_.2.2.2 hs K_.1 (ywa_s wmN_v0_w List.mem_cons_self), ⟨bpat_of (K_.2.1 _ List.mem_cons_self), fun a_ j_ n0_ => yfr_bp K_.2.2.2 (List.forall_mem_cons.mpr ⟨fun e_ => n0_ ⟨e_.1.symm, e_.2.symm⟩, fun q_ hq => absurd hq List.not_mem_nil⟩), G_⟩⟩
  · cases hq
-- wmN_v1: 42 steps, 1 ends, 0 returns
def wmN_v1_L : List (Nat × Nat × Nat) := []
def wmN_v1_O : yO := [(338, .int 0, .index 339), (339, .arg 2, .arg 300), (339, .add (.add (.arg 2) (.int 1)) (.mul (.int 2) (.arg 4)), .int 0), (339, .add (.add (.arg 2) (.int 2)) (.mul (.int 2) (.arg 4)), .arg 302), (338, .int 13, .index 347)]
def wmN_v1_A : yA := (yZ wmN_v1_L, [(.arg 2, 768), (.add (.add (.arg 2) (.int 1)) (.mul (.int 2) (.arg 4)), 768), (.add (.add (.arg 2) (.int 2)) (.mul (.int 2) (.arg 4)), 768), (.arg 3, 64)], [], [], [])
def wmN_v1_C : List xB := [(.lt, .arg 4, .arg 300, true)]
def wmN_v1_ss : List yS := [(14, [(4, .add (.arg 4) (.int 1)), (3, .add (.arg 3) (.int 1)), (6, .arg 302), (5, .int 0), (2, .arg 2), (0, .index 338), (1, .arg 1)], [], [(347, .arg 3, .arg 302), (338, .int 0, .index 339), (339, .arg 2, .arg 300), (339, .add (.add (.arg 2) (.int 1)) (.mul (.int 2) (.arg 4)), .int 0), (339, .add (.add (.arg 2) (.int 2)) (.mul (.int 2) (.arg 4)), .arg 302), (338, .int 13, .index 347)], [(.lt, .arg 4, .arg 300, true)], [(347, .arg 3)])]
def wmN_v1_rs : List yR := []
theorem wmN_v1_w : ywa wmN_v1_A wmN_v1_ss wmN_v1_rs = true := by decide +kernel
theorem wmN_v1_k : yis (yev wmN_v1_A 3000 60 187 [14] (14, [(4, .arg 4), (3, .arg 3), (6, .arg 906), (5, .arg 905), (2, .arg 2), (0, .index 338), (1, .arg 1)], [], wmN_v1_O, wmN_v1_C, [])) wmN_v1_ss wmN_v1_rs = true := by decide +kernel
def wmN_v1_r (v1_ v2 v3 v4_ v300 v302 v905 v906 : Int32) (k_ : Nat) : Value := bif Nat.beq k_ 1 then .int v1_ else (bif Nat.beq k_ 2 then .int v2 else (bif Nat.beq k_ 3 then .int v3 else (bif Nat.beq k_ 4 then .int v4_ else (bif Nat.beq k_ 300 then .int v300 else (bif Nat.beq k_ 302 then .int v302 else (bif Nat.beq k_ 905 then .int v905 else (bif Nat.beq k_ 906 then .int v906 else (.int 0))))))))
def wmN_v1_s (n_ : Nat) : Nat := 0
theorem wmN_v1 {h_ : xH} {v1_ v2 v3 v4_ v300 v302 v905 v906 : Int32} (hs : sHp h_) (o0_ : bpat h_ 339 (v2).toInt.toNat = some (.int v300)) (o1 : bpat h_ 339 (((v2 + (1 : Int32)) + ((2 : Int32) * v4_))).toInt.toNat = some (.int (0 : Int32))) (o2 : bpat h_ 339 (((v2 + (2 : Int32)) + ((2 : Int32) * v4_))).toInt.toNat = some (.int v302)) (b0 : 0 ≤ (v2).toInt ∧ (v2).toInt < 768) (b1 : 0 ≤ (((v2 + (1 : Int32)) + ((2 : Int32) * v4_))).toInt ∧ (((v2 + (1 : Int32)) + ((2 : Int32) * v4_))).toInt < 768) (b2 : 0 ≤ (((v2 + (2 : Int32)) + ((2 : Int32) * v4_))).toInt ∧ (((v2 + (2 : Int32)) + ((2 : Int32) * v4_))).toInt < 768) (b3 : 0 ≤ (v3).toInt ∧ (v3).toInt < 64) (c0_ : v4_.toInt < v300.toInt) : ∃ h', ysm h_ h' ∧ (((bpat h' 347 (v3).toInt.toNat = some (.int v302)) ∧ (∀ a_ j_ : Nat, ¬ (a_ = 347 ∧ j_ = (v3).toInt.toNat) → bpat h' a_ j_ = bpat h_ a_ j_) ∧ (bldD 60 187 14 [(4, .int v4_), (3, .int v3), (6, .int v906), (5, .int v905), (2, .int v2), (0, .index 338), (1, .int v1_)] [] h_ 14 [(4, .int (v4_ + (1 : Int32))), (3, .int (v3 + (1 : Int32))), (6, .int v302), (5, .int (0 : Int32)), (2, .int v2), (0, .index 338), (1, .int v1_)] [] h'))) := by
  have hA : yas wmN_v1_A (wmN_v1_r v1_ v2 v3 v4_ v300 v302 v905 v906) (yg wmN_v1_s) := ⟨List.forall_mem_cons.mpr ⟨b0, List.forall_mem_cons.mpr ⟨b1, List.forall_mem_cons.mpr ⟨b2, List.forall_mem_cons.mpr ⟨b3, fun q_ hq => absurd hq List.not_mem_nil⟩⟩⟩⟩, fun q_ hq => absurd hq List.not_mem_nil, fun q_ hq => absurd hq List.not_mem_nil, fun n_ hn => yg_lo hn, fun q_ hq => absurd hq List.not_mem_nil⟩
  have Hs : ysh wmN_v1_A.1 (yg wmN_v1_s) h_ := ysh_of2 hs (fun q_ hq => absurd hq List.not_mem_nil)
  have Ho : ymem (wmN_v1_r v1_ v2 v3 v4_ v300 v302 v905 v906) (yg wmN_v1_s) wmN_v1_O h_ := List.forall_mem_cons.mpr ⟨bpat_some (fxr_at hs.2 (show fxk fxl 338 0 = some 339 by decide +kernel)), List.forall_mem_cons.mpr ⟨bpat_some o0_, List.forall_mem_cons.mpr ⟨bpat_some o1, List.forall_mem_cons.mpr ⟨bpat_some o2, List.forall_mem_cons.mpr ⟨bpat_some (fxr_at hs.2 (show fxk fxl 338 13 = some 347 by decide +kernel)), fun q_ hq => absurd hq List.not_mem_nil⟩⟩⟩⟩⟩
  have HC : ∀ q_ ∈ wmN_v1_C, xhold (wmN_v1_r v1_ v2 v3 v4_ v300 v302 v905 v906) q_ := List.forall_mem_cons.mpr ⟨xh_ltT c0_, fun q_ hq => absurd hq List.not_mem_nil⟩
  rcases yrun (yis_ok wmN_v1_k) hA Hs Ho HC with ⟨q_, hq, h', K_, G_⟩ | ⟨q_, hq, h', K_, G_⟩
  · have e_ := List.mem_singleton.mp hq
    subst e_
    exact ⟨h', yfr_sm K_.2.2.2 hs K_.1 (ywa_s wmN_v1_w List.mem_cons_self), ⟨bpat_of (K_.2.1 _ List.mem_cons_self), fun a_ j_ n0_ => yfr_bp K_.2.2.2 (List.forall_mem_cons.mpr ⟨fun e_ => n0_ ⟨e_.1.symm, e_.2.symm⟩, fun q_ hq => absurd hq List.not_mem_nil⟩), G_⟩⟩
  · cases hq
-- wmN_v2: 42 steps, 1 ends, 0 returns
def wmN_v2_L : List (Nat × Nat × Nat) := []
def wmN_v2_O : yO := [(338, .int 0, .index 339), (339, .arg 2, .arg 300), (339, .add (.add (.arg 2) (.int 1)) (.mul (.int 2) (.arg 4)), .int 0), (339, .add (.add (.arg 2) (.int 2)) (.mul (.int 2) (.arg 4)), .arg 302), (338, .int 13, .index 347)]
def wmN_v2_A : yA := (yZ wmN_v2_L, [(.arg 2, 768), (.add (.add (.arg 2) (.int 1)) (.mul (.int 2) (.arg 4)), 768), (.add (.add (.arg 2) (.int 2)) (.mul (.int 2) (.arg 4)), 768), (.arg 3, 64)], [], [], [])
def wmN_v2_C : List xB := [(.lt, .arg 4, .arg 300, true)]
def wmN_v2_ss : List yS := [(14, [(4, .add (.arg 4) (.int 1)), (3, .add (.arg 3) (.int 1)), (6, .arg 302), (5, .int 0), (2, .arg 2), (0, .index 338), (1, .arg 1)], [], [(347, .arg 3, .arg 302), (338, .int 0, .index 339), (339, .arg 2, .arg 300), (339, .add (.add (.arg 2) (.int 1)) (.mul (.int 2) (.arg 4)), .int 0), (339, .add (.add (.arg 2) (.int 2)) (.mul (.int 2) (.arg 4)), .arg 302), (338, .int 13, .index 347)], [(.lt, .arg 4, .arg 300, true)], [(347, .arg 3)])]
def wmN_v2_rs : List yR := []
theorem wmN_v2_w : ywa wmN_v2_A wmN_v2_ss wmN_v2_rs = true := by decide +kernel
theorem wmN_v2_k : yis (yev wmN_v2_A 3000 60 187 [14] (14, [(4, .arg 4), (6, .arg 906), (5, .arg 905), (3, .arg 3), (2, .arg 2), (0, .index 338), (1, .arg 1)], [], wmN_v2_O, wmN_v2_C, [])) wmN_v2_ss wmN_v2_rs = true := by decide +kernel
def wmN_v2_r (v1_ v2 v3 v4_ v300 v302 v905 v906 : Int32) (k_ : Nat) : Value := bif Nat.beq k_ 1 then .int v1_ else (bif Nat.beq k_ 2 then .int v2 else (bif Nat.beq k_ 3 then .int v3 else (bif Nat.beq k_ 4 then .int v4_ else (bif Nat.beq k_ 300 then .int v300 else (bif Nat.beq k_ 302 then .int v302 else (bif Nat.beq k_ 905 then .int v905 else (bif Nat.beq k_ 906 then .int v906 else (.int 0))))))))
def wmN_v2_s (n_ : Nat) : Nat := 0
theorem wmN_v2 {h_ : xH} {v1_ v2 v3 v4_ v300 v302 v905 v906 : Int32} (hs : sHp h_) (o0_ : bpat h_ 339 (v2).toInt.toNat = some (.int v300)) (o1 : bpat h_ 339 (((v2 + (1 : Int32)) + ((2 : Int32) * v4_))).toInt.toNat = some (.int (0 : Int32))) (o2 : bpat h_ 339 (((v2 + (2 : Int32)) + ((2 : Int32) * v4_))).toInt.toNat = some (.int v302)) (b0 : 0 ≤ (v2).toInt ∧ (v2).toInt < 768) (b1 : 0 ≤ (((v2 + (1 : Int32)) + ((2 : Int32) * v4_))).toInt ∧ (((v2 + (1 : Int32)) + ((2 : Int32) * v4_))).toInt < 768) (b2 : 0 ≤ (((v2 + (2 : Int32)) + ((2 : Int32) * v4_))).toInt ∧ (((v2 + (2 : Int32)) + ((2 : Int32) * v4_))).toInt < 768) (b3 : 0 ≤ (v3).toInt ∧ (v3).toInt < 64) (c0_ : v4_.toInt < v300.toInt) : ∃ h', ysm h_ h' ∧ (((bpat h' 347 (v3).toInt.toNat = some (.int v302)) ∧ (∀ a_ j_ : Nat, ¬ (a_ = 347 ∧ j_ = (v3).toInt.toNat) → bpat h' a_ j_ = bpat h_ a_ j_) ∧ (bldD 60 187 14 [(4, .int v4_), (6, .int v906), (5, .int v905), (3, .int v3), (2, .int v2), (0, .index 338), (1, .int v1_)] [] h_ 14 [(4, .int (v4_ + (1 : Int32))), (3, .int (v3 + (1 : Int32))), (6, .int v302), (5, .int (0 : Int32)), (2, .int v2), (0, .index 338), (1, .int v1_)] [] h'))) := by
  have hA : yas wmN_v2_A (wmN_v2_r v1_ v2 v3 v4_ v300 v302 v905 v906) (yg wmN_v2_s) := ⟨List.forall_mem_cons.mpr ⟨b0, List.forall_mem_cons.mpr ⟨b1, List.forall_mem_cons.mpr ⟨b2, List.forall_mem_cons.mpr ⟨b3, fun q_ hq => absurd hq List.not_mem_nil⟩⟩⟩⟩, fun q_ hq => absurd hq List.not_mem_nil, fun q_ hq => absurd hq List.not_mem_nil, fun n_ hn => yg_lo hn, fun q_ hq => absurd hq List.not_mem_nil⟩
  have Hs : ysh wmN_v2_A.1 (yg wmN_v2_s) h_ := ysh_of2 hs (fun q_ hq => absurd hq List.not_mem_nil)
  have Ho : ymem (wmN_v2_r v1_ v2 v3 v4_ v300 v302 v905 v906) (yg wmN_v2_s) wmN_v2_O h_ := List.forall_mem_cons.mpr ⟨bpat_some (fxr_at hs.2 (show fxk fxl 338 0 = some 339 by decide +kernel)), List.forall_mem_cons.mpr ⟨bpat_some o0_, List.forall_mem_cons.mpr ⟨bpat_some o1, List.forall_mem_cons.mpr ⟨bpat_some o2, List.forall_mem_cons.mpr ⟨bpat_some (fxr_at hs.2 (show fxk fxl 338 13 = some 347 by decide +kernel)), fun q_ hq => absurd hq List.not_mem_nil⟩⟩⟩⟩⟩
  have HC : ∀ q_ ∈ wmN_v2_C, xhold (wmN_v2_r v1_ v2 v3 v4_ v300 v302 v905 v906) q_ := List.forall_mem_cons.mpr ⟨xh_ltT c0_, fun q_ hq => absurd hq List.not_mem_nil⟩
  rcases yrun (yis_ok wmN_v2_k) hA Hs Ho HC with ⟨q_, hq, h', K_, G_⟩ | ⟨q_, hq, h', K_, G_⟩
  · have e_ := List.mem_singleton.mp hq
    subst e_
    exact ⟨h', yfr_sm K_.2.2.2 hs K_.1 (ywa_s wmN_v2_w List.mem_cons_self), ⟨bpat_of (K_.2.1 _ List.mem_cons_self), fun a_ j_ n0_ => yfr_bp K_.2.2.2 (List.forall_mem_cons.mpr ⟨fun e_ => n0_ ⟨e_.1.symm, e_.2.symm⟩, fun q_ hq => absurd hq List.not_mem_nil⟩), G_⟩⟩
  · cases hq
def wmN_hd (p1_ p2_ p3_ p4_ : Int32) (lo_ : xL) : Prop := (lo_ = [(4, .int p4_), (3, .int p3_), (2, .int p2_), (0, .index 338), (1, .int p1_)]) ∨ (∃ y6 y5 : Int32, lo_ = [(4, .int p4_), (3, .int p3_), (6, .int y6), (5, .int y5), (2, .int p2_), (0, .index 338), (1, .int p1_)]) ∨ (∃ y6 y5 : Int32, lo_ = [(4, .int p4_), (6, .int y6), (5, .int y5), (3, .int p3_), (2, .int p2_), (0, .index 338), (1, .int p1_)])
theorem wmN {h_ : xH} {v1_ v2 v3 v4_ v300 v302 : Int32} {lo_ : xL} (hs : sHp h_) (o0_ : bpat h_ 339 (v2).toInt.toNat = some (.int v300)) (o1 : bpat h_ 339 (((v2 + (1 : Int32)) + ((2 : Int32) * v4_))).toInt.toNat = some (.int (0 : Int32))) (o2 : bpat h_ 339 (((v2 + (2 : Int32)) + ((2 : Int32) * v4_))).toInt.toNat = some (.int v302)) (b0 : 0 ≤ (v2).toInt ∧ (v2).toInt < 768) (b1 : 0 ≤ (((v2 + (1 : Int32)) + ((2 : Int32) * v4_))).toInt ∧ (((v2 + (1 : Int32)) + ((2 : Int32) * v4_))).toInt < 768) (b2 : 0 ≤ (((v2 + (2 : Int32)) + ((2 : Int32) * v4_))).toInt ∧ (((v2 + (2 : Int32)) + ((2 : Int32) * v4_))).toInt < 768) (b3 : 0 ≤ (v3).toInt ∧ (v3).toInt < 64) (c0_ : v4_.toInt < v300.toInt) (H_ : wmN_hd v1_ v2 v3 v4_ lo_) : ∃ h', ysm h_ h' ∧ (((bpat h' 347 (v3).toInt.toNat = some (.int v302)) ∧ (∀ a_ j_ : Nat, ¬ (a_ = 347 ∧ j_ = (v3).toInt.toNat) → bpat h' a_ j_ = bpat h_ a_ j_) ∧ (∃ lo', wmN_hd v1_ v2 (v3 + (1 : Int32)) (v4_ + (1 : Int32)) lo' ∧ bldD 60 187 14 lo_ [] h_ 14 lo' [] h'))) := by
  rcases H_ with rfl | ⟨y6, y5, rfl⟩ | ⟨y6, y5, rfl⟩
  · obtain ⟨h', m_, e_⟩ := wmN_v0 hs o0_ o1 o2 b0 b1 b2 b3 c0_
    refine ⟨h', m_, ?_⟩
    obtain ⟨g0, g1, g2⟩ := e_
    exact ⟨g0, g1, ⟨_, Or.inr (Or.inl (⟨_, _, rfl⟩)), g2⟩⟩
  · obtain ⟨h', m_, e_⟩ := wmN_v1 hs o0_ o1 o2 b0 b1 b2 b3 c0_
    refine ⟨h', m_, ?_⟩
    obtain ⟨g0, g1, g2⟩ := e_
    exact ⟨g0, g1, ⟨_, Or.inr (Or.inl (⟨_, _, rfl⟩)), g2⟩⟩
  · obtain ⟨h', m_, e_⟩ := wmN_v2 hs o0_ o1 o2 b0 b1 b2 b3 c0_
    refine ⟨h', m_, ?_⟩
    obtain ⟨g0, g1, g2⟩ := e_
    exact ⟨g0, g1, ⟨_, Or.inr (Or.inl (⟨_, _, rfl⟩)), g2⟩⟩
-- wmV_v0: 47 steps, 1 ends, 0 returns
def wmV_v0_L : List (Nat × Nat × Nat) := []
def wmV_v0_O : yO := [(338, .int 0, .index 339), (339, .arg 2, .arg 300), (339, .add (.add (.arg 2) (.int 1)) (.mul (.int 2) (.arg 4)), .int 1), (339, .add (.add (.arg 2) (.int 2)) (.mul (.int 2) (.arg 4)), .arg 302), (338, .int 13, .index 347), (338, .int 12, .index 346), (346, .arg 302, .arg 320)]
def wmV_v0_A : yA := (yZ wmV_v0_L, [(.arg 2, 768), (.add (.add (.arg 2) (.int 1)) (.mul (.int 2) (.arg 4)), 768), (.add (.add (.arg 2) (.int 2)) (.mul (.int 2) (.arg 4)), 768), (.arg 3, 64), (.arg 302, 128)], [], [], [])
def wmV_v0_C : List xB := [(.lt, .arg 4, .arg 300, true)]
def wmV_v0_ss : List yS := [(14, [(4, .add (.arg 4) (.int 1)), (3, .add (.arg 3) (.int 1)), (6, .arg 302), (5, .int 1), (2, .arg 2), (0, .index 338), (1, .arg 1)], [], [(347, .arg 3, .arg 320), (338, .int 0, .index 339), (339, .arg 2, .arg 300), (339, .add (.add (.arg 2) (.int 1)) (.mul (.int 2) (.arg 4)), .int 1), (339, .add (.add (.arg 2) (.int 2)) (.mul (.int 2) (.arg 4)), .arg 302), (338, .int 13, .index 347), (338, .int 12, .index 346), (346, .arg 302, .arg 320)], [(.lt, .arg 4, .arg 300, true)], [(347, .arg 3)])]
def wmV_v0_rs : List yR := []
theorem wmV_v0_w : ywa wmV_v0_A wmV_v0_ss wmV_v0_rs = true := by decide +kernel
theorem wmV_v0_k : yis (yev wmV_v0_A 3000 60 187 [14] (14, [(4, .arg 4), (3, .arg 3), (2, .arg 2), (0, .index 338), (1, .arg 1)], [], wmV_v0_O, wmV_v0_C, [])) wmV_v0_ss wmV_v0_rs = true := by decide +kernel
def wmV_v0_r (v1_ v2 v3 v4_ v300 v302 v320 : Int32) (k_ : Nat) : Value := bif Nat.beq k_ 1 then .int v1_ else (bif Nat.beq k_ 2 then .int v2 else (bif Nat.beq k_ 3 then .int v3 else (bif Nat.beq k_ 4 then .int v4_ else (bif Nat.beq k_ 300 then .int v300 else (bif Nat.beq k_ 302 then .int v302 else (bif Nat.beq k_ 320 then .int v320 else (.int 0)))))))
def wmV_v0_s (n_ : Nat) : Nat := 0
theorem wmV_v0 {h_ : xH} {v1_ v2 v3 v4_ v300 v302 v320 : Int32} (hs : sHp h_) (o0_ : bpat h_ 339 (v2).toInt.toNat = some (.int v300)) (o1 : bpat h_ 339 (((v2 + (1 : Int32)) + ((2 : Int32) * v4_))).toInt.toNat = some (.int (1 : Int32))) (o2 : bpat h_ 339 (((v2 + (2 : Int32)) + ((2 : Int32) * v4_))).toInt.toNat = some (.int v302)) (o3_ : bpat h_ 346 (v302).toInt.toNat = some (.int v320)) (b0 : 0 ≤ (v2).toInt ∧ (v2).toInt < 768) (b1 : 0 ≤ (((v2 + (1 : Int32)) + ((2 : Int32) * v4_))).toInt ∧ (((v2 + (1 : Int32)) + ((2 : Int32) * v4_))).toInt < 768) (b2 : 0 ≤ (((v2 + (2 : Int32)) + ((2 : Int32) * v4_))).toInt ∧ (((v2 + (2 : Int32)) + ((2 : Int32) * v4_))).toInt < 768) (b3 : 0 ≤ (v3).toInt ∧ (v3).toInt < 64) (b4 : 0 ≤ (v302).toInt ∧ (v302).toInt < 128) (c0_ : v4_.toInt < v300.toInt) : ∃ h', ysm h_ h' ∧ (((bpat h' 347 (v3).toInt.toNat = some (.int v320)) ∧ (∀ a_ j_ : Nat, ¬ (a_ = 347 ∧ j_ = (v3).toInt.toNat) → bpat h' a_ j_ = bpat h_ a_ j_) ∧ (bldD 60 187 14 [(4, .int v4_), (3, .int v3), (2, .int v2), (0, .index 338), (1, .int v1_)] [] h_ 14 [(4, .int (v4_ + (1 : Int32))), (3, .int (v3 + (1 : Int32))), (6, .int v302), (5, .int (1 : Int32)), (2, .int v2), (0, .index 338), (1, .int v1_)] [] h'))) := by
  have hA : yas wmV_v0_A (wmV_v0_r v1_ v2 v3 v4_ v300 v302 v320) (yg wmV_v0_s) := ⟨List.forall_mem_cons.mpr ⟨b0, List.forall_mem_cons.mpr ⟨b1, List.forall_mem_cons.mpr ⟨b2, List.forall_mem_cons.mpr ⟨b3, List.forall_mem_cons.mpr ⟨b4, fun q_ hq => absurd hq List.not_mem_nil⟩⟩⟩⟩⟩, fun q_ hq => absurd hq List.not_mem_nil, fun q_ hq => absurd hq List.not_mem_nil, fun n_ hn => yg_lo hn, fun q_ hq => absurd hq List.not_mem_nil⟩
  have Hs : ysh wmV_v0_A.1 (yg wmV_v0_s) h_ := ysh_of2 hs (fun q_ hq => absurd hq List.not_mem_nil)
  have Ho : ymem (wmV_v0_r v1_ v2 v3 v4_ v300 v302 v320) (yg wmV_v0_s) wmV_v0_O h_ := List.forall_mem_cons.mpr ⟨bpat_some (fxr_at hs.2 (show fxk fxl 338 0 = some 339 by decide +kernel)), List.forall_mem_cons.mpr ⟨bpat_some o0_, List.forall_mem_cons.mpr ⟨bpat_some o1, List.forall_mem_cons.mpr ⟨bpat_some o2, List.forall_mem_cons.mpr ⟨bpat_some (fxr_at hs.2 (show fxk fxl 338 13 = some 347 by decide +kernel)), List.forall_mem_cons.mpr ⟨bpat_some (fxr_at hs.2 (show fxk fxl 338 12 = some 346 by decide +kernel)), List.forall_mem_cons.mpr ⟨bpat_some o3_, fun q_ hq => absurd hq List.not_mem_nil⟩⟩⟩⟩⟩⟩⟩
  have HC : ∀ q_ ∈ wmV_v0_C, xhold (wmV_v0_r v1_ v2 v3 v4_ v300 v302 v320) q_ := List.forall_mem_cons.mpr ⟨xh_ltT c0_, fun q_ hq => absurd hq List.not_mem_nil⟩
  rcases yrun (yis_ok wmV_v0_k) hA Hs Ho HC with ⟨q_, hq, h', K_, G_⟩ | ⟨q_, hq, h', K_, G_⟩
  · have e_ := List.mem_singleton.mp hq
    subst e_
    exact ⟨h', yfr_sm K_.2.2.2 hs K_.1 (ywa_s wmV_v0_w List.mem_cons_self), ⟨bpat_of (K_.2.1 _ List.mem_cons_self), fun a_ j_ n0_ => yfr_bp K_.2.2.2 (List.forall_mem_cons.mpr ⟨fun e_ => n0_ ⟨e_.1.symm, e_.2.symm⟩, fun q_ hq => absurd hq List.not_mem_nil⟩), G_⟩⟩
  · cases hq
-- wmV_v1: 47 steps, 1 ends, 0 returns
def wmV_v1_L : List (Nat × Nat × Nat) := []
def wmV_v1_O : yO := [(338, .int 0, .index 339), (339, .arg 2, .arg 300), (339, .add (.add (.arg 2) (.int 1)) (.mul (.int 2) (.arg 4)), .int 1), (339, .add (.add (.arg 2) (.int 2)) (.mul (.int 2) (.arg 4)), .arg 302), (338, .int 13, .index 347), (338, .int 12, .index 346), (346, .arg 302, .arg 320)]
def wmV_v1_A : yA := (yZ wmV_v1_L, [(.arg 2, 768), (.add (.add (.arg 2) (.int 1)) (.mul (.int 2) (.arg 4)), 768), (.add (.add (.arg 2) (.int 2)) (.mul (.int 2) (.arg 4)), 768), (.arg 3, 64), (.arg 302, 128)], [], [], [])
def wmV_v1_C : List xB := [(.lt, .arg 4, .arg 300, true)]
def wmV_v1_ss : List yS := [(14, [(4, .add (.arg 4) (.int 1)), (3, .add (.arg 3) (.int 1)), (6, .arg 302), (5, .int 1), (2, .arg 2), (0, .index 338), (1, .arg 1)], [], [(347, .arg 3, .arg 320), (338, .int 0, .index 339), (339, .arg 2, .arg 300), (339, .add (.add (.arg 2) (.int 1)) (.mul (.int 2) (.arg 4)), .int 1), (339, .add (.add (.arg 2) (.int 2)) (.mul (.int 2) (.arg 4)), .arg 302), (338, .int 13, .index 347), (338, .int 12, .index 346), (346, .arg 302, .arg 320)], [(.lt, .arg 4, .arg 300, true)], [(347, .arg 3)])]
def wmV_v1_rs : List yR := []
theorem wmV_v1_w : ywa wmV_v1_A wmV_v1_ss wmV_v1_rs = true := by decide +kernel
theorem wmV_v1_k : yis (yev wmV_v1_A 3000 60 187 [14] (14, [(4, .arg 4), (3, .arg 3), (6, .arg 906), (5, .arg 905), (2, .arg 2), (0, .index 338), (1, .arg 1)], [], wmV_v1_O, wmV_v1_C, [])) wmV_v1_ss wmV_v1_rs = true := by decide +kernel
def wmV_v1_r (v1_ v2 v3 v4_ v300 v302 v320 v905 v906 : Int32) (k_ : Nat) : Value := bif Nat.beq k_ 1 then .int v1_ else (bif Nat.beq k_ 2 then .int v2 else (bif Nat.beq k_ 3 then .int v3 else (bif Nat.beq k_ 4 then .int v4_ else (bif Nat.beq k_ 300 then .int v300 else (bif Nat.beq k_ 302 then .int v302 else (bif Nat.beq k_ 320 then .int v320 else (bif Nat.beq k_ 905 then .int v905 else (bif Nat.beq k_ 906 then .int v906 else (.int 0)))))))))
def wmV_v1_s (n_ : Nat) : Nat := 0
theorem wmV_v1 {h_ : xH} {v1_ v2 v3 v4_ v300 v302 v320 v905 v906 : Int32} (hs : sHp h_) (o0_ : bpat h_ 339 (v2).toInt.toNat = some (.int v300)) (o1 : bpat h_ 339 (((v2 + (1 : Int32)) + ((2 : Int32) * v4_))).toInt.toNat = some (.int (1 : Int32))) (o2 : bpat h_ 339 (((v2 + (2 : Int32)) + ((2 : Int32) * v4_))).toInt.toNat = some (.int v302)) (o3_ : bpat h_ 346 (v302).toInt.toNat = some (.int v320)) (b0 : 0 ≤ (v2).toInt ∧ (v2).toInt < 768) (b1 : 0 ≤ (((v2 + (1 : Int32)) + ((2 : Int32) * v4_))).toInt ∧ (((v2 + (1 : Int32)) + ((2 : Int32) * v4_))).toInt < 768) (b2 : 0 ≤ (((v2 + (2 : Int32)) + ((2 : Int32) * v4_))).toInt ∧ (((v2 + (2 : Int32)) + ((2 : Int32) * v4_))).toInt < 768) (b3 : 0 ≤ (v3).toInt ∧ (v3).toInt < 64) (b4 : 0 ≤ (v302).toInt ∧ (v302).toInt < 128) (c0_ : v4_.toInt < v300.toInt) : ∃ h', ysm h_ h' ∧ (((bpat h' 347 (v3).toInt.toNat = some (.int v320)) ∧ (∀ a_ j_ : Nat, ¬ (a_ = 347 ∧ j_ = (v3).toInt.toNat) → bpat h' a_ j_ = bpat h_ a_ j_) ∧ (bldD 60 187 14 [(4, .int v4_), (3, .int v3), (6, .int v906), (5, .int v905), (2, .int v2), (0, .index 338), (1, .int v1_)] [] h_ 14 [(4, .int (v4_ + (1 : Int32))), (3, .int (v3 + (1 : Int32))), (6, .int v302), (5, .int (1 : Int32)), (2, .int v2), (0, .index 338), (1, .int v1_)] [] h'))) := by
  have hA : yas wmV_v1_A (wmV_v1_r v1_ v2 v3 v4_ v300 v302 v320 v905 v906) (yg wmV_v1_s) := ⟨List.forall_mem_cons.mpr ⟨b0, List.forall_mem_cons.mpr ⟨b1, List.forall_mem_cons.mpr ⟨b2, List.forall_mem_cons.mpr ⟨b3, List.forall_mem_cons.mpr ⟨b4, fun q_ hq => absurd hq List.not_mem_nil⟩⟩⟩⟩⟩, fun q_ hq => absurd hq List.not_mem_nil, fun q_ hq => absurd hq List.not_mem_nil, fun n_ hn => yg_lo hn, fun q_ hq => absurd hq List.not_mem_nil⟩
  have Hs : ysh wmV_v1_A.1 (yg wmV_v1_s) h_ := ysh_of2 hs (fun q_ hq => absurd hq List.not_mem_nil)
  have Ho : ymem (wmV_v1_r v1_ v2 v3 v4_ v300 v302 v320 v905 v906) (yg wmV_v1_s) wmV_v1_O h_ := List.forall_mem_cons.mpr ⟨bpat_some (fxr_at hs.2 (show fxk fxl 338 0 = some 339 by decide +kernel)), List.forall_mem_cons.mpr ⟨bpat_some o0_, List.forall_mem_cons.mpr ⟨bpat_some o1, List.forall_mem_cons.mpr ⟨bpat_some o2, List.forall_mem_cons.mpr ⟨bpat_some (fxr_at hs.2 (show fxk fxl 338 13 = some 347 by decide +kernel)), List.forall_mem_cons.mpr ⟨bpat_some (fxr_at hs.2 (show fxk fxl 338 12 = some 346 by decide +kernel)), List.forall_mem_cons.mpr ⟨bpat_some o3_, fun q_ hq => absurd hq List.not_mem_nil⟩⟩⟩⟩⟩⟩⟩
  have HC : ∀ q_ ∈ wmV_v1_C, xhold (wmV_v1_r v1_ v2 v3 v4_ v300 v302 v320 v905 v906) q_ := List.forall_mem_cons.mpr ⟨xh_ltT c0_, fun q_ hq => absurd hq List.not_mem_nil⟩
  rcases yrun (yis_ok wmV_v1_k) hA Hs Ho HC with ⟨q_, hq, h', K_, G_⟩ | ⟨q_, hq, h', K_, G_⟩
  · have e_ := List.mem_singleton.mp hq
    subst e_
    exact ⟨h', yfr_sm K_.2.2.2 hs K_.1 (ywa_s wmV_v1_w List.mem_cons_self), ⟨bpat_of (K_.2.1 _ List.mem_cons_self), fun a_ j_ n0_ => yfr_bp K_.2.2.2 (List.forall_mem_cons.mpr ⟨fun e_ => n0_ ⟨e_.1.symm, e_.2.symm⟩, fun q_ hq => absurd hq List.not_mem_nil⟩), G_⟩⟩
  · cases hq
-- wmV_v2: 47 steps, 1 ends, 0 returns
def wmV_v2_L : List (Nat × Nat × Nat) := []
def wmV_v2_O : yO := [(338, .int 0, .index 339), (339, .arg 2, .arg 300), (339, .add (.add (.arg 2) (.int 1)) (.mul (.int 2) (.arg 4)), .int 1), (339, .add (.add (.arg 2) (.int 2)) (.mul (.int 2) (.arg 4)), .arg 302), (338, .int 13, .index 347), (338, .int 12, .index 346), (346, .arg 302, .arg 320)]
def wmV_v2_A : yA := (yZ wmV_v2_L, [(.arg 2, 768), (.add (.add (.arg 2) (.int 1)) (.mul (.int 2) (.arg 4)), 768), (.add (.add (.arg 2) (.int 2)) (.mul (.int 2) (.arg 4)), 768), (.arg 3, 64), (.arg 302, 128)], [], [], [])
def wmV_v2_C : List xB := [(.lt, .arg 4, .arg 300, true)]
def wmV_v2_ss : List yS := [(14, [(4, .add (.arg 4) (.int 1)), (3, .add (.arg 3) (.int 1)), (6, .arg 302), (5, .int 1), (2, .arg 2), (0, .index 338), (1, .arg 1)], [], [(347, .arg 3, .arg 320), (338, .int 0, .index 339), (339, .arg 2, .arg 300), (339, .add (.add (.arg 2) (.int 1)) (.mul (.int 2) (.arg 4)), .int 1), (339, .add (.add (.arg 2) (.int 2)) (.mul (.int 2) (.arg 4)), .arg 302), (338, .int 13, .index 347), (338, .int 12, .index 346), (346, .arg 302, .arg 320)], [(.lt, .arg 4, .arg 300, true)], [(347, .arg 3)])]
def wmV_v2_rs : List yR := []
theorem wmV_v2_w : ywa wmV_v2_A wmV_v2_ss wmV_v2_rs = true := by decide +kernel
theorem wmV_v2_k : yis (yev wmV_v2_A 3000 60 187 [14] (14, [(4, .arg 4), (6, .arg 906), (5, .arg 905), (3, .arg 3), (2, .arg 2), (0, .index 338), (1, .arg 1)], [], wmV_v2_O, wmV_v2_C, [])) wmV_v2_ss wmV_v2_rs = true := by decide +kernel
def wmV_v2_r (v1_ v2 v3 v4_ v300 v302 v320 v905 v906 : Int32) (k_ : Nat) : Value := bif Nat.beq k_ 1 then .int v1_ else (bif Nat.beq k_ 2 then .int v2 else (bif Nat.beq k_ 3 then .int v3 else (bif Nat.beq k_ 4 then .int v4_ else (bif Nat.beq k_ 300 then .int v300 else (bif Nat.beq k_ 302 then .int v302 else (bif Nat.beq k_ 320 then .int v320 else (bif Nat.beq k_ 905 then .int v905 else (bif Nat.beq k_ 906 then .int v906 else (.int 0)))))))))
def wmV_v2_s (n_ : Nat) : Nat := 0
theorem wmV_v2 {h_ : xH} {v1_ v2 v3 v4_ v300 v302 v320 v905 v906 : Int32} (hs : sHp h_) (o0_ : bpat h_ 339 (v2).toInt.toNat = some (.int v300)) (o1 : bpat h_ 339 (((v2 + (1 : Int32)) + ((2 : Int32) * v4_))).toInt.toNat = some (.int (1 : Int32))) (o2 : bpat h_ 339 (((v2 + (2 : Int32)) + ((2 : Int32) * v4_))).toInt.toNat = some (.int v302)) (o3_ : bpat h_ 346 (v302).toInt.toNat = some (.int v320)) (b0 : 0 ≤ (v2).toInt ∧ (v2).toInt < 768) (b1 : 0 ≤ (((v2 + (1 : Int32)) + ((2 : Int32) * v4_))).toInt ∧ (((v2 + (1 : Int32)) + ((2 : Int32) * v4_))).toInt < 768) (b2 : 0 ≤ (((v2 + (2 : Int32)) + ((2 : Int32) * v4_))).toInt ∧ (((v2 + (2 : Int32)) + ((2 : Int32) * v4_))).toInt < 768) (b3 : 0 ≤ (v3).toInt ∧ (v3).toInt < 64) (b4 : 0 ≤ (v302).toInt ∧ (v302).toInt < 128) (c0_ : v4_.toInt < v300.toInt) : ∃ h', ysm h_ h' ∧ (((bpat h' 347 (v3).toInt.toNat = some (.int v320)) ∧ (∀ a_ j_ : Nat, ¬ (a_ = 347 ∧ j_ = (v3).toInt.toNat) → bpat h' a_ j_ = bpat h_ a_ j_) ∧ (bldD 60 187 14 [(4, .int v4_), (6, .int v906), (5, .int v905), (3, .int v3), (2, .int v2), (0, .index 338), (1, .int v1_)] [] h_ 14 [(4, .int (v4_ + (1 : Int32))), (3, .int (v3 + (1 : Int32))), (6, .int v302), (5, .int (1 : Int32)), (2, .int v2), (0, .index 338), (1, .int v1_)] [] h'))) := by
  have hA : yas wmV_v2_A (wmV_v2_r v1_ v2 v3 v4_ v300 v302 v320 v905 v906) (yg wmV_v2_s) := ⟨List.forall_mem_cons.mpr ⟨b0, List.forall_mem_cons.mpr ⟨b1, List.forall_mem_cons.mpr ⟨b2, List.forall_mem_cons.mpr ⟨b3, List.forall_mem_cons.mpr ⟨b4, fun q_ hq => absurd hq List.not_mem_nil⟩⟩⟩⟩⟩, fun q_ hq => absurd hq List.not_mem_nil, fun q_ hq => absurd hq List.not_mem_nil, fun n_ hn => yg_lo hn, fun q_ hq => absurd hq List.not_mem_nil⟩
  have Hs : ysh wmV_v2_A.1 (yg wmV_v2_s) h_ := ysh_of2 hs (fun q_ hq => absurd hq List.not_mem_nil)
  have Ho : ymem (wmV_v2_r v1_ v2 v3 v4_ v300 v302 v320 v905 v906) (yg wmV_v2_s) wmV_v2_O h_ := List.forall_mem_cons.mpr ⟨bpat_some (fxr_at hs.2 (show fxk fxl 338 0 = some 339 by decide +kernel)), List.forall_mem_cons.mpr ⟨bpat_some o0_, List.forall_mem_cons.mpr ⟨bpat_some o1, List.forall_mem_cons.mpr ⟨bpat_some o2, List.forall_mem_cons.mpr ⟨bpat_some (fxr_at hs.2 (show fxk fxl 338 13 = some 347 by decide +kernel)), List.forall_mem_cons.mpr ⟨bpat_some (fxr_at hs.2 (show fxk fxl 338 12 = some 346 by decide +kernel)), List.forall_mem_cons.mpr ⟨bpat_some o3_, fun q_ hq => absurd hq List.not_mem_nil⟩⟩⟩⟩⟩⟩⟩
  have HC : ∀ q_ ∈ wmV_v2_C, xhold (wmV_v2_r v1_ v2 v3 v4_ v300 v302 v320 v905 v906) q_ := List.forall_mem_cons.mpr ⟨xh_ltT c0_, fun q_ hq => absurd hq List.not_mem_nil⟩
  rcases yrun (yis_ok wmV_v2_k) hA Hs Ho HC with ⟨q_, hq, h', K_, G_⟩ | ⟨q_, hq, h', K_, G_⟩
  · have e_ := List.mem_singleton.mp hq
    subst e_
    exact ⟨h', yfr_sm K_.2.2.2 hs K_.1 (ywa_s wmV_v2_w List.mem_cons_self), ⟨bpat_of (K_.2.1 _ List.mem_cons_self), fun a_ j_ n0_ => yfr_bp K_.2.2.2 (List.forall_mem_cons.mpr ⟨fun e_ => n0_ ⟨e_.1.symm, e_.2.symm⟩, fun q_ hq => absurd hq List.not_mem_nil⟩), G_⟩⟩
  · cases hq
theorem wmV {h_ : xH} {v1_ v2 v3 v4_ v300 v302 v320 : Int32} {lo_ : xL} (hs : sHp h_) (o0_ : bpat h_ 339 (v2).toInt.toNat = some (.int v300)) (o1 : bpat h_ 339 (((v2 + (1 : Int32)) + ((2 : Int32) * v4_))).toInt.toNat = some (.int (1 : Int32))) (o2 : bpat h_ 339 (((v2 + (2 : Int32)) + ((2 : Int32) * v4_))).toInt.toNat = some (.int v302)) (o3_ : bpat h_ 346 (v302).toInt.toNat = some (.int v320)) (b0 : 0 ≤ (v2).toInt ∧ (v2).toInt < 768) (b1 : 0 ≤ (((v2 + (1 : Int32)) + ((2 : Int32) * v4_))).toInt ∧ (((v2 + (1 : Int32)) + ((2 : Int32) * v4_))).toInt < 768) (b2 : 0 ≤ (((v2 + (2 : Int32)) + ((2 : Int32) * v4_))).toInt ∧ (((v2 + (2 : Int32)) + ((2 : Int32) * v4_))).toInt < 768) (b3 : 0 ≤ (v3).toInt ∧ (v3).toInt < 64) (b4 : 0 ≤ (v302).toInt ∧ (v302).toInt < 128) (c0_ : v4_.toInt < v300.toInt) (H_ : wmN_hd v1_ v2 v3 v4_ lo_) : ∃ h', ysm h_ h' ∧ (((bpat h' 347 (v3).toInt.toNat = some (.int v320)) ∧ (∀ a_ j_ : Nat, ¬ (a_ = 347 ∧ j_ = (v3).toInt.toNat) → bpat h' a_ j_ = bpat h_ a_ j_) ∧ (∃ lo', wmN_hd v1_ v2 (v3 + (1 : Int32)) (v4_ + (1 : Int32)) lo' ∧ bldD 60 187 14 lo_ [] h_ 14 lo' [] h'))) := by
  rcases H_ with rfl | ⟨y6, y5, rfl⟩ | ⟨y6, y5, rfl⟩
  · obtain ⟨h', m_, e_⟩ := wmV_v0 hs o0_ o1 o2 o3_ b0 b1 b2 b3 b4 c0_
    refine ⟨h', m_, ?_⟩
    obtain ⟨g0, g1, g2⟩ := e_
    exact ⟨g0, g1, ⟨_, Or.inr (Or.inl (⟨_, _, rfl⟩)), g2⟩⟩
  · obtain ⟨h', m_, e_⟩ := wmV_v1 hs o0_ o1 o2 o3_ b0 b1 b2 b3 b4 c0_
    refine ⟨h', m_, ?_⟩
    obtain ⟨g0, g1, g2⟩ := e_
    exact ⟨g0, g1, ⟨_, Or.inr (Or.inl (⟨_, _, rfl⟩)), g2⟩⟩
  · obtain ⟨h', m_, e_⟩ := wmV_v2 hs o0_ o1 o2 o3_ b0 b1 b2 b3 b4 c0_
    refine ⟨h', m_, ?_⟩
    obtain ⟨g0, g1, g2⟩ := e_
    exact ⟨g0, g1, ⟨_, Or.inr (Or.inl (⟨_, _, rfl⟩)), g2⟩⟩
-- wmD_v0: 59 steps, 2 ends, 0 returns
def wmD_v0_L : List (Nat × Nat × Nat) := []
def wmD_v0_O : yO := [(338, .int 0, .index 339), (339, .arg 2, .arg 300), (339, .add (.add (.arg 2) (.int 1)) (.mul (.int 2) (.arg 4)), .int 2), (339, .add (.add (.arg 2) (.int 2)) (.mul (.int 2) (.arg 4)), .arg 302), (338, .int 13, .index 347), (347, .sub (.arg 3) (.int 1), .arg 310)]
def wmD_v0_A : yA := (yZ wmD_v0_L, [(.arg 2, 768), (.add (.add (.arg 2) (.int 1)) (.mul (.int 2) (.arg 4)), 768), (.add (.add (.arg 2) (.int 2)) (.mul (.int 2) (.arg 4)), 768), (.arg 3, 64), (.sub (.arg 3) (.int 1), 64)], [], [], [])
def wmD_v0_C : List xB := [(.lt, .arg 4, .arg 300, true)]
def wmD_v0_ss : List yS := [(14, [(4, .add (.arg 4) (.int 1)), (6, .arg 302), (5, .int 2), (3, .arg 3), (2, .arg 2), (0, .index 338), (1, .arg 1)], [], [(347, .sub (.arg 3) (.int 1), .int 0), (338, .int 0, .index 339), (339, .arg 2, .arg 300), (339, .add (.add (.arg 2) (.int 1)) (.mul (.int 2) (.arg 4)), .int 2), (339, .add (.add (.arg 2) (.int 2)) (.mul (.int 2) (.arg 4)), .arg 302), (338, .int 13, .index 347)], [(.eq, .arg 310, .int 0, false), (.lt, .arg 4, .arg 300, true)], [(347, .sub (.arg 3) (.int 1))]),
  (14, [(4, .add (.arg 4) (.int 1)), (6, .arg 302), (5, .int 2), (3, .arg 3), (2, .arg 2), (0, .index 338), (1, .arg 1)], [], [(347, .sub (.arg 3) (.int 1), .int 1), (338, .int 0, .index 339), (339, .arg 2, .arg 300), (339, .add (.add (.arg 2) (.int 1)) (.mul (.int 2) (.arg 4)), .int 2), (339, .add (.add (.arg 2) (.int 2)) (.mul (.int 2) (.arg 4)), .arg 302), (338, .int 13, .index 347)], [(.eq, .arg 310, .int 0, true), (.lt, .arg 4, .arg 300, true)], [(347, .sub (.arg 3) (.int 1))])]
def wmD_v0_rs : List yR := []
theorem wmD_v0_w : ywa wmD_v0_A wmD_v0_ss wmD_v0_rs = true := by decide +kernel
theorem wmD_v0_k : yis (yev wmD_v0_A 3000 60 187 [14] (14, [(4, .arg 4), (3, .arg 3), (2, .arg 2), (0, .index 338), (1, .arg 1)], [], wmD_v0_O, wmD_v0_C, [])) wmD_v0_ss wmD_v0_rs = true := by decide +kernel
def wmD_v0_r (v1_ v2 v3 v4_ v300 v302 v310 : Int32) (k_ : Nat) : Value := bif Nat.beq k_ 1 then .int v1_ else (bif Nat.beq k_ 2 then .int v2 else (bif Nat.beq k_ 3 then .int v3 else (bif Nat.beq k_ 4 then .int v4_ else (bif Nat.beq k_ 300 then .int v300 else (bif Nat.beq k_ 302 then .int v302 else (bif Nat.beq k_ 310 then .int v310 else (.int 0)))))))
def wmD_v0_s (n_ : Nat) : Nat := 0
theorem wmD_v0 {h_ : xH} {v1_ v2 v3 v4_ v300 v302 v310 : Int32} (hs : sHp h_) (o0_ : bpat h_ 339 (v2).toInt.toNat = some (.int v300)) (o1 : bpat h_ 339 (((v2 + (1 : Int32)) + ((2 : Int32) * v4_))).toInt.toNat = some (.int (2 : Int32))) (o2 : bpat h_ 339 (((v2 + (2 : Int32)) + ((2 : Int32) * v4_))).toInt.toNat = some (.int v302)) (o3_ : bpat h_ 347 ((v3 - (1 : Int32))).toInt.toNat = some (.int v310)) (b0 : 0 ≤ (v2).toInt ∧ (v2).toInt < 768) (b1 : 0 ≤ (((v2 + (1 : Int32)) + ((2 : Int32) * v4_))).toInt ∧ (((v2 + (1 : Int32)) + ((2 : Int32) * v4_))).toInt < 768) (b2 : 0 ≤ (((v2 + (2 : Int32)) + ((2 : Int32) * v4_))).toInt ∧ (((v2 + (2 : Int32)) + ((2 : Int32) * v4_))).toInt < 768) (b3 : 0 ≤ (v3).toInt ∧ (v3).toInt < 64) (b4 : 0 ≤ ((v3 - (1 : Int32))).toInt ∧ ((v3 - (1 : Int32))).toInt < 64) (c0_ : v4_.toInt < v300.toInt) : ∃ h', ysm h_ h' ∧ (((¬ v310 = (0 : Int32)) ∧ (bpat h' 347 ((v3 - (1 : Int32))).toInt.toNat = some (.int (0 : Int32))) ∧ (∀ a_ j_ : Nat, ¬ (a_ = 347 ∧ j_ = ((v3 - (1 : Int32))).toInt.toNat) → bpat h' a_ j_ = bpat h_ a_ j_) ∧ (bldD 60 187 14 [(4, .int v4_), (3, .int v3), (2, .int v2), (0, .index 338), (1, .int v1_)] [] h_ 14 [(4, .int (v4_ + (1 : Int32))), (6, .int v302), (5, .int (2 : Int32)), (3, .int v3), (2, .int v2), (0, .index 338), (1, .int v1_)] [] h'))
  ∨ ((v310 = (0 : Int32)) ∧ (bpat h' 347 ((v3 - (1 : Int32))).toInt.toNat = some (.int (1 : Int32))) ∧ (∀ a_ j_ : Nat, ¬ (a_ = 347 ∧ j_ = ((v3 - (1 : Int32))).toInt.toNat) → bpat h' a_ j_ = bpat h_ a_ j_) ∧ (bldD 60 187 14 [(4, .int v4_), (3, .int v3), (2, .int v2), (0, .index 338), (1, .int v1_)] [] h_ 14 [(4, .int (v4_ + (1 : Int32))), (6, .int v302), (5, .int (2 : Int32)), (3, .int v3), (2, .int v2), (0, .index 338), (1, .int v1_)] [] h'))) := by
  have hA : yas wmD_v0_A (wmD_v0_r v1_ v2 v3 v4_ v300 v302 v310) (yg wmD_v0_s) := ⟨List.forall_mem_cons.mpr ⟨b0, List.forall_mem_cons.mpr ⟨b1, List.forall_mem_cons.mpr ⟨b2, List.forall_mem_cons.mpr ⟨b3, List.forall_mem_cons.mpr ⟨b4, fun q_ hq => absurd hq List.not_mem_nil⟩⟩⟩⟩⟩, fun q_ hq => absurd hq List.not_mem_nil, fun q_ hq => absurd hq List.not_mem_nil, fun n_ hn => yg_lo hn, fun q_ hq => absurd hq List.not_mem_nil⟩
  have Hs : ysh wmD_v0_A.1 (yg wmD_v0_s) h_ := ysh_of2 hs (fun q_ hq => absurd hq List.not_mem_nil)
  have Ho : ymem (wmD_v0_r v1_ v2 v3 v4_ v300 v302 v310) (yg wmD_v0_s) wmD_v0_O h_ := List.forall_mem_cons.mpr ⟨bpat_some (fxr_at hs.2 (show fxk fxl 338 0 = some 339 by decide +kernel)), List.forall_mem_cons.mpr ⟨bpat_some o0_, List.forall_mem_cons.mpr ⟨bpat_some o1, List.forall_mem_cons.mpr ⟨bpat_some o2, List.forall_mem_cons.mpr ⟨bpat_some (fxr_at hs.2 (show fxk fxl 338 13 = some 347 by decide +kernel)), List.forall_mem_cons.mpr ⟨bpat_some o3_, fun q_ hq => absurd hq List.not_mem_nil⟩⟩⟩⟩⟩⟩
  have HC : ∀ q_ ∈ wmD_v0_C, xhold (wmD_v0_r v1_ v2 v3 v4_ v300 v302 v310) q_ := List.forall_mem_cons.mpr ⟨xh_ltT c0_, fun q_ hq => absurd hq List.not_mem_nil⟩
  rcases yrun (yis_ok wmD_v0_k) hA Hs Ho HC with ⟨q_, hq, h', K_, G_⟩ | ⟨q_, hq, h', K_, G_⟩
  · rcases List.mem_cons.mp hq with e_ | hq
    · subst e_
      exact ⟨h', yfr_sm K_.2.2.2 hs K_.1 (ywa_s wmD_v0_w List.mem_cons_self), Or.inl (⟨xq_eqF rfl rfl (K_.2.2.1 _ List.mem_cons_self), bpat_of (K_.2.1 _ List.mem_cons_self), fun a_ j_ n0_ => yfr_bp K_.2.2.2 (List.forall_mem_cons.mpr ⟨fun e_ => n0_ ⟨e_.1.symm, e_.2.symm⟩, fun q_ hq => absurd hq List.not_mem_nil⟩), G_⟩)⟩
    have e_ := List.mem_singleton.mp hq
    subst e_
    exact ⟨h', yfr_sm K_.2.2.2 hs K_.1 (ywa_s wmD_v0_w (List.mem_cons_of_mem _ List.mem_cons_self)), Or.inr (⟨xq_eqT rfl rfl (K_.2.2.1 _ List.mem_cons_self), bpat_of (K_.2.1 _ List.mem_cons_self), fun a_ j_ n0_ => yfr_bp K_.2.2.2 (List.forall_mem_cons.mpr ⟨fun e_ => n0_ ⟨e_.1.symm, e_.2.symm⟩, fun q_ hq => absurd hq List.not_mem_nil⟩), G_⟩)⟩
  · cases hq
-- wmD_v1: 59 steps, 2 ends, 0 returns
def wmD_v1_L : List (Nat × Nat × Nat) := []
def wmD_v1_O : yO := [(338, .int 0, .index 339), (339, .arg 2, .arg 300), (339, .add (.add (.arg 2) (.int 1)) (.mul (.int 2) (.arg 4)), .int 2), (339, .add (.add (.arg 2) (.int 2)) (.mul (.int 2) (.arg 4)), .arg 302), (338, .int 13, .index 347), (347, .sub (.arg 3) (.int 1), .arg 310)]
def wmD_v1_A : yA := (yZ wmD_v1_L, [(.arg 2, 768), (.add (.add (.arg 2) (.int 1)) (.mul (.int 2) (.arg 4)), 768), (.add (.add (.arg 2) (.int 2)) (.mul (.int 2) (.arg 4)), 768), (.arg 3, 64), (.sub (.arg 3) (.int 1), 64)], [], [], [])
def wmD_v1_C : List xB := [(.lt, .arg 4, .arg 300, true)]
def wmD_v1_ss : List yS := [(14, [(4, .add (.arg 4) (.int 1)), (6, .arg 302), (5, .int 2), (3, .arg 3), (2, .arg 2), (0, .index 338), (1, .arg 1)], [], [(347, .sub (.arg 3) (.int 1), .int 0), (338, .int 0, .index 339), (339, .arg 2, .arg 300), (339, .add (.add (.arg 2) (.int 1)) (.mul (.int 2) (.arg 4)), .int 2), (339, .add (.add (.arg 2) (.int 2)) (.mul (.int 2) (.arg 4)), .arg 302), (338, .int 13, .index 347)], [(.eq, .arg 310, .int 0, false), (.lt, .arg 4, .arg 300, true)], [(347, .sub (.arg 3) (.int 1))]),
  (14, [(4, .add (.arg 4) (.int 1)), (6, .arg 302), (5, .int 2), (3, .arg 3), (2, .arg 2), (0, .index 338), (1, .arg 1)], [], [(347, .sub (.arg 3) (.int 1), .int 1), (338, .int 0, .index 339), (339, .arg 2, .arg 300), (339, .add (.add (.arg 2) (.int 1)) (.mul (.int 2) (.arg 4)), .int 2), (339, .add (.add (.arg 2) (.int 2)) (.mul (.int 2) (.arg 4)), .arg 302), (338, .int 13, .index 347)], [(.eq, .arg 310, .int 0, true), (.lt, .arg 4, .arg 300, true)], [(347, .sub (.arg 3) (.int 1))])]
def wmD_v1_rs : List yR := []
theorem wmD_v1_w : ywa wmD_v1_A wmD_v1_ss wmD_v1_rs = true := by decide +kernel
theorem wmD_v1_k : yis (yev wmD_v1_A 3000 60 187 [14] (14, [(4, .arg 4), (3, .arg 3), (6, .arg 906), (5, .arg 905), (2, .arg 2), (0, .index 338), (1, .arg 1)], [], wmD_v1_O, wmD_v1_C, [])) wmD_v1_ss wmD_v1_rs = true := by decide +kernel
def wmD_v1_r (v1_ v2 v3 v4_ v300 v302 v310 v905 v906 : Int32) (k_ : Nat) : Value := bif Nat.beq k_ 1 then .int v1_ else (bif Nat.beq k_ 2 then .int v2 else (bif Nat.beq k_ 3 then .int v3 else (bif Nat.beq k_ 4 then .int v4_ else (bif Nat.beq k_ 300 then .int v300 else (bif Nat.beq k_ 302 then .int v302 else (bif Nat.beq k_ 310 then .int v310 else (bif Nat.beq k_ 905 then .int v905 else (bif Nat.beq k_ 906 then .int v906 else (.int 0)))))))))
def wmD_v1_s (n_ : Nat) : Nat := 0
theorem wmD_v1 {h_ : xH} {v1_ v2 v3 v4_ v300 v302 v310 v905 v906 : Int32} (hs : sHp h_) (o0_ : bpat h_ 339 (v2).toInt.toNat = some (.int v300)) (o1 : bpat h_ 339 (((v2 + (1 : Int32)) + ((2 : Int32) * v4_))).toInt.toNat = some (.int (2 : Int32))) (o2 : bpat h_ 339 (((v2 + (2 : Int32)) + ((2 : Int32) * v4_))).toInt.toNat = some (.int v302)) (o3_ : bpat h_ 347 ((v3 - (1 : Int32))).toInt.toNat = some (.int v310)) (b0 : 0 ≤ (v2).toInt ∧ (v2).toInt < 768) (b1 : 0 ≤ (((v2 + (1 : Int32)) + ((2 : Int32) * v4_))).toInt ∧ (((v2 + (1 : Int32)) + ((2 : Int32) * v4_))).toInt < 768) (b2 : 0 ≤ (((v2 + (2 : Int32)) + ((2 : Int32) * v4_))).toInt ∧ (((v2 + (2 : Int32)) + ((2 : Int32) * v4_))).toInt < 768) (b3 : 0 ≤ (v3).toInt ∧ (v3).toInt < 64) (b4 : 0 ≤ ((v3 - (1 : Int32))).toInt ∧ ((v3 - (1 : Int32))).toInt < 64) (c0_ : v4_.toInt < v300.toInt) : ∃ h', ysm h_ h' ∧ (((¬ v310 = (0 : Int32)) ∧ (bpat h' 347 ((v3 - (1 : Int32))).toInt.toNat = some (.int (0 : Int32))) ∧ (∀ a_ j_ : Nat, ¬ (a_ = 347 ∧ j_ = ((v3 - (1 : Int32))).toInt.toNat) → bpat h' a_ j_ = bpat h_ a_ j_) ∧ (bldD 60 187 14 [(4, .int v4_), (3, .int v3), (6, .int v906), (5, .int v905), (2, .int v2), (0, .index 338), (1, .int v1_)] [] h_ 14 [(4, .int (v4_ + (1 : Int32))), (6, .int v302), (5, .int (2 : Int32)), (3, .int v3), (2, .int v2), (0, .index 338), (1, .int v1_)] [] h'))
  ∨ ((v310 = (0 : Int32)) ∧ (bpat h' 347 ((v3 - (1 : Int32))).toInt.toNat = some (.int (1 : Int32))) ∧ (∀ a_ j_ : Nat, ¬ (a_ = 347 ∧ j_ = ((v3 - (1 : Int32))).toInt.toNat) → bpat h' a_ j_ = bpat h_ a_ j_) ∧ (bldD 60 187 14 [(4, .int v4_), (3, .int v3), (6, .int v906), (5, .int v905), (2, .int v2), (0, .index 338), (1, .int v1_)] [] h_ 14 [(4, .int (v4_ + (1 : Int32))), (6, .int v302), (5, .int (2 : Int32)), (3, .int v3), (2, .int v2), (0, .index 338), (1, .int v1_)] [] h'))) := by
  have hA : yas wmD_v1_A (wmD_v1_r v1_ v2 v3 v4_ v300 v302 v310 v905 v906) (yg wmD_v1_s) := ⟨List.forall_mem_cons.mpr ⟨b0, List.forall_mem_cons.mpr ⟨b1, List.forall_mem_cons.mpr ⟨b2, List.forall_mem_cons.mpr ⟨b3, List.forall_mem_cons.mpr ⟨b4, fun q_ hq => absurd hq List.not_mem_nil⟩⟩⟩⟩⟩, fun q_ hq => absurd hq List.not_mem_nil, fun q_ hq => absurd hq List.not_mem_nil, fun n_ hn => yg_lo hn, fun q_ hq => absurd hq List.not_mem_nil⟩
  have Hs : ysh wmD_v1_A.1 (yg wmD_v1_s) h_ := ysh_of2 hs (fun q_ hq => absurd hq List.not_mem_nil)
  have Ho : ymem (wmD_v1_r v1_ v2 v3 v4_ v300 v302 v310 v905 v906) (yg wmD_v1_s) wmD_v1_O h_ := List.forall_mem_cons.mpr ⟨bpat_some (fxr_at hs.2 (show fxk fxl 338 0 = some 339 by decide +kernel)), List.forall_mem_cons.mpr ⟨bpat_some o0_, List.forall_mem_cons.mpr ⟨bpat_some o1, List.forall_mem_cons.mpr ⟨bpat_some o2, List.forall_mem_cons.mpr ⟨bpat_some (fxr_at hs.2 (show fxk fxl 338 13 = some 347 by decide +kernel)), List.forall_mem_cons.mpr ⟨bpat_some o3_, fun q_ hq => absurd hq List.not_mem_nil⟩⟩⟩⟩⟩⟩
  have HC : ∀ q_ ∈ wmD_v1_C, xhold (wmD_v1_r v1_ v2 v3 v4_ v300 v302 v310 v905 v906) q_ := List.forall_mem_cons.mpr ⟨xh_ltT c0_, fun q_ hq => absurd hq List.not_mem_nil⟩
  rcases yrun (yis_ok wmD_v1_k) hA Hs Ho HC with ⟨q_, hq, h', K_, G_⟩ | ⟨q_, hq, h', K_, G_⟩
  · rcases List.mem_cons.mp hq with e_ | hq
    · subst e_
      exact ⟨h', yfr_sm K_.2.2.2 hs K_.1 (ywa_s wmD_v1_w List.mem_cons_self), Or.inl (⟨xq_eqF rfl rfl (K_.2.2.1 _ List.mem_cons_self), bpat_of (K_.2.1 _ List.mem_cons_self), fun a_ j_ n0_ => yfr_bp K_.2.2.2 (List.forall_mem_cons.mpr ⟨fun e_ => n0_ ⟨e_.1.symm, e_.2.symm⟩, fun q_ hq => absurd hq List.not_mem_nil⟩), G_⟩)⟩
    have e_ := List.mem_singleton.mp hq
    subst e_
    exact ⟨h', yfr_sm K_.2.2.2 hs K_.1 (ywa_s wmD_v1_w (List.mem_cons_of_mem _ List.mem_cons_self)), Or.inr (⟨xq_eqT rfl rfl (K_.2.2.1 _ List.mem_cons_self), bpat_of (K_.2.1 _ List.mem_cons_self), fun a_ j_ n0_ => yfr_bp K_.2.2.2 (List.forall_mem_cons.mpr ⟨fun e_ => n0_ ⟨e_.1.symm, e_.2.symm⟩, fun q_ hq => absurd hq List.not_mem_nil⟩), G_⟩)⟩
  · cases hq
-- wmD_v2: 59 steps, 2 ends, 0 returns
def wmD_v2_L : List (Nat × Nat × Nat) := []
def wmD_v2_O : yO := [(338, .int 0, .index 339), (339, .arg 2, .arg 300), (339, .add (.add (.arg 2) (.int 1)) (.mul (.int 2) (.arg 4)), .int 2), (339, .add (.add (.arg 2) (.int 2)) (.mul (.int 2) (.arg 4)), .arg 302), (338, .int 13, .index 347), (347, .sub (.arg 3) (.int 1), .arg 310)]
def wmD_v2_A : yA := (yZ wmD_v2_L, [(.arg 2, 768), (.add (.add (.arg 2) (.int 1)) (.mul (.int 2) (.arg 4)), 768), (.add (.add (.arg 2) (.int 2)) (.mul (.int 2) (.arg 4)), 768), (.arg 3, 64), (.sub (.arg 3) (.int 1), 64)], [], [], [])
def wmD_v2_C : List xB := [(.lt, .arg 4, .arg 300, true)]
def wmD_v2_ss : List yS := [(14, [(4, .add (.arg 4) (.int 1)), (6, .arg 302), (5, .int 2), (3, .arg 3), (2, .arg 2), (0, .index 338), (1, .arg 1)], [], [(347, .sub (.arg 3) (.int 1), .int 0), (338, .int 0, .index 339), (339, .arg 2, .arg 300), (339, .add (.add (.arg 2) (.int 1)) (.mul (.int 2) (.arg 4)), .int 2), (339, .add (.add (.arg 2) (.int 2)) (.mul (.int 2) (.arg 4)), .arg 302), (338, .int 13, .index 347)], [(.eq, .arg 310, .int 0, false), (.lt, .arg 4, .arg 300, true)], [(347, .sub (.arg 3) (.int 1))]),
  (14, [(4, .add (.arg 4) (.int 1)), (6, .arg 302), (5, .int 2), (3, .arg 3), (2, .arg 2), (0, .index 338), (1, .arg 1)], [], [(347, .sub (.arg 3) (.int 1), .int 1), (338, .int 0, .index 339), (339, .arg 2, .arg 300), (339, .add (.add (.arg 2) (.int 1)) (.mul (.int 2) (.arg 4)), .int 2), (339, .add (.add (.arg 2) (.int 2)) (.mul (.int 2) (.arg 4)), .arg 302), (338, .int 13, .index 347)], [(.eq, .arg 310, .int 0, true), (.lt, .arg 4, .arg 300, true)], [(347, .sub (.arg 3) (.int 1))])]
def wmD_v2_rs : List yR := []
theorem wmD_v2_w : ywa wmD_v2_A wmD_v2_ss wmD_v2_rs = true := by decide +kernel
theorem wmD_v2_k : yis (yev wmD_v2_A 3000 60 187 [14] (14, [(4, .arg 4), (6, .arg 906), (5, .arg 905), (3, .arg 3), (2, .arg 2), (0, .index 338), (1, .arg 1)], [], wmD_v2_O, wmD_v2_C, [])) wmD_v2_ss wmD_v2_rs = true := by decide +kernel
def wmD_v2_r (v1_ v2 v3 v4_ v300 v302 v310 v905 v906 : Int32) (k_ : Nat) : Value := bif Nat.beq k_ 1 then .int v1_ else (bif Nat.beq k_ 2 then .int v2 else (bif Nat.beq k_ 3 then .int v3 else (bif Nat.beq k_ 4 then .int v4_ else (bif Nat.beq k_ 300 then .int v300 else (bif Nat.beq k_ 302 then .int v302 else (bif Nat.beq k_ 310 then .int v310 else (bif Nat.beq k_ 905 then .int v905 else (bif Nat.beq k_ 906 then .int v906 else (.int 0)))))))))
def wmD_v2_s (n_ : Nat) : Nat := 0
theorem wmD_v2 {h_ : xH} {v1_ v2 v3 v4_ v300 v302 v310 v905 v906 : Int32} (hs : sHp h_) (o0_ : bpat h_ 339 (v2).toInt.toNat = some (.int v300)) (o1 : bpat h_ 339 (((v2 + (1 : Int32)) + ((2 : Int32) * v4_))).toInt.toNat = some (.int (2 : Int32))) (o2 : bpat h_ 339 (((v2 + (2 : Int32)) + ((2 : Int32) * v4_))).toInt.toNat = some (.int v302)) (o3_ : bpat h_ 347 ((v3 - (1 : Int32))).toInt.toNat = some (.int v310)) (b0 : 0 ≤ (v2).toInt ∧ (v2).toInt < 768) (b1 : 0 ≤ (((v2 + (1 : Int32)) + ((2 : Int32) * v4_))).toInt ∧ (((v2 + (1 : Int32)) + ((2 : Int32) * v4_))).toInt < 768) (b2 : 0 ≤ (((v2 + (2 : Int32)) + ((2 : Int32) * v4_))).toInt ∧ (((v2 + (2 : Int32)) + ((2 : Int32) * v4_))).toInt < 768) (b3 : 0 ≤ (v3).toInt ∧ (v3).toInt < 64) (b4 : 0 ≤ ((v3 - (1 : Int32))).toInt ∧ ((v3 - (1 : Int32))).toInt < 64) (c0_ : v4_.toInt < v300.toInt) : ∃ h', ysm h_ h' ∧ (((¬ v310 = (0 : Int32)) ∧ (bpat h' 347 ((v3 - (1 : Int32))).toInt.toNat = some (.int (0 : Int32))) ∧ (∀ a_ j_ : Nat, ¬ (a_ = 347 ∧ j_ = ((v3 - (1 : Int32))).toInt.toNat) → bpat h' a_ j_ = bpat h_ a_ j_) ∧ (bldD 60 187 14 [(4, .int v4_), (6, .int v906), (5, .int v905), (3, .int v3), (2, .int v2), (0, .index 338), (1, .int v1_)] [] h_ 14 [(4, .int (v4_ + (1 : Int32))), (6, .int v302), (5, .int (2 : Int32)), (3, .int v3), (2, .int v2), (0, .index 338), (1, .int v1_)] [] h'))
  ∨ ((v310 = (0 : Int32)) ∧ (bpat h' 347 ((v3 - (1 : Int32))).toInt.toNat = some (.int (1 : Int32))) ∧ (∀ a_ j_ : Nat, ¬ (a_ = 347 ∧ j_ = ((v3 - (1 : Int32))).toInt.toNat) → bpat h' a_ j_ = bpat h_ a_ j_) ∧ (bldD 60 187 14 [(4, .int v4_), (6, .int v906), (5, .int v905), (3, .int v3), (2, .int v2), (0, .index 338), (1, .int v1_)] [] h_ 14 [(4, .int (v4_ + (1 : Int32))), (6, .int v302), (5, .int (2 : Int32)), (3, .int v3), (2, .int v2), (0, .index 338), (1, .int v1_)] [] h'))) := by
  have hA : yas wmD_v2_A (wmD_v2_r v1_ v2 v3 v4_ v300 v302 v310 v905 v906) (yg wmD_v2_s) := ⟨List.forall_mem_cons.mpr ⟨b0, List.forall_mem_cons.mpr ⟨b1, List.forall_mem_cons.mpr ⟨b2, List.forall_mem_cons.mpr ⟨b3, List.forall_mem_cons.mpr ⟨b4, fun q_ hq => absurd hq List.not_mem_nil⟩⟩⟩⟩⟩, fun q_ hq => absurd hq List.not_mem_nil, fun q_ hq => absurd hq List.not_mem_nil, fun n_ hn => yg_lo hn, fun q_ hq => absurd hq List.not_mem_nil⟩
  have Hs : ysh wmD_v2_A.1 (yg wmD_v2_s) h_ := ysh_of2 hs (fun q_ hq => absurd hq List.not_mem_nil)
  have Ho : ymem (wmD_v2_r v1_ v2 v3 v4_ v300 v302 v310 v905 v906) (yg wmD_v2_s) wmD_v2_O h_ := List.forall_mem_cons.mpr ⟨bpat_some (fxr_at hs.2 (show fxk fxl 338 0 = some 339 by decide +kernel)), List.forall_mem_cons.mpr ⟨bpat_some o0_, List.forall_mem_cons.mpr ⟨bpat_some o1, List.forall_mem_cons.mpr ⟨bpat_some o2, List.forall_mem_cons.mpr ⟨bpat_some (fxr_at hs.2 (show fxk fxl 338 13 = some 347 by decide +kernel)), List.forall_mem_cons.mpr ⟨bpat_some o3_, fun q_ hq => absurd hq List.not_mem_nil⟩⟩⟩⟩⟩⟩
  have HC : ∀ q_ ∈ wmD_v2_C, xhold (wmD_v2_r v1_ v2 v3 v4_ v300 v302 v310 v905 v906) q_ := List.forall_mem_cons.mpr ⟨xh_ltT c0_, fun q_ hq => absurd hq List.not_mem_nil⟩
  rcases yrun (yis_ok wmD_v2_k) hA Hs Ho HC with ⟨q_, hq, h', K_, G_⟩ | ⟨q_, hq, h', K_, G_⟩
  · rcases List.mem_cons.mp hq with e_ | hq
    · subst e_
      exact ⟨h', yfr_sm K_.2.2.2 hs K_.1 (ywa_s wmD_v2_w List.mem_cons_self), Or.inl (⟨xq_eqF rfl rfl (K_.2.2.1 _ List.mem_cons_self), bpat_of (K_.2.1 _ List.mem_cons_self), fun a_ j_ n0_ => yfr_bp K_.2.2.2 (List.forall_mem_cons.mpr ⟨fun e_ => n0_ ⟨e_.1.symm, e_.2.symm⟩, fun q_ hq => absurd hq List.not_mem_nil⟩), G_⟩)⟩
    have e_ := List.mem_singleton.mp hq
    subst e_
    exact ⟨h', yfr_sm K_.2.2.2 hs K_.1 (ywa_s wmD_v2_w (List.mem_cons_of_mem _ List.mem_cons_self)), Or.inr (⟨xq_eqT rfl rfl (K_.2.2.1 _ List.mem_cons_self), bpat_of (K_.2.1 _ List.mem_cons_self), fun a_ j_ n0_ => yfr_bp K_.2.2.2 (List.forall_mem_cons.mpr ⟨fun e_ => n0_ ⟨e_.1.symm, e_.2.symm⟩, fun q_ hq => absurd hq List.not_mem_nil⟩), G_⟩)⟩
  · cases hq
theorem wmD {h_ : xH} {v1_ v2 v3 v4_ v300 v302 v310 : Int32} {lo_ : xL} (hs : sHp h_) (o0_ : bpat h_ 339 (v2).toInt.toNat = some (.int v300)) (o1 : bpat h_ 339 (((v2 + (1 : Int32)) + ((2 : Int32) * v4_))).toInt.toNat = some (.int (2 : Int32))) (o2 : bpat h_ 339 (((v2 + (2 : Int32)) + ((2 : Int32) * v4_))).toInt.toNat = some (.int v302)) (o3_ : bpat h_ 347 ((v3 - (1 : Int32))).toInt.toNat = some (.int v310)) (b0 : 0 ≤ (v2).toInt ∧ (v2).toInt < 768) (b1 : 0 ≤ (((v2 + (1 : Int32)) + ((2 : Int32) * v4_))).toInt ∧ (((v2 + (1 : Int32)) + ((2 : Int32) * v4_))).toInt < 768) (b2 : 0 ≤ (((v2 + (2 : Int32)) + ((2 : Int32) * v4_))).toInt ∧ (((v2 + (2 : Int32)) + ((2 : Int32) * v4_))).toInt < 768) (b3 : 0 ≤ (v3).toInt ∧ (v3).toInt < 64) (b4 : 0 ≤ ((v3 - (1 : Int32))).toInt ∧ ((v3 - (1 : Int32))).toInt < 64) (c0_ : v4_.toInt < v300.toInt) (H_ : wmN_hd v1_ v2 v3 v4_ lo_) : ∃ h', ysm h_ h' ∧ (((¬ v310 = (0 : Int32)) ∧ (bpat h' 347 ((v3 - (1 : Int32))).toInt.toNat = some (.int (0 : Int32))) ∧ (∀ a_ j_ : Nat, ¬ (a_ = 347 ∧ j_ = ((v3 - (1 : Int32))).toInt.toNat) → bpat h' a_ j_ = bpat h_ a_ j_) ∧ (∃ lo', wmN_hd v1_ v2 v3 (v4_ + (1 : Int32)) lo' ∧ bldD 60 187 14 lo_ [] h_ 14 lo' [] h'))
  ∨ ((v310 = (0 : Int32)) ∧ (bpat h' 347 ((v3 - (1 : Int32))).toInt.toNat = some (.int (1 : Int32))) ∧ (∀ a_ j_ : Nat, ¬ (a_ = 347 ∧ j_ = ((v3 - (1 : Int32))).toInt.toNat) → bpat h' a_ j_ = bpat h_ a_ j_) ∧ (∃ lo', wmN_hd v1_ v2 v3 (v4_ + (1 : Int32)) lo' ∧ bldD 60 187 14 lo_ [] h_ 14 lo' [] h'))) := by
  rcases H_ with rfl | ⟨y6, y5, rfl⟩ | ⟨y6, y5, rfl⟩
  · obtain ⟨h', m_, e_⟩ := wmD_v0 hs o0_ o1 o2 o3_ b0 b1 b2 b3 b4 c0_
    refine ⟨h', m_, ?_⟩
    rcases e_ with e_ | e_
    · obtain ⟨g0, g1, g2, g3_⟩ := e_
      exact Or.inl ⟨g0, g1, g2, ⟨_, Or.inr (Or.inr (⟨_, _, rfl⟩)), g3_⟩⟩
    · obtain ⟨g0, g1, g2, g3_⟩ := e_
      exact Or.inr (⟨g0, g1, g2, ⟨_, Or.inr (Or.inr (⟨_, _, rfl⟩)), g3_⟩⟩)
  · obtain ⟨h', m_, e_⟩ := wmD_v1 hs o0_ o1 o2 o3_ b0 b1 b2 b3 b4 c0_
    refine ⟨h', m_, ?_⟩
    rcases e_ with e_ | e_
    · obtain ⟨g0, g1, g2, g3_⟩ := e_
      exact Or.inl ⟨g0, g1, g2, ⟨_, Or.inr (Or.inr (⟨_, _, rfl⟩)), g3_⟩⟩
    · obtain ⟨g0, g1, g2, g3_⟩ := e_
      exact Or.inr (⟨g0, g1, g2, ⟨_, Or.inr (Or.inr (⟨_, _, rfl⟩)), g3_⟩⟩)
  · obtain ⟨h', m_, e_⟩ := wmD_v2 hs o0_ o1 o2 o3_ b0 b1 b2 b3 b4 c0_
    refine ⟨h', m_, ?_⟩
    rcases e_ with e_ | e_
    · obtain ⟨g0, g1, g2, g3_⟩ := e_
      exact Or.inl ⟨g0, g1, g2, ⟨_, Or.inr (Or.inr (⟨_, _, rfl⟩)), g3_⟩⟩
    · obtain ⟨g0, g1, g2, g3_⟩ := e_
      exact Or.inr (⟨g0, g1, g2, ⟨_, Or.inr (Or.inr (⟨_, _, rfl⟩)), g3_⟩⟩)
-- wmJ_v0: 57 steps, 1 ends, 0 returns
def wmJ_v0_L : List (Nat × Nat × Nat) := []
def wmJ_v0_O : yO := [(338, .int 0, .index 339), (339, .arg 2, .arg 300), (339, .add (.add (.arg 2) (.int 1)) (.mul (.int 2) (.arg 4)), .int 3), (339, .add (.add (.arg 2) (.int 2)) (.mul (.int 2) (.arg 4)), .arg 302), (338, .int 13, .index 347), (347, .sub (.add (.arg 3) (.int (Int32.ofInt (-1)))) (.int 1), .arg 312), (347, .add (.arg 3) (.int (Int32.ofInt (-1))), .arg 311)]
def wmJ_v0_A : yA := (yZ wmJ_v0_L, [(.arg 2, 768), (.add (.add (.arg 2) (.int 1)) (.mul (.int 2) (.arg 4)), 768), (.add (.add (.arg 2) (.int 2)) (.mul (.int 2) (.arg 4)), 768), (.arg 3, 64), (.add (.arg 3) (.int (Int32.ofInt (-1))), 64), (.sub (.add (.arg 3) (.int (Int32.ofInt (-1)))) (.int 1), 64)], [], [], [(186, [.arg 302, .arg 312, .arg 311], .arg 500)])
def wmJ_v0_C : List xB := [(.lt, .arg 4, .arg 300, true)]
def wmJ_v0_ss : List yS := [(14, [(4, .add (.arg 4) (.int 1)), (3, .add (.arg 3) (.int (Int32.ofInt (-1)))), (6, .arg 302), (5, .int 3), (2, .arg 2), (0, .index 338), (1, .arg 1)], [], [(347, .sub (.add (.arg 3) (.int (Int32.ofInt (-1)))) (.int 1), .arg 500), (338, .int 0, .index 339), (339, .arg 2, .arg 300), (339, .add (.add (.arg 2) (.int 1)) (.mul (.int 2) (.arg 4)), .int 3), (339, .add (.add (.arg 2) (.int 2)) (.mul (.int 2) (.arg 4)), .arg 302), (338, .int 13, .index 347)], [(.lt, .arg 4, .arg 300, true)], [(347, .sub (.add (.arg 3) (.int (Int32.ofInt (-1)))) (.int 1))])]
def wmJ_v0_rs : List yR := []
theorem wmJ_v0_w : ywa wmJ_v0_A wmJ_v0_ss wmJ_v0_rs = true := by decide +kernel
theorem wmJ_v0_k : yis (yev wmJ_v0_A 3000 60 187 [14] (14, [(4, .arg 4), (3, .arg 3), (2, .arg 2), (0, .index 338), (1, .arg 1)], [], wmJ_v0_O, wmJ_v0_C, [])) wmJ_v0_ss wmJ_v0_rs = true := by decide +kernel
def wmJ_v0_r (v1_ v2 v3 v4_ v300 v302 v311 v312 v500 : Int32) (k_ : Nat) : Value := bif Nat.beq k_ 1 then .int v1_ else (bif Nat.beq k_ 2 then .int v2 else (bif Nat.beq k_ 3 then .int v3 else (bif Nat.beq k_ 4 then .int v4_ else (bif Nat.beq k_ 300 then .int v300 else (bif Nat.beq k_ 302 then .int v302 else (bif Nat.beq k_ 311 then .int v311 else (bif Nat.beq k_ 312 then .int v312 else (bif Nat.beq k_ 500 then .int v500 else (.int 0)))))))))
def wmJ_v0_s (n_ : Nat) : Nat := 0
theorem wmJ_v0 {h_ : xH} {v1_ v2 v3 v4_ v300 v302 v311 v312 v500 : Int32} (hs : sHp h_) (o0_ : bpat h_ 339 (v2).toInt.toNat = some (.int v300)) (o1 : bpat h_ 339 (((v2 + (1 : Int32)) + ((2 : Int32) * v4_))).toInt.toNat = some (.int (3 : Int32))) (o2 : bpat h_ 339 (((v2 + (2 : Int32)) + ((2 : Int32) * v4_))).toInt.toNat = some (.int v302)) (o3_ : bpat h_ 347 (((v3 + (Int32.ofInt (-1))) - (1 : Int32))).toInt.toNat = some (.int v312)) (o4_ : bpat h_ 347 ((v3 + (Int32.ofInt (-1)))).toInt.toNat = some (.int v311)) (b0 : 0 ≤ (v2).toInt ∧ (v2).toInt < 768) (b1 : 0 ≤ (((v2 + (1 : Int32)) + ((2 : Int32) * v4_))).toInt ∧ (((v2 + (1 : Int32)) + ((2 : Int32) * v4_))).toInt < 768) (b2 : 0 ≤ (((v2 + (2 : Int32)) + ((2 : Int32) * v4_))).toInt ∧ (((v2 + (2 : Int32)) + ((2 : Int32) * v4_))).toInt < 768) (b3 : 0 ≤ (v3).toInt ∧ (v3).toInt < 64) (b4 : 0 ≤ ((v3 + (Int32.ofInt (-1)))).toInt ∧ ((v3 + (Int32.ofInt (-1)))).toInt < 64) (b5 : 0 ≤ (((v3 + (Int32.ofInt (-1))) - (1 : Int32))).toInt ∧ (((v3 + (Int32.ofInt (-1))) - (1 : Int32))).toInt < 64) (p0_ : ∀ (h_ : xH) (D_ : Nat), 5 ≤ D_ → xrun D_ 186 0 [(0, .int v302), (1, .int v312), (2, .int v311)] [] h_ (some (.int v500), h_, [])) (c0_ : v4_.toInt < v300.toInt) : ∃ h', ysm h_ h' ∧ (((bpat h' 347 (((v3 + (Int32.ofInt (-1))) - (1 : Int32))).toInt.toNat = some (.int v500)) ∧ (∀ a_ j_ : Nat, ¬ (a_ = 347 ∧ j_ = (((v3 + (Int32.ofInt (-1))) - (1 : Int32))).toInt.toNat) → bpat h' a_ j_ = bpat h_ a_ j_) ∧ (bldD 60 187 14 [(4, .int v4_), (3, .int v3), (2, .int v2), (0, .index 338), (1, .int v1_)] [] h_ 14 [(4, .int (v4_ + (1 : Int32))), (3, .int (v3 + (Int32.ofInt (-1)))), (6, .int v302), (5, .int (3 : Int32)), (2, .int v2), (0, .index 338), (1, .int v1_)] [] h'))) := by
  have hA : yas wmJ_v0_A (wmJ_v0_r v1_ v2 v3 v4_ v300 v302 v311 v312 v500) (yg wmJ_v0_s) := ⟨List.forall_mem_cons.mpr ⟨b0, List.forall_mem_cons.mpr ⟨b1, List.forall_mem_cons.mpr ⟨b2, List.forall_mem_cons.mpr ⟨b3, List.forall_mem_cons.mpr ⟨b4, List.forall_mem_cons.mpr ⟨b5, fun q_ hq => absurd hq List.not_mem_nil⟩⟩⟩⟩⟩⟩, fun q_ hq => absurd hq List.not_mem_nil, fun q_ hq => absurd hq List.not_mem_nil, fun n_ hn => yg_lo hn, List.forall_mem_cons.mpr ⟨p0_, fun q_ hq => absurd hq List.not_mem_nil⟩⟩
  have Hs : ysh wmJ_v0_A.1 (yg wmJ_v0_s) h_ := ysh_of2 hs (fun q_ hq => absurd hq List.not_mem_nil)
  have Ho : ymem (wmJ_v0_r v1_ v2 v3 v4_ v300 v302 v311 v312 v500) (yg wmJ_v0_s) wmJ_v0_O h_ := List.forall_mem_cons.mpr ⟨bpat_some (fxr_at hs.2 (show fxk fxl 338 0 = some 339 by decide +kernel)), List.forall_mem_cons.mpr ⟨bpat_some o0_, List.forall_mem_cons.mpr ⟨bpat_some o1, List.forall_mem_cons.mpr ⟨bpat_some o2, List.forall_mem_cons.mpr ⟨bpat_some (fxr_at hs.2 (show fxk fxl 338 13 = some 347 by decide +kernel)), List.forall_mem_cons.mpr ⟨bpat_some o3_, List.forall_mem_cons.mpr ⟨bpat_some o4_, fun q_ hq => absurd hq List.not_mem_nil⟩⟩⟩⟩⟩⟩⟩
  have HC : ∀ q_ ∈ wmJ_v0_C, xhold (wmJ_v0_r v1_ v2 v3 v4_ v300 v302 v311 v312 v500) q_ := List.forall_mem_cons.mpr ⟨xh_ltT c0_, fun q_ hq => absurd hq List.not_mem_nil⟩
  rcases yrun (yis_ok wmJ_v0_k) hA Hs Ho HC with ⟨q_, hq, h', K_, G_⟩ | ⟨q_, hq, h', K_, G_⟩
  · have e_ := List.mem_singleton.mp hq
    subst e_
    exact ⟨h', yfr_sm K_.2.2.2 hs K_.1 (ywa_s wmJ_v0_w List.mem_cons_self), ⟨bpat_of (K_.2.1 _ List.mem_cons_self), fun a_ j_ n0_ => yfr_bp K_.2.2.2 (List.forall_mem_cons.mpr ⟨fun e_ => n0_ ⟨e_.1.symm, e_.2.symm⟩, fun q_ hq => absurd hq List.not_mem_nil⟩), G_⟩⟩
  · cases hq
-- wmJ_v1: 57 steps, 1 ends, 0 returns
def wmJ_v1_L : List (Nat × Nat × Nat) := []
def wmJ_v1_O : yO := [(338, .int 0, .index 339), (339, .arg 2, .arg 300), (339, .add (.add (.arg 2) (.int 1)) (.mul (.int 2) (.arg 4)), .int 3), (339, .add (.add (.arg 2) (.int 2)) (.mul (.int 2) (.arg 4)), .arg 302), (338, .int 13, .index 347), (347, .sub (.add (.arg 3) (.int (Int32.ofInt (-1)))) (.int 1), .arg 312), (347, .add (.arg 3) (.int (Int32.ofInt (-1))), .arg 311)]
def wmJ_v1_A : yA := (yZ wmJ_v1_L, [(.arg 2, 768), (.add (.add (.arg 2) (.int 1)) (.mul (.int 2) (.arg 4)), 768), (.add (.add (.arg 2) (.int 2)) (.mul (.int 2) (.arg 4)), 768), (.arg 3, 64), (.add (.arg 3) (.int (Int32.ofInt (-1))), 64), (.sub (.add (.arg 3) (.int (Int32.ofInt (-1)))) (.int 1), 64)], [], [], [(186, [.arg 302, .arg 312, .arg 311], .arg 500)])
def wmJ_v1_C : List xB := [(.lt, .arg 4, .arg 300, true)]
def wmJ_v1_ss : List yS := [(14, [(4, .add (.arg 4) (.int 1)), (3, .add (.arg 3) (.int (Int32.ofInt (-1)))), (6, .arg 302), (5, .int 3), (2, .arg 2), (0, .index 338), (1, .arg 1)], [], [(347, .sub (.add (.arg 3) (.int (Int32.ofInt (-1)))) (.int 1), .arg 500), (338, .int 0, .index 339), (339, .arg 2, .arg 300), (339, .add (.add (.arg 2) (.int 1)) (.mul (.int 2) (.arg 4)), .int 3), (339, .add (.add (.arg 2) (.int 2)) (.mul (.int 2) (.arg 4)), .arg 302), (338, .int 13, .index 347)], [(.lt, .arg 4, .arg 300, true)], [(347, .sub (.add (.arg 3) (.int (Int32.ofInt (-1)))) (.int 1))])]
def wmJ_v1_rs : List yR := []
theorem wmJ_v1_w : ywa wmJ_v1_A wmJ_v1_ss wmJ_v1_rs = true := by decide +kernel
theorem wmJ_v1_k : yis (yev wmJ_v1_A 3000 60 187 [14] (14, [(4, .arg 4), (3, .arg 3), (6, .arg 906), (5, .arg 905), (2, .arg 2), (0, .index 338), (1, .arg 1)], [], wmJ_v1_O, wmJ_v1_C, [])) wmJ_v1_ss wmJ_v1_rs = true := by decide +kernel
def wmJ_v1_r (v1_ v2 v3 v4_ v300 v302 v311 v312 v500 v905 v906 : Int32) (k_ : Nat) : Value := bif Nat.beq k_ 1 then .int v1_ else (bif Nat.beq k_ 2 then .int v2 else (bif Nat.beq k_ 3 then .int v3 else (bif Nat.beq k_ 4 then .int v4_ else (bif Nat.beq k_ 300 then .int v300 else (bif Nat.beq k_ 302 then .int v302 else (bif Nat.beq k_ 311 then .int v311 else (bif Nat.beq k_ 312 then .int v312 else (bif Nat.beq k_ 500 then .int v500 else (bif Nat.beq k_ 905 then .int v905 else (bif Nat.beq k_ 906 then .int v906 else (.int 0)))))))))))
def wmJ_v1_s (n_ : Nat) : Nat := 0
theorem wmJ_v1 {h_ : xH} {v1_ v2 v3 v4_ v300 v302 v311 v312 v500 v905 v906 : Int32} (hs : sHp h_) (o0_ : bpat h_ 339 (v2).toInt.toNat = some (.int v300)) (o1 : bpat h_ 339 (((v2 + (1 : Int32)) + ((2 : Int32) * v4_))).toInt.toNat = some (.int (3 : Int32))) (o2 : bpat h_ 339 (((v2 + (2 : Int32)) + ((2 : Int32) * v4_))).toInt.toNat = some (.int v302)) (o3_ : bpat h_ 347 (((v3 + (Int32.ofInt (-1))) - (1 : Int32))).toInt.toNat = some (.int v312)) (o4_ : bpat h_ 347 ((v3 + (Int32.ofInt (-1)))).toInt.toNat = some (.int v311)) (b0 : 0 ≤ (v2).toInt ∧ (v2).toInt < 768) (b1 : 0 ≤ (((v2 + (1 : Int32)) + ((2 : Int32) * v4_))).toInt ∧ (((v2 + (1 : Int32)) + ((2 : Int32) * v4_))).toInt < 768) (b2 : 0 ≤ (((v2 + (2 : Int32)) + ((2 : Int32) * v4_))).toInt ∧ (((v2 + (2 : Int32)) + ((2 : Int32) * v4_))).toInt < 768) (b3 : 0 ≤ (v3).toInt ∧ (v3).toInt < 64) (b4 : 0 ≤ ((v3 + (Int32.ofInt (-1)))).toInt ∧ ((v3 + (Int32.ofInt (-1)))).toInt < 64) (b5 : 0 ≤ (((v3 + (Int32.ofInt (-1))) - (1 : Int32))).toInt ∧ (((v3 + (Int32.ofInt (-1))) - (1 : Int32))).toInt < 64) (p0_ : ∀ (h_ : xH) (D_ : Nat), 5 ≤ D_ → xrun D_ 186 0 [(0, .int v302), (1, .int v312), (2, .int v311)] [] h_ (some (.int v500), h_, [])) (c0_ : v4_.toInt < v300.toInt) : ∃ h', ysm h_ h' ∧ (((bpat h' 347 (((v3 + (Int32.ofInt (-1))) - (1 : Int32))).toInt.toNat = some (.int v500)) ∧ (∀ a_ j_ : Nat, ¬ (a_ = 347 ∧ j_ = (((v3 + (Int32.ofInt (-1))) - (1 : Int32))).toInt.toNat) → bpat h' a_ j_ = bpat h_ a_ j_) ∧ (bldD 60 187 14 [(4, .int v4_), (3, .int v3), (6, .int v906), (5, .int v905), (2, .int v2), (0, .index 338), (1, .int v1_)] [] h_ 14 [(4, .int (v4_ + (1 : Int32))), (3, .int (v3 + (Int32.ofInt (-1)))), (6, .int v302), (5, .int (3 : Int32)), (2, .int v2), (0, .index 338), (1, .int v1_)] [] h'))) := by
  have hA : yas wmJ_v1_A (wmJ_v1_r v1_ v2 v3 v4_ v300 v302 v311 v312 v500 v905 v906) (yg wmJ_v1_s) := ⟨List.forall_mem_cons.mpr ⟨b0, List.forall_mem_cons.mpr ⟨b1, List.forall_mem_cons.mpr ⟨b2, List.forall_mem_cons.mpr ⟨b3, List.forall_mem_cons.mpr ⟨b4, List.forall_mem_cons.mpr ⟨b5, fun q_ hq => absurd hq List.not_mem_nil⟩⟩⟩⟩⟩⟩, fun q_ hq => absurd hq List.not_mem_nil, fun q_ hq => absurd hq List.not_mem_nil, fun n_ hn => yg_lo hn, List.forall_mem_cons.mpr ⟨p0_, fun q_ hq => absurd hq List.not_mem_nil⟩⟩
  have Hs : ysh wmJ_v1_A.1 (yg wmJ_v1_s) h_ := ysh_of2 hs (fun q_ hq => absurd hq List.not_mem_nil)
  have Ho : ymem (wmJ_v1_r v1_ v2 v3 v4_ v300 v302 v311 v312 v500 v905 v906) (yg wmJ_v1_s) wmJ_v1_O h_ := List.forall_mem_cons.mpr ⟨bpat_some (fxr_at hs.2 (show fxk fxl 338 0 = some 339 by decide +kernel)), List.forall_mem_cons.mpr ⟨bpat_some o0_, List.forall_mem_cons.mpr ⟨bpat_some o1, List.forall_mem_cons.mpr ⟨bpat_some o2, List.forall_mem_cons.mpr ⟨bpat_some (fxr_at hs.2 (show fxk fxl 338 13 = some 347 by decide +kernel)), List.forall_mem_cons.mpr ⟨bpat_some o3_, List.forall_mem_cons.mpr ⟨bpat_some o4_, fun q_ hq => absurd hq List.not_mem_nil⟩⟩⟩⟩⟩⟩⟩
  have HC : ∀ q_ ∈ wmJ_v1_C, xhold (wmJ_v1_r v1_ v2 v3 v4_ v300 v302 v311 v312 v500 v905 v906) q_ := List.forall_mem_cons.mpr ⟨xh_ltT c0_, fun q_ hq => absurd hq List.not_mem_nil⟩
  rcases yrun (yis_ok wmJ_v1_k) hA Hs Ho HC with ⟨q_, hq, h', K_, G_⟩ | ⟨q_, hq, h', K_, G_⟩
  · have e_ := List.mem_singleton.mp hq
    subst e_
    exact ⟨h', yfr_sm K_.2.2.2 hs K_.1 (ywa_s wmJ_v1_w List.mem_cons_self), ⟨bpat_of (K_.2.1 _ List.mem_cons_self), fun a_ j_ n0_ => yfr_bp K_.2.2.2 (List.forall_mem_cons.mpr ⟨fun e_ => n0_ ⟨e_.1.symm, e_.2.symm⟩, fun q_ hq => absurd hq List.not_mem_nil⟩), G_⟩⟩
  · cases hq
-- wmJ_v2: 57 steps, 1 ends, 0 returns
def wmJ_v2_L : List (Nat × Nat × Nat) := []
def wmJ_v2_O : yO := [(338, .int 0, .index 339), (339, .arg 2, .arg 300), (339, .add (.add (.arg 2) (.int 1)) (.mul (.int 2) (.arg 4)), .int 3), (339, .add (.add (.arg 2) (.int 2)) (.mul (.int 2) (.arg 4)), .arg 302), (338, .int 13, .index 347), (347, .sub (.add (.arg 3) (.int (Int32.ofInt (-1)))) (.int 1), .arg 312), (347, .add (.arg 3) (.int (Int32.ofInt (-1))), .arg 311)]
def wmJ_v2_A : yA := (yZ wmJ_v2_L, [(.arg 2, 768), (.add (.add (.arg 2) (.int 1)) (.mul (.int 2) (.arg 4)), 768), (.add (.add (.arg 2) (.int 2)) (.mul (.int 2) (.arg 4)), 768), (.arg 3, 64), (.add (.arg 3) (.int (Int32.ofInt (-1))), 64), (.sub (.add (.arg 3) (.int (Int32.ofInt (-1)))) (.int 1), 64)], [], [], [(186, [.arg 302, .arg 312, .arg 311], .arg 500)])
def wmJ_v2_C : List xB := [(.lt, .arg 4, .arg 300, true)]
def wmJ_v2_ss : List yS := [(14, [(4, .add (.arg 4) (.int 1)), (3, .add (.arg 3) (.int (Int32.ofInt (-1)))), (6, .arg 302), (5, .int 3), (2, .arg 2), (0, .index 338), (1, .arg 1)], [], [(347, .sub (.add (.arg 3) (.int (Int32.ofInt (-1)))) (.int 1), .arg 500), (338, .int 0, .index 339), (339, .arg 2, .arg 300), (339, .add (.add (.arg 2) (.int 1)) (.mul (.int 2) (.arg 4)), .int 3), (339, .add (.add (.arg 2) (.int 2)) (.mul (.int 2) (.arg 4)), .arg 302), (338, .int 13, .index 347)], [(.lt, .arg 4, .arg 300, true)], [(347, .sub (.add (.arg 3) (.int (Int32.ofInt (-1)))) (.int 1))])]
def wmJ_v2_rs : List yR := []
theorem wmJ_v2_w : ywa wmJ_v2_A wmJ_v2_ss wmJ_v2_rs = true := by decide +kernel
theorem wmJ_v2_k : yis (yev wmJ_v2_A 3000 60 187 [14] (14, [(4, .arg 4), (6, .arg 906), (5, .arg 905), (3, .arg 3), (2, .arg 2), (0, .index 338), (1, .arg 1)], [], wmJ_v2_O, wmJ_v2_C, [])) wmJ_v2_ss wmJ_v2_rs = true := by decide +kernel
def wmJ_v2_r (v1_ v2 v3 v4_ v300 v302 v311 v312 v500 v905 v906 : Int32) (k_ : Nat) : Value := bif Nat.beq k_ 1 then .int v1_ else (bif Nat.beq k_ 2 then .int v2 else (bif Nat.beq k_ 3 then .int v3 else (bif Nat.beq k_ 4 then .int v4_ else (bif Nat.beq k_ 300 then .int v300 else (bif Nat.beq k_ 302 then .int v302 else (bif Nat.beq k_ 311 then .int v311 else (bif Nat.beq k_ 312 then .int v312 else (bif Nat.beq k_ 500 then .int v500 else (bif Nat.beq k_ 905 then .int v905 else (bif Nat.beq k_ 906 then .int v906 else (.int 0)))))))))))
def wmJ_v2_s (n_ : Nat) : Nat := 0
theorem wmJ_v2 {h_ : xH} {v1_ v2 v3 v4_ v300 v302 v311 v312 v500 v905 v906 : Int32} (hs : sHp h_) (o0_ : bpat h_ 339 (v2).toInt.toNat = some (.int v300)) (o1 : bpat h_ 339 (((v2 + (1 : Int32)) + ((2 : Int32) * v4_))).toInt.toNat = some (.int (3 : Int32))) (o2 : bpat h_ 339 (((v2 + (2 : Int32)) + ((2 : Int32) * v4_))).toInt.toNat = some (.int v302)) (o3_ : bpat h_ 347 (((v3 + (Int32.ofInt (-1))) - (1 : Int32))).toInt.toNat = some (.int v312)) (o4_ : bpat h_ 347 ((v3 + (Int32.ofInt (-1)))).toInt.toNat = some (.int v311)) (b0 : 0 ≤ (v2).toInt ∧ (v2).toInt < 768) (b1 : 0 ≤ (((v2 + (1 : Int32)) + ((2 : Int32) * v4_))).toInt ∧ (((v2 + (1 : Int32)) + ((2 : Int32) * v4_))).toInt < 768) (b2 : 0 ≤ (((v2 + (2 : Int32)) + ((2 : Int32) * v4_))).toInt ∧ (((v2 + (2 : Int32)) + ((2 : Int32) * v4_))).toInt < 768) (b3 : 0 ≤ (v3).toInt ∧ (v3).toInt < 64) (b4 : 0 ≤ ((v3 + (Int32.ofInt (-1)))).toInt ∧ ((v3 + (Int32.ofInt (-1)))).toInt < 64) (b5 : 0 ≤ (((v3 + (Int32.ofInt (-1))) - (1 : Int32))).toInt ∧ (((v3 + (Int32.ofInt (-1))) - (1 : Int32))).toInt < 64) (p0_ : ∀ (h_ : xH) (D_ : Nat), 5 ≤ D_ → xrun D_ 186 0 [(0, .int v302), (1, .int v312), (2, .int v311)] [] h_ (some (.int v500), h_, [])) (c0_ : v4_.toInt < v300.toInt) : ∃ h', ysm h_ h' ∧ (((bpat h' 347 (((v3 + (Int32.ofInt (-1))) - (1 : Int32))).toInt.toNat = some (.int v500)) ∧ (∀ a_ j_ : Nat, ¬ (a_ = 347 ∧ j_ = (((v3 + (Int32.ofInt (-1))) - (1 : Int32))).toInt.toNat) → bpat h' a_ j_ = bpat h_ a_ j_) ∧ (bldD 60 187 14 [(4, .int v4_), (6, .int v906), (5, .int v905), (3, .int v3), (2, .int v2), (0, .index 338), (1, .int v1_)] [] h_ 14 [(4, .int (v4_ + (1 : Int32))), (3, .int (v3 + (Int32.ofInt (-1)))), (6, .int v302), (5, .int (3 : Int32)), (2, .int v2), (0, .index 338), (1, .int v1_)] [] h'))) := by
  have hA : yas wmJ_v2_A (wmJ_v2_r v1_ v2 v3 v4_ v300 v302 v311 v312 v500 v905 v906) (yg wmJ_v2_s) := ⟨List.forall_mem_cons.mpr ⟨b0, List.forall_mem_cons.mpr ⟨b1, List.forall_mem_cons.mpr ⟨b2, List.forall_mem_cons.mpr ⟨b3, List.forall_mem_cons.mpr ⟨b4, List.forall_mem_cons.mpr ⟨b5, fun q_ hq => absurd hq List.not_mem_nil⟩⟩⟩⟩⟩⟩, fun q_ hq => absurd hq List.not_mem_nil, fun q_ hq => absurd hq List.not_mem_nil, fun n_ hn => yg_lo hn, List.forall_mem_cons.mpr ⟨p0_, fun q_ hq => absurd hq List.not_mem_nil⟩⟩
  have Hs : ysh wmJ_v2_A.1 (yg wmJ_v2_s) h_ := ysh_of2 hs (fun q_ hq => absurd hq List.not_mem_nil)
  have Ho : ymem (wmJ_v2_r v1_ v2 v3 v4_ v300 v302 v311 v312 v500 v905 v906) (yg wmJ_v2_s) wmJ_v2_O h_ := List.forall_mem_cons.mpr ⟨bpat_some (fxr_at hs.2 (show fxk fxl 338 0 = some 339 by decide +kernel)), List.forall_mem_cons.mpr ⟨bpat_some o0_, List.forall_mem_cons.mpr ⟨bpat_some o1, List.forall_mem_cons.mpr ⟨bpat_some o2, List.forall_mem_cons.mpr ⟨bpat_some (fxr_at hs.2 (show fxk fxl 338 13 = some 347 by decide +kernel)), List.forall_mem_cons.mpr ⟨bpat_some o3_, List.forall_mem_cons.mpr ⟨bpat_some o4_, fun q_ hq => absurd hq List.not_mem_nil⟩⟩⟩⟩⟩⟩⟩
  have HC : ∀ q_ ∈ wmJ_v2_C, xhold (wmJ_v2_r v1_ v2 v3 v4_ v300 v302 v311 v312 v500 v905 v906) q_ := List.forall_mem_cons.mpr ⟨xh_ltT c0_, fun q_ hq => absurd hq List.not_mem_nil⟩
  rcases yrun (yis_ok wmJ_v2_k) hA Hs Ho HC with ⟨q_, hq, h', K_, G_⟩ | ⟨q_, hq, h', K_, G_⟩
  · have e_ := List.mem_singleton.mp hq
    subst e_
    exact ⟨h', yfr_sm K_.2.2.2 hs K_.1 (ywa_s wmJ_v2_w List.mem_cons_self), ⟨bpat_of (K_.2.1 _ List.mem_cons_self), fun a_ j_ n0_ => yfr_bp K_.2.2.2 (List.forall_mem_cons.mpr ⟨fun e_ => n0_ ⟨e_.1.symm, e_.2.symm⟩, fun q_ hq => absurd hq List.not_mem_nil⟩), G_⟩⟩
  · cases hq
theorem wmJ {h_ : xH} {v1_ v2 v3 v4_ v300 v302 v311 v312 v500 : Int32} {lo_ : xL} (hs : sHp h_) (o0_ : bpat h_ 339 (v2).toInt.toNat = some (.int v300)) (o1 : bpat h_ 339 (((v2 + (1 : Int32)) + ((2 : Int32) * v4_))).toInt.toNat = some (.int (3 : Int32))) (o2 : bpat h_ 339 (((v2 + (2 : Int32)) + ((2 : Int32) * v4_))).toInt.toNat = some (.int v302)) (o3_ : bpat h_ 347 (((v3 + (Int32.ofInt (-1))) - (1 : Int32))).toInt.toNat = some (.int v312)) (o4_ : bpat h_ 347 ((v3 + (Int32.ofInt (-1)))).toInt.toNat = some (.int v311)) (b0 : 0 ≤ (v2).toInt ∧ (v2).toInt < 768) (b1 : 0 ≤ (((v2 + (1 : Int32)) + ((2 : Int32) * v4_))).toInt ∧ (((v2 + (1 : Int32)) + ((2 : Int32) * v4_))).toInt < 768) (b2 : 0 ≤ (((v2 + (2 : Int32)) + ((2 : Int32) * v4_))).toInt ∧ (((v2 + (2 : Int32)) + ((2 : Int32) * v4_))).toInt < 768) (b3 : 0 ≤ (v3).toInt ∧ (v3).toInt < 64) (b4 : 0 ≤ ((v3 + (Int32.ofInt (-1)))).toInt ∧ ((v3 + (Int32.ofInt (-1)))).toInt < 64) (b5 : 0 ≤ (((v3 + (Int32.ofInt (-1))) - (1 : Int32))).toInt ∧ (((v3 + (Int32.ofInt (-1))) - (1 : Int32))).toInt < 64) (p0_ : ∀ (h_ : xH) (D_ : Nat), 5 ≤ D_ → xrun D_ 186 0 [(0, .int v302), (1, .int v312), (2, .int v311)] [] h_ (some (.int v500), h_, [])) (c0_ : v4_.toInt < v300.toInt) (H_ : wmN_hd v1_ v2 v3 v4_ lo_) : ∃ h', ysm h_ h' ∧ (((bpat h' 347 (((v3 + (Int32.ofInt (-1))) - (1 : Int32))).toInt.toNat = some (.int v500)) ∧ (∀ a_ j_ : Nat, ¬ (a_ = 347 ∧ j_ = (((v3 + (Int32.ofInt (-1))) - (1 : Int32))).toInt.toNat) → bpat h' a_ j_ = bpat h_ a_ j_) ∧ (∃ lo', wmN_hd v1_ v2 (v3 + (Int32.ofInt (-1))) (v4_ + (1 : Int32)) lo' ∧ bldD 60 187 14 lo_ [] h_ 14 lo' [] h'))) := by
  rcases H_ with rfl | ⟨y6, y5, rfl⟩ | ⟨y6, y5, rfl⟩
  · obtain ⟨h', m_, e_⟩ := wmJ_v0 hs o0_ o1 o2 o3_ o4_ b0 b1 b2 b3 b4 b5 p0_ c0_
    refine ⟨h', m_, ?_⟩
    obtain ⟨g0, g1, g2⟩ := e_
    exact ⟨g0, g1, ⟨_, Or.inr (Or.inl (⟨_, _, rfl⟩)), g2⟩⟩
  · obtain ⟨h', m_, e_⟩ := wmJ_v1 hs o0_ o1 o2 o3_ o4_ b0 b1 b2 b3 b4 b5 p0_ c0_
    refine ⟨h', m_, ?_⟩
    obtain ⟨g0, g1, g2⟩ := e_
    exact ⟨g0, g1, ⟨_, Or.inr (Or.inl (⟨_, _, rfl⟩)), g2⟩⟩
  · obtain ⟨h', m_, e_⟩ := wmJ_v2 hs o0_ o1 o2 o3_ o4_ b0 b1 b2 b3 b4 b5 p0_ c0_
    refine ⟨h', m_, ?_⟩
    obtain ⟨g0, g1, g2⟩ := e_
    exact ⟨g0, g1, ⟨_, Or.inr (Or.inl (⟨_, _, rfl⟩)), g2⟩⟩
-- wmE_v0: 11 steps, 0 ends, 1 returns
def wmE_v0_L : List (Nat × Nat × Nat) := []
def wmE_v0_O : yO := [(338, .int 0, .index 339), (339, .arg 2, .arg 300), (338, .int 13, .index 347), (347, .int 0, .arg 330)]
def wmE_v0_A : yA := (yZ wmE_v0_L, [(.arg 2, 768)], [], [], [])
def wmE_v0_C : List xB := [(.lt, .arg 4, .arg 300, false)]
def wmE_v0_ss : List yS := []
def wmE_v0_rs : List yR := [(some (.arg 330), [(338, .int 0, .index 339), (339, .arg 2, .arg 300), (338, .int 13, .index 347), (347, .int 0, .arg 330)], [(.lt, .arg 4, .arg 300, false)], [])]
theorem wmE_v0_w : ywa wmE_v0_A wmE_v0_ss wmE_v0_rs = true := by decide +kernel
theorem wmE_v0_k : yis (yev wmE_v0_A 3000 60 187 [14] (14, [(4, .arg 4), (3, .arg 3), (2, .arg 2), (0, .index 338), (1, .arg 1)], [], wmE_v0_O, wmE_v0_C, [])) wmE_v0_ss wmE_v0_rs = true := by decide +kernel
def wmE_v0_r (v1_ v2 v3 v4_ v300 v330 : Int32) (k_ : Nat) : Value := bif Nat.beq k_ 1 then .int v1_ else (bif Nat.beq k_ 2 then .int v2 else (bif Nat.beq k_ 3 then .int v3 else (bif Nat.beq k_ 4 then .int v4_ else (bif Nat.beq k_ 300 then .int v300 else (bif Nat.beq k_ 330 then .int v330 else (.int 0))))))
def wmE_v0_s (n_ : Nat) : Nat := 0
theorem wmE_v0 {h_ : xH} {v1_ v2 v3 v4_ v300 v330 : Int32} (hs : sHp h_) (o0_ : bpat h_ 339 (v2).toInt.toNat = some (.int v300)) (o1 : bpat h_ 347 0 = some (.int v330)) (b0 : 0 ≤ (v2).toInt ∧ (v2).toInt < 768) (c0_ : v300.toInt ≤ v4_.toInt) : ∃ h', ysm h_ h' ∧ (((∀ a_ j_ : Nat, bpat h' a_ j_ = bpat h_ a_ j_) ∧ (∀ D_, 60 ≤ D_ → xrun D_ 187 14 [(4, .int v4_), (3, .int v3), (2, .int v2), (0, .index 338), (1, .int v1_)] [] h_ (some (.int v330), h', [])))) := by
  have hA : yas wmE_v0_A (wmE_v0_r v1_ v2 v3 v4_ v300 v330) (yg wmE_v0_s) := ⟨List.forall_mem_cons.mpr ⟨b0, fun q_ hq => absurd hq List.not_mem_nil⟩, fun q_ hq => absurd hq List.not_mem_nil, fun q_ hq => absurd hq List.not_mem_nil, fun n_ hn => yg_lo hn, fun q_ hq => absurd hq List.not_mem_nil⟩
  have Hs : ysh wmE_v0_A.1 (yg wmE_v0_s) h_ := ysh_of2 hs (fun q_ hq => absurd hq List.not_mem_nil)
  have Ho : ymem (wmE_v0_r v1_ v2 v3 v4_ v300 v330) (yg wmE_v0_s) wmE_v0_O h_ := List.forall_mem_cons.mpr ⟨bpat_some (fxr_at hs.2 (show fxk fxl 338 0 = some 339 by decide +kernel)), List.forall_mem_cons.mpr ⟨bpat_some o0_, List.forall_mem_cons.mpr ⟨bpat_some (fxr_at hs.2 (show fxk fxl 338 13 = some 347 by decide +kernel)), List.forall_mem_cons.mpr ⟨bpat_some o1, fun q_ hq => absurd hq List.not_mem_nil⟩⟩⟩⟩
  have HC : ∀ q_ ∈ wmE_v0_C, xhold (wmE_v0_r v1_ v2 v3 v4_ v300 v330) q_ := List.forall_mem_cons.mpr ⟨xh_ltF c0_, fun q_ hq => absurd hq List.not_mem_nil⟩
  rcases yrun (yis_ok wmE_v0_k) hA Hs Ho HC with ⟨q_, hq, h', K_, G_⟩ | ⟨q_, hq, h', K_, G_⟩
  · cases hq
  · have e_ := List.mem_singleton.mp hq
    subst e_
    exact ⟨h', yfr_sm K_.2.2.2 hs K_.1 (ywa_r wmE_v0_w List.mem_cons_self), ⟨fun a_ j_ => yfr_bp K_.2.2.2 (fun q_ hq => absurd hq List.not_mem_nil), G_⟩⟩
-- wmE_v1: 11 steps, 0 ends, 1 returns
def wmE_v1_L : List (Nat × Nat × Nat) := []
def wmE_v1_O : yO := [(338, .int 0, .index 339), (339, .arg 2, .arg 300), (338, .int 13, .index 347), (347, .int 0, .arg 330)]
def wmE_v1_A : yA := (yZ wmE_v1_L, [(.arg 2, 768)], [], [], [])
def wmE_v1_C : List xB := [(.lt, .arg 4, .arg 300, false)]
def wmE_v1_ss : List yS := []
def wmE_v1_rs : List yR := [(some (.arg 330), [(338, .int 0, .index 339), (339, .arg 2, .arg 300), (338, .int 13, .index 347), (347, .int 0, .arg 330)], [(.lt, .arg 4, .arg 300, false)], [])]
theorem wmE_v1_w : ywa wmE_v1_A wmE_v1_ss wmE_v1_rs = true := by decide +kernel
theorem wmE_v1_k : yis (yev wmE_v1_A 3000 60 187 [14] (14, [(4, .arg 4), (3, .arg 3), (6, .arg 906), (5, .arg 905), (2, .arg 2), (0, .index 338), (1, .arg 1)], [], wmE_v1_O, wmE_v1_C, [])) wmE_v1_ss wmE_v1_rs = true := by decide +kernel
def wmE_v1_r (v1_ v2 v3 v4_ v300 v330 v905 v906 : Int32) (k_ : Nat) : Value := bif Nat.beq k_ 1 then .int v1_ else (bif Nat.beq k_ 2 then .int v2 else (bif Nat.beq k_ 3 then .int v3 else (bif Nat.beq k_ 4 then .int v4_ else (bif Nat.beq k_ 300 then .int v300 else (bif Nat.beq k_ 330 then .int v330 else (bif Nat.beq k_ 905 then .int v905 else (bif Nat.beq k_ 906 then .int v906 else (.int 0))))))))
def wmE_v1_s (n_ : Nat) : Nat := 0
theorem wmE_v1 {h_ : xH} {v1_ v2 v3 v4_ v300 v330 v905 v906 : Int32} (hs : sHp h_) (o0_ : bpat h_ 339 (v2).toInt.toNat = some (.int v300)) (o1 : bpat h_ 347 0 = some (.int v330)) (b0 : 0 ≤ (v2).toInt ∧ (v2).toInt < 768) (c0_ : v300.toInt ≤ v4_.toInt) : ∃ h', ysm h_ h' ∧ (((∀ a_ j_ : Nat, bpat h' a_ j_ = bpat h_ a_ j_) ∧ (∀ D_, 60 ≤ D_ → xrun D_ 187 14 [(4, .int v4_), (3, .int v3), (6, .int v906), (5, .int v905), (2, .int v2), (0, .index 338), (1, .int v1_)] [] h_ (some (.int v330), h', [])))) := by
  have hA : yas wmE_v1_A (wmE_v1_r v1_ v2 v3 v4_ v300 v330 v905 v906) (yg wmE_v1_s) := ⟨List.forall_mem_cons.mpr ⟨b0, fun q_ hq => absurd hq List.not_mem_nil⟩, fun q_ hq => absurd hq List.not_mem_nil, fun q_ hq => absurd hq List.not_mem_nil, fun n_ hn => yg_lo hn, fun q_ hq => absurd hq List.not_mem_nil⟩
  have Hs : ysh wmE_v1_A.1 (yg wmE_v1_s) h_ := ysh_of2 hs (fun q_ hq => absurd hq List.not_mem_nil)
  have Ho : ymem (wmE_v1_r v1_ v2 v3 v4_ v300 v330 v905 v906) (yg wmE_v1_s) wmE_v1_O h_ := List.forall_mem_cons.mpr ⟨bpat_some (fxr_at hs.2 (show fxk fxl 338 0 = some 339 by decide +kernel)), List.forall_mem_cons.mpr ⟨bpat_some o0_, List.forall_mem_cons.mpr ⟨bpat_some (fxr_at hs.2 (show fxk fxl 338 13 = some 347 by decide +kernel)), List.forall_mem_cons.mpr ⟨bpat_some o1, fun q_ hq => absurd hq List.not_mem_nil⟩⟩⟩⟩
  have HC : ∀ q_ ∈ wmE_v1_C, xhold (wmE_v1_r v1_ v2 v3 v4_ v300 v330 v905 v906) q_ := List.forall_mem_cons.mpr ⟨xh_ltF c0_, fun q_ hq => absurd hq List.not_mem_nil⟩
  rcases yrun (yis_ok wmE_v1_k) hA Hs Ho HC with ⟨q_, hq, h', K_, G_⟩ | ⟨q_, hq, h', K_, G_⟩
  · cases hq
  · have e_ := List.mem_singleton.mp hq
    subst e_
    exact ⟨h', yfr_sm K_.2.2.2 hs K_.1 (ywa_r wmE_v1_w List.mem_cons_self), ⟨fun a_ j_ => yfr_bp K_.2.2.2 (fun q_ hq => absurd hq List.not_mem_nil), G_⟩⟩
-- wmE_v2: 11 steps, 0 ends, 1 returns
def wmE_v2_L : List (Nat × Nat × Nat) := []
def wmE_v2_O : yO := [(338, .int 0, .index 339), (339, .arg 2, .arg 300), (338, .int 13, .index 347), (347, .int 0, .arg 330)]
def wmE_v2_A : yA := (yZ wmE_v2_L, [(.arg 2, 768)], [], [], [])
def wmE_v2_C : List xB := [(.lt, .arg 4, .arg 300, false)]
def wmE_v2_ss : List yS := []
def wmE_v2_rs : List yR := [(some (.arg 330), [(338, .int 0, .index 339), (339, .arg 2, .arg 300), (338, .int 13, .index 347), (347, .int 0, .arg 330)], [(.lt, .arg 4, .arg 300, false)], [])]
theorem wmE_v2_w : ywa wmE_v2_A wmE_v2_ss wmE_v2_rs = true := by decide +kernel
theorem wmE_v2_k : yis (yev wmE_v2_A 3000 60 187 [14] (14, [(4, .arg 4), (6, .arg 906), (5, .arg 905), (3, .arg 3), (2, .arg 2), (0, .index 338), (1, .arg 1)], [], wmE_v2_O, wmE_v2_C, [])) wmE_v2_ss wmE_v2_rs = true := by decide +kernel
def wmE_v2_r (v1_ v2 v3 v4_ v300 v330 v905 v906 : Int32) (k_ : Nat) : Value := bif Nat.beq k_ 1 then .int v1_ else (bif Nat.beq k_ 2 then .int v2 else (bif Nat.beq k_ 3 then .int v3 else (bif Nat.beq k_ 4 then .int v4_ else (bif Nat.beq k_ 300 then .int v300 else (bif Nat.beq k_ 330 then .int v330 else (bif Nat.beq k_ 905 then .int v905 else (bif Nat.beq k_ 906 then .int v906 else (.int 0))))))))
def wmE_v2_s (n_ : Nat) : Nat := 0
theorem wmE_v2 {h_ : xH} {v1_ v2 v3 v4_ v300 v330 v905 v906 : Int32} (hs : sHp h_) (o0_ : bpat h_ 339 (v2).toInt.toNat = some (.int v300)) (o1 : bpat h_ 347 0 = some (.int v330)) (b0 : 0 ≤ (v2).toInt ∧ (v2).toInt < 768) (c0_ : v300.toInt ≤ v4_.toInt) : ∃ h', ysm h_ h' ∧ (((∀ a_ j_ : Nat, bpat h' a_ j_ = bpat h_ a_ j_) ∧ (∀ D_, 60 ≤ D_ → xrun D_ 187 14 [(4, .int v4_), (6, .int v906), (5, .int v905), (3, .int v3), (2, .int v2), (0, .index 338), (1, .int v1_)] [] h_ (some (.int v330), h', [])))) := by
  have hA : yas wmE_v2_A (wmE_v2_r v1_ v2 v3 v4_ v300 v330 v905 v906) (yg wmE_v2_s) := ⟨List.forall_mem_cons.mpr ⟨b0, fun q_ hq => absurd hq List.not_mem_nil⟩, fun q_ hq => absurd hq List.not_mem_nil, fun q_ hq => absurd hq List.not_mem_nil, fun n_ hn => yg_lo hn, fun q_ hq => absurd hq List.not_mem_nil⟩
  have Hs : ysh wmE_v2_A.1 (yg wmE_v2_s) h_ := ysh_of2 hs (fun q_ hq => absurd hq List.not_mem_nil)
  have Ho : ymem (wmE_v2_r v1_ v2 v3 v4_ v300 v330 v905 v906) (yg wmE_v2_s) wmE_v2_O h_ := List.forall_mem_cons.mpr ⟨bpat_some (fxr_at hs.2 (show fxk fxl 338 0 = some 339 by decide +kernel)), List.forall_mem_cons.mpr ⟨bpat_some o0_, List.forall_mem_cons.mpr ⟨bpat_some (fxr_at hs.2 (show fxk fxl 338 13 = some 347 by decide +kernel)), List.forall_mem_cons.mpr ⟨bpat_some o1, fun q_ hq => absurd hq List.not_mem_nil⟩⟩⟩⟩
  have HC : ∀ q_ ∈ wmE_v2_C, xhold (wmE_v2_r v1_ v2 v3 v4_ v300 v330 v905 v906) q_ := List.forall_mem_cons.mpr ⟨xh_ltF c0_, fun q_ hq => absurd hq List.not_mem_nil⟩
  rcases yrun (yis_ok wmE_v2_k) hA Hs Ho HC with ⟨q_, hq, h', K_, G_⟩ | ⟨q_, hq, h', K_, G_⟩
  · cases hq
  · have e_ := List.mem_singleton.mp hq
    subst e_
    exact ⟨h', yfr_sm K_.2.2.2 hs K_.1 (ywa_r wmE_v2_w List.mem_cons_self), ⟨fun a_ j_ => yfr_bp K_.2.2.2 (fun q_ hq => absurd hq List.not_mem_nil), G_⟩⟩
theorem wmE {h_ : xH} {v1_ v2 v3 v4_ v300 v330 : Int32} {lo_ : xL} (hs : sHp h_) (o0_ : bpat h_ 339 (v2).toInt.toNat = some (.int v300)) (o1 : bpat h_ 347 0 = some (.int v330)) (b0 : 0 ≤ (v2).toInt ∧ (v2).toInt < 768) (c0_ : v300.toInt ≤ v4_.toInt) (H_ : wmN_hd v1_ v2 v3 v4_ lo_) : ∃ h', ysm h_ h' ∧ (((∀ a_ j_ : Nat, bpat h' a_ j_ = bpat h_ a_ j_) ∧ (∀ D_, 60 ≤ D_ → xrun D_ 187 14 lo_ [] h_ (some (.int v330), h', [])))) := by
  rcases H_ with rfl | ⟨y6, y5, rfl⟩ | ⟨y6, y5, rfl⟩
  · obtain ⟨h', m_, e_⟩ := wmE_v0 hs o0_ o1 b0 c0_
    refine ⟨h', m_, ?_⟩
    obtain ⟨g0, g1⟩ := e_
    exact ⟨g0, g1⟩
  · obtain ⟨h', m_, e_⟩ := wmE_v1 hs o0_ o1 b0 c0_
    refine ⟨h', m_, ?_⟩
    obtain ⟨g0, g1⟩ := e_
    exact ⟨g0, g1⟩
  · obtain ⟨h', m_, e_⟩ := wmE_v2 hs o0_ o1 b0 c0_
    refine ⟨h', m_, ?_⟩
    obtain ⟨g0, g1⟩ := e_
    exact ⟨g0, g1⟩
-- wm0: 10 steps, 1 ends, 0 returns
def wm0_L : List (Nat × Nat × Nat) := []
def wm0_O : yO := []
def wm0_A : yA := (yZ wm0_L, [], [], [], [])
def wm0_C : List xB := []
def wm0_ss : List yS := [(14, [(4, .int 0), (3, .int 0), (2, .add (.int 434) (.mul (.int 125) (.arg 1))), (0, .index 338), (1, .arg 1)], [], [], [], [])]
def wm0_rs : List yR := []
theorem wm0_w : ywa wm0_A wm0_ss wm0_rs = true := by decide +kernel
theorem wm0_k : yis (yev wm0_A 3000 60 187 [14] (0, [(0, .index 338), (1, .arg 1)], [], wm0_O, wm0_C, [])) wm0_ss wm0_rs = true := by decide +kernel
def wm0_r (v1_ : Int32) (k_ : Nat) : Value := bif Nat.beq k_ 1 then .int v1_ else (.int 0)
def wm0_s (n_ : Nat) : Nat := 0
theorem wm0 {h_ : xH} {v1_ : Int32} (hs : sHp h_) : ∃ h', ysm h_ h' ∧ (((∀ a_ j_ : Nat, bpat h' a_ j_ = bpat h_ a_ j_) ∧ (bldD 60 187 0 [(0, .index 338), (1, .int v1_)] [] h_ 14 [(4, .int (0 : Int32)), (3, .int (0 : Int32)), (2, .int ((434 : Int32) + ((125 : Int32) * v1_))), (0, .index 338), (1, .int v1_)] [] h'))) := by
  have hA : yas wm0_A (wm0_r v1_) (yg wm0_s) := ⟨fun q_ hq => absurd hq List.not_mem_nil, fun q_ hq => absurd hq List.not_mem_nil, fun q_ hq => absurd hq List.not_mem_nil, fun n_ hn => yg_lo hn, fun q_ hq => absurd hq List.not_mem_nil⟩
  have Hs : ysh wm0_A.1 (yg wm0_s) h_ := ysh_of2 hs (fun q_ hq => absurd hq List.not_mem_nil)
  have Ho : ymem (wm0_r v1_) (yg wm0_s) wm0_O h_ := fun q_ hq => absurd hq List.not_mem_nil
  have HC : ∀ q_ ∈ wm0_C, xhold (wm0_r v1_) q_ := fun q_ hq => absurd hq List.not_mem_nil
  rcases yrun (yis_ok wm0_k) hA Hs Ho HC with ⟨q_, hq, h', K_, G_⟩ | ⟨q_, hq, h', K_, G_⟩
  · have e_ := List.mem_singleton.mp hq
    subst e_
    exact ⟨h', yfr_sm K_.2.2.2 hs K_.1 (ywa_s wm0_w List.mem_cons_self), ⟨fun a_ j_ => yfr_bp K_.2.2.2 (fun q_ hq => absurd hq List.not_mem_nil), G_⟩⟩
  · cases hq
/-- a step of both sides: the class's number, the reference's two -/
def nmc (u_ j_ : Nat) : Nat := if u_ = 0 then (if j_ = 0 then 115 else if j_ = 1 then 105 else if j_ = 2 then 110 else 109) else (if j_ = 0 then 111 else if j_ = 1 then 104 else if j_ = 2 then 98 else 116)
def okp (u_ : Nat) (x_ : Int32) (y_ : Int32 × Int32) : Prop := (y_.1 = 0 ∧ (y_.2 = x_ ∧ (0 ≤ x_.toInt ∧ x_.toInt < 10000))) ∨ ((∃ j_, j_ < 4 ∧ (x_ = Int32.ofNat (10000 + j_) ∧ y_ = (1, Int32.ofNat (nmc u_ j_)))) ∨ ((x_ = 20033 ∧ y_.1 = 2) ∨ ∃ c_, c_ ∈ jsg ∧ (x_ = Int32.ofNat (20000 + c_) ∧ y_ = (3, Int32.ofNat c_))))
theorem nmc_lt {u_ j_ : Nat} : nmc u_ j_ < 128 := by
  unfold nmc
  repeat' split
  all_goals omega
theorem okp_x {u_ : Nat} {x_ : Int32} {y_ : Int32 × Int32} (h_ : okp u_ x_ y_) : okx x_ := by
  rcases h_ with ⟨-, -, h_⟩ | ⟨j_, hj, h_, -⟩ | ⟨h_, -⟩ | ⟨c_, hc_, h_, -⟩
  · exact Or.inl h_
  · exact Or.inr (Or.inl ⟨j_, hj, h_⟩)
  · exact Or.inr (Or.inr (Or.inl h_))
  · exact Or.inr (Or.inr (Or.inr ⟨c_, hc_, h_⟩))
def txm (h_ : xH) (u_ q_ : Nat) (nm : Nat → Int32) (ys : List (Int32 × Int32)) : Prop := sHp h_ ∧ (bpat h_ 339 q_ = some (.int (Int32.ofNat ys.length)) ∧ ((∀ j_ y_, ys[j_]? = some y_ → bpat h_ 339 (q_ + 1 + 2 * j_) = some (.int y_.1) ∧ bpat h_ 339 (q_ + 2 + 2 * j_) = some (.int y_.2)) ∧ ∀ j_, j_ < 4 → bpat h_ 346 (nmc u_ j_) = some (.int (nm j_))))
theorem txm_keep {h_ h' : xH} {u_ q_ : Nat} {nm : Nat → Int32} {ys : List (Int32 × Int32)} (T : txm h_ u_ q_ nm ys) (m_ : ysm h_ h') (f_ : ∀ c_ j_, ¬ c_ = 347 → bpat h' c_ j_ = bpat h_ c_ j_) : txm h' u_ q_ nm ys := by
  obtain ⟨T1, T2, T3, T4⟩ := T
  exact ⟨m_.1, (f_ _ _ (by omega)).trans T2, fun j_ y_ hy => ⟨(f_ _ _ (by omega)).trans (T3 j_ y_ hy).1, (f_ _ _ (by omega)).trans (T3 j_ y_ hy).2⟩, fun j_ hj => (f_ _ _ (by omega)).trans (T4 j_ hj)⟩
theorem ib (q_ j_ k_ : Nat) : Int32.ofNat q_ + Int32.ofNat k_ + Int32.ofNat 2 * Int32.ofNat j_ = Int32.ofNat (q_ + k_ + 2 * j_) := by
  rw [← Int32.ofNat_mul, ← Int32.ofNat_add, ← Int32.ofNat_add]
/-- a text worked out, the reference: from the loop's head on -/
theorem wm_lp {u_ q_ : Nat} {nm : Nat → Int32} {xs : List Int32} {ys : List (Int32 × Int32)} (hq : q_ ≤ 640) (hlen : ys.length = xs.length) (hx : ∀ (j_ : Nat) (x_ : Int32) (y_ : Int32 × Int32), xs[j_]? = some x_ → ys[j_]? = some y_ → okp u_ x_ y_) (hl : xs.length ≤ 60) : ∀ (k_ i_ : Nat) (s_ s' : List Int32) (h_ : xH) (lo_ : xL), xs.length = i_ + k_ → s_.length ≤ i_ → txm h_ u_ q_ nm ys → stk h_ 347 s_ → evl nm (xs.drop i_) s_ = some s' → ¬ s' = [] → wmN_hd (Int32.ofNat u_) (Int32.ofNat q_) (Int32.ofNat s_.length) (Int32.ofNat i_) lo_ → ∃ h', frb 347 h_ h' ∧ ∀ D_, 60 ≤ D_ → xrun D_ 187 14 lo_ [] h_ (some (.int (s'.getLastD 0)), h', []) := by
  intro k_
  induction k_ with
  | zero =>
    intro i_ s_ s' h_ lo_ hk hs T S_ e_ ne_ H_
    rw [List.drop_eq_nil_of_le (by omega)] at e_
    have e1_ : s_ = s' := Option.some.inj e_
    subst e1_
    obtain ⟨T1, T2, T3, T4⟩ := T
    obtain ⟨h', m_, f_, r_⟩ := wmE T1 (by rw [i32t (by omega)]; exact T2) (stk_last S_ ne_) ⟨by rw [i32n (by omega)]; omega, by rw [i32n (by omega)]; omega⟩ (by rw [i32n (by omega), i32n (by omega)]; omega) H_
    exact ⟨h', ⟨m_, fun c_ j_ _ => f_ c_ j_⟩, r_⟩
  | succ k_ ih_ =>
    intro i_ s_ s' h_ lo_ hk hs T S_ e_ ne_ H_
    have hi_ : i_ < xs.length := by omega
    have hi2 : i_ < ys.length := by omega
    have ex_ := List.getElem?_eq_getElem hi_
    have ey := List.getElem?_eq_getElem hi2
    rw [List.drop_eq_getElem_cons hi_] at e_
    have ok_ := hx i_ _ _ ex_ ey
    have T0_ := T
    obtain ⟨T1, T2, T3, T4⟩ := T
    have w1_ : Int32.ofNat q_ + 1 + 2 * Int32.ofNat i_ = Int32.ofNat (q_ + 1 + 2 * i_) := ib q_ i_ 1
    have w2_ : Int32.ofNat q_ + 2 + 2 * Int32.ofNat i_ = Int32.ofNat (q_ + 2 + 2 * i_) := ib q_ i_ 2
    have bq : 0 ≤ (Int32.ofNat q_).toInt ∧ (Int32.ofNat q_).toInt < 768 := by
      rw [i32n (by omega)]
      omega
    have b1 : 0 ≤ (Int32.ofNat q_ + 1 + 2 * Int32.ofNat i_).toInt ∧ (Int32.ofNat q_ + 1 + 2 * Int32.ofNat i_).toInt < 768 := by
      rw [w1_, i32n (by omega)]
      omega
    have b2 : 0 ≤ (Int32.ofNat q_ + 2 + 2 * Int32.ofNat i_).toInt ∧ (Int32.ofNat q_ + 2 + 2 * Int32.ofNat i_).toInt < 768 := by
      rw [w2_, i32n (by omega)]
      omega
    have bs : 0 ≤ (Int32.ofNat s_.length).toInt ∧ (Int32.ofNat s_.length).toInt < 64 := by
      rw [i32n (by omega)]
      omega
    have T2' : bpat h_ 339 (Int32.ofNat q_).toInt.toNat = some (.int (Int32.ofNat ys.length)) := by
      rw [i32t (by omega)]
      exact T2
    have o1 : bpat h_ 339 (Int32.ofNat q_ + 1 + 2 * Int32.ofNat i_).toInt.toNat = some (.int (ys[i_]).1) := by
      rw [w1_, i32t (by omega)]
      exact (T3 i_ _ ey).1
    have o2 : bpat h_ 339 (Int32.ofNat q_ + 2 + 2 * Int32.ofNat i_).toInt.toNat = some (.int (ys[i_]).2) := by
      rw [w2_, i32t (by omega)]
      exact (T3 i_ _ ey).2
    have ci_ : (Int32.ofNat i_).toInt < (Int32.ofNat ys.length).toInt := by
      rw [i32n (by omega), i32n (by omega)]
      omega
    have go_ : ∀ (t_ : List Int32) (h1 : xH) (lo' : xL), evs nm xs[i_] s_ = some t_ → t_.length ≤ i_ + 1 → ysm h_ h1 → (∀ c_ j_, ¬ c_ = 347 → bpat h1 c_ j_ = bpat h_ c_ j_) → stk h1 347 t_ → wmN_hd (Int32.ofNat u_) (Int32.ofNat q_) (Int32.ofNat t_.length) (Int32.ofNat (i_ + 1)) lo' → bldD 60 187 14 lo_ [] h_ 14 lo' [] h1 → ∃ h', frb 347 h_ h' ∧ ∀ D_, 60 ≤ D_ → xrun D_ 187 14 lo_ [] h_ (some (.int (s'.getLastD 0)), h', []) := by
      intro t_ h1 lo' et lt_ m_ f_ St_ H' ld
      have e2_ : evl nm (xs.drop (i_ + 1)) t_ = some s' := by
        unfold evl at e_
        rw [et] at e_
        exact e_
      obtain ⟨h', F_, r_⟩ := ih_ (i_ + 1) t_ s' h1 lo' (by omega) lt_ (txm_keep T0_ m_ f_) St_ e2_ ne_ H'
      exact ⟨h', frb_tr _ _ _ ⟨m_, f_⟩ F_, fun D_ hD => ld D_ hD _ (r_ D_ hD)⟩
    rcases ok_ with ⟨g1, g2, q1_, q2_⟩ | ⟨j_, hj, q1_, g1⟩ | ⟨q1_, g1⟩ | ⟨c_, hc_, q1_, g1⟩
    · rw [g1] at o1
      rw [g2] at o2
      obtain ⟨h1, m1_, e1_, f1_, lo', H', ld⟩ := wmN T1 T2' o1 o2 bq b1 b2 bs ci_ H_
      rw [i32t (by omega)] at e1_ f1_
      rw [i32s, i32s] at H'
      exact go_ (xs[i_] :: s_) h1 lo' (if_pos q2_) (by show s_.length + 1 ≤ i_ + 1; omega) m1_ (fun c_ j_ nc => f1_ c_ j_ (fun q_ => nc q_.1)) (stk_push S_ e1_ (fun j_ nj => f1_ 347 j_ (fun q_ => nj q_.2))) H' ld
    · have hn := nmc_lt (u_ := u_) (j_ := j_)
      have hv : xs[i_].toInt = ((10000 + j_ : Nat) : Int) := by
        rw [q1_, i32n (by omega)]
      rw [g1] at o1 o2
      obtain ⟨h1, m1_, e1_, f1_, lo', H', ld⟩ := wmV T1 T2' o1 o2 (by rw [i32t (by omega)]; exact T4 j_ hj) bq b1 b2 bs ⟨by rw [i32n (by omega)]; omega, by rw [i32n (by omega)]; omega⟩ ci_ H_
      rw [i32t (by omega)] at e1_ f1_
      rw [i32s, i32s] at H'
      have et : evs nm xs[i_] s_ = some (nm j_ :: s_) := by
        unfold evs
        rw [if_neg (by omega), if_pos (by omega), hv, show ((10000 + j_ : Nat) : Int).toNat - 10000 = j_ by omega]
      exact go_ (nm j_ :: s_) h1 lo' et (by show s_.length + 1 ≤ i_ + 1; omega) m1_ (fun c_ j_ nc => f1_ c_ j_ (fun q_ => nc q_.1)) (stk_push S_ e1_ (fun j_ nj => f1_ 347 j_ (fun q_ => nj q_.2))) H' ld
    · have hv : xs[i_].toInt = 20033 := by
        rw [q1_]
        decide
      rw [g1] at o1
      cases s_ with
      | nil =>
        unfold evl at e_
        have et : evs nm xs[i_] [] = none := by
          unfold evs
          rw [if_neg (by omega), if_neg (by omega), if_pos q1_]
        rw [et] at e_
        cases e_
      | cons a0_ t_ =>
        have et : evs nm xs[i_] (a0_ :: t_) = some ((if a0_ = 0 then 1 else 0) :: t_) := by
          unfold evs
          rw [if_neg (by omega), if_neg (by omega), if_pos q1_]
        have hls : (a0_ :: t_).length = t_.length + 1 := rfl
        have el : Int32.ofNat (a0_ :: t_).length - 1 = Int32.ofNat t_.length := i32w (n_ := t_.length + 1) (k_ := 1) (by omega) (by omega)
        have e8 : bpat h_ 347 (Int32.ofNat (a0_ :: t_).length - 1).toInt.toNat = some (.int a0_) := by
          rw [el, i32t (by omega)]
          exact stk_top S_
        obtain ⟨h1, m1_, E_⟩ := wmD T1 T2' o1 o2 e8 bq b1 b2 bs ⟨by rw [el, i32n (by omega)]; omega, by rw [el, i32n (by omega)]; omega⟩ ci_ H_
        rw [el, i32t (by omega), i32s] at E_
        rcases E_ with ⟨g0, e1_, f1_, lo', H', ld⟩ | ⟨g0, e1_, f1_, lo', H', ld⟩
        · rw [if_neg g0] at et
          exact go_ (0 :: t_) h1 lo' et (by show t_.length + 1 ≤ i_ + 1; omega) m1_ (fun c_ j_ nc => f1_ c_ j_ (fun q_ => nc q_.1)) (stk_push (stk_tail S_) e1_ (fun j_ nj => f1_ 347 j_ (fun q_ => nj q_.2))) H' ld
        · rw [if_pos g0] at et
          exact go_ (1 :: t_) h1 lo' et (by show t_.length + 1 ≤ i_ + 1; omega) m1_ (fun c_ j_ nc => f1_ c_ j_ (fun q_ => nc q_.1)) (stk_push (stk_tail S_) e1_ (fun j_ nj => f1_ 347 j_ (fun q_ => nj q_.2))) H' ld
    · have hcb : 37 ≤ c_ ∧ c_ ≤ 124 ∧ ¬ c_ = 33 := by
        simp only [jsg, List.mem_cons, List.not_mem_nil, or_false] at hc_
        omega
      have hv : xs[i_].toInt = ((20000 + c_ : Nat) : Int) := by
        rw [q1_, i32n (by omega)]
      have nq : ¬ xs[i_] = 20033 := by
        intro z_
        rw [z_] at hv
        have e1_ : (20033 : Int32).toInt = 20033 := by decide
        omega
      have ev_ : ∀ s_ : List Int32, evs nm xs[i_] s_ = (match s_ with
          | b_ :: a_ :: t_ => some (jxf c_ a_ b_ :: t_)
          | _ => none) := by
        intro s_
        unfold evs
        rw [if_neg (by omega), if_neg (by omega), if_neg nq, hv, show ((20000 + c_ : Nat) : Int).toNat - 20000 = c_ by omega]
        rcases s_ with _ | ⟨b_, _ | ⟨a_, t_⟩⟩ <;> rfl
      rw [g1] at o1 o2
      rcases s_ with _ | ⟨b0, _ | ⟨a0_, t_⟩⟩
      · unfold evl at e_
        rw [ev_] at e_
        cases e_
      · unfold evl at e_
        rw [ev_] at e_
        cases e_
      · have hls : (b0 :: a0_ :: t_).length = t_.length + 2 := rfl
        have el : Int32.ofNat (b0 :: a0_ :: t_).length + Int32.ofInt (-1) = Int32.ofNat (t_.length + 1) := i32m1 (n_ := t_.length + 2) (by omega) (by omega)
        have el2 : Int32.ofNat (t_.length + 1) - 1 = Int32.ofNat t_.length := i32w (n_ := t_.length + 1) (k_ := 1) (by omega) (by omega)
        have e8 : bpat h_ 347 (Int32.ofNat (b0 :: a0_ :: t_).length + Int32.ofInt (-1) - 1).toInt.toNat = some (.int a0_) := by
          rw [el, el2, i32t (by omega)]
          exact stk_sec S_
        have e9_ : bpat h_ 347 (Int32.ofNat (b0 :: a0_ :: t_).length + Int32.ofInt (-1)).toInt.toNat = some (.int b0) := by
          rw [el, i32t (by omega)]
          exact stk_top S_
        obtain ⟨h1, m1_, e1_, f1_, lo', H', ld⟩ := wmJ (v500 := jxf c_ a0_ b0) T1 T2' o1 o2 e8 e9_ bq b1 b2 bs ⟨by rw [el, i32n (by omega)]; omega, by rw [el, i32n (by omega)]; omega⟩ ⟨by rw [el, el2, i32n (by omega)]; omega, by rw [el, el2, i32n (by omega)]; omega⟩ (jxf_m hc_ a0_ b0) ci_ H_
        rw [el] at e1_ f1_ H'
        rw [el2, i32t (by omega)] at e1_ f1_
        rw [i32s] at H'
        exact go_ (jxf c_ a0_ b0 :: t_) h1 lo' (ev_ _) (by show t_.length + 1 ≤ i_ + 1; omega) m1_ (fun c_ j_ nc => f1_ c_ j_ (fun q_ => nc q_.1)) (stk_push (stk_tail (stk_tail S_)) e1_ (fun j_ nj => f1_ 347 j_ (fun q_ => nj q_.2))) H' ld
theorem i434 {u_ : Nat} (hu : u_ < 2) : (434 : Int32) + 125 * Int32.ofNat u_ = Int32.ofNat (434 + 125 * u_) := by
  rcases (show u_ = 0 ∨ u_ = 1 by omega) with rfl | rfl <;> decide
/-- a text worked out, the reference -/
theorem workedM {u_ : Nat} {nm : Nat → Int32} {xs s' : List Int32} {ys : List (Int32 × Int32)} {h_ : xH} (hu : u_ < 2) (hlen : ys.length = xs.length) (hx : ∀ (j_ : Nat) (x_ : Int32) (y_ : Int32 × Int32), xs[j_]? = some x_ → ys[j_]? = some y_ → okp u_ x_ y_) (hl : xs.length ≤ 60) (T : txm h_ u_ (434 + 125 * u_) nm ys) (e_ : evl nm xs [] = some s') (ne_ : ¬ s' = []) : ∃ h', frb 347 h_ h' ∧ ∀ D_, 60 ≤ D_ → xrun D_ 187 0 [(0, .index 338), (1, .int (Int32.ofNat u_))] [] h_ (some (.int (s'.getLastD 0)), h', []) := by
  obtain ⟨h0, m0_, f0_, ld0⟩ := wm0 (v1_ := Int32.ofNat u_) T.1
  rw [i434 hu] at ld0
  obtain ⟨h', F_, r_⟩ := wm_lp (u_ := u_) (q_ := 434 + 125 * u_) (by omega) hlen hx hl xs.length 0 [] s' h0 _ (by omega) (Nat.le_refl _) (txm_keep T m0_ (fun c_ j_ _ => f0_ c_ j_)) (fun k_ x_ hk => (by cases hk)) e_ ne_ (Or.inl rfl)
  exact ⟨h', frb_tr _ _ _ ⟨m0_, fun c_ j_ _ => f0_ c_ j_⟩ F_, fun D_ hD => ld0 D_ hD _ (r_ D_ hD)⟩
