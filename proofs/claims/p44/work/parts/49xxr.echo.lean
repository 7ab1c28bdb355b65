-- ===== echoes, the class
-- xleA: 31 steps, 1 ends, 0 returns
def xleA_L : List (Nat × Nat × Nat) := [(1000, 6, 2), (1001, 6, 2)]
def xleA_O : yO := [(1, .int 8, .index 15), (15, .int 1, .arg 301), (15, .int 2, .arg 302), (15, .int 0, .index 16), (16, .rem (.add (.arg 301) (.int 1)) (.int 8), .index 1000), (1, .int 0, .index 2), (2, .arg 1, .index 1001)]
def xleA_A : yA := (yZ xleA_L, [(.rem (.add (.arg 301) (.int 1)) (.int 8), 8), (.arg 1, 12)], [], [], [])
def xleA_C : List xB := []
def xleA_ss : List yS := [(15, [(3, .index 1000), (0, .index 1), (1, .arg 1), (2, .arg 2)], [.index 1001, .index 1000], [(15, .int 2, .op2 .fcmpg (.add (.arg 302) (.int 1)) (.int 8)), (15, .int 1, .rem (.add (.arg 301) (.int 1)) (.int 8)), (1, .int 8, .index 15), (15, .int 0, .index 16), (16, .rem (.add (.arg 301) (.int 1)) (.int 8), .index 1000), (1, .int 0, .index 2), (2, .arg 1, .index 1001)], [], [(15, .int 2), (15, .int 1)])]
def xleA_rs : List yR := []
theorem xleA_w : ywa xleA_A xleA_ss xleA_rs = true := by decide +kernel
theorem xleA_k : yis (yev xleA_A 3000 60 69 [15] (0, [(0, .index 1), (1, .arg 1), (2, .arg 2)], [], xleA_O, xleA_C, [])) xleA_ss xleA_rs = true := by decide +kernel
def xleA_r (v1_ v2 v301 v302 : Int32) (k_ : Nat) : Value := bif Nat.beq k_ 1 then .int v1_ else (bif Nat.beq k_ 2 then .int v2 else (bif Nat.beq k_ 301 then .int v301 else (bif Nat.beq k_ 302 then .int v302 else (.int 0))))
def xleA_s (a1000 a1001 : Nat) (n_ : Nat) : Nat := bif Nat.beq n_ 1000 then a1000 else (bif Nat.beq n_ 1001 then a1001 else (0))
theorem xleA {h_ : xH} {a1000 a1001 : Nat} {v1_ v2 v301 v302 : Int32} (hs : sHp h_) (k1000 : bcq h_ a1000 6 2) (k1001 : bcq h_ a1001 6 2) (o0_ : bpat h_ 15 1 = some (.int v301)) (o1 : bpat h_ 15 2 = some (.int v302)) (o2 : bpat h_ 15 0 = some (.index 16)) (o3_ : bpat h_ 16 (((v301 + (1 : Int32)) - (v301 + (1 : Int32)) / (8 : Int32) * (8 : Int32))).toInt.toNat = some (.index a1000)) (o4_ : bpat h_ 2 (v1_).toInt.toNat = some (.index a1001)) (b0 : 0 ≤ (((v301 + (1 : Int32)) - (v301 + (1 : Int32)) / (8 : Int32) * (8 : Int32))).toInt ∧ (((v301 + (1 : Int32)) - (v301 + (1 : Int32)) / (8 : Int32) * (8 : Int32))).toInt < 8) (b1 : 0 ≤ (v1_).toInt ∧ (v1_).toInt < 12) : ∃ h', ysm h_ h' ∧ (((bpat h' 15 2 = some (.int (if (8 : Int32) < (v302 + (1 : Int32)) then (8 : Int32) else (v302 + (1 : Int32))))) ∧ (bpat h' 15 1 = some (.int ((v301 + (1 : Int32)) - (v301 + (1 : Int32)) / (8 : Int32) * (8 : Int32)))) ∧ (∀ a_ j_ : Nat, ¬ (a_ = 15 ∧ j_ = 2) → ¬ (a_ = 15 ∧ j_ = 1) → bpat h' a_ j_ = bpat h_ a_ j_) ∧ (bldD 60 69 0 [(0, .index 1), (1, .int v1_), (2, .int v2)] [] h_ 15 [(3, .index a1000), (0, .index 1), (1, .int v1_), (2, .int v2)] [.index a1001, .index a1000] h'))) := by
  have hA : yas xleA_A (xleA_r v1_ v2 v301 v302) (yg (xleA_s a1000 a1001)) := ⟨List.forall_mem_cons.mpr ⟨b0, List.forall_mem_cons.mpr ⟨b1, fun q_ hq => absurd hq List.not_mem_nil⟩⟩, fun q_ hq => absurd hq List.not_mem_nil, fun q_ hq => absurd hq List.not_mem_nil, fun n_ hn => yg_lo hn, fun q_ hq => absurd hq List.not_mem_nil⟩
  have Hs : ysh xleA_A.1 (yg (xleA_s a1000 a1001)) h_ := ysh_of2 hs (List.forall_mem_cons.mpr ⟨⟨by decide, k1000⟩, List.forall_mem_cons.mpr ⟨⟨by decide, k1001⟩, fun q_ hq => absurd hq List.not_mem_nil⟩⟩)
  have Ho : ymem (xleA_r v1_ v2 v301 v302) (yg (xleA_s a1000 a1001)) xleA_O h_ := List.forall_mem_cons.mpr ⟨bpat_some (fxr_at hs.2 (show fxk fxl 1 8 = some 15 by decide +kernel)), List.forall_mem_cons.mpr ⟨bpat_some o0_, List.forall_mem_cons.mpr ⟨bpat_some o1, List.forall_mem_cons.mpr ⟨bpat_some o2, List.forall_mem_cons.mpr ⟨bpat_some o3_, List.forall_mem_cons.mpr ⟨bpat_some (fxr_at hs.2 (show fxk fxl 1 0 = some 2 by decide +kernel)), List.forall_mem_cons.mpr ⟨bpat_some o4_, fun q_ hq => absurd hq List.not_mem_nil⟩⟩⟩⟩⟩⟩⟩
  have HC : ∀ q_ ∈ xleA_C, xhold (xleA_r v1_ v2 v301 v302) q_ := fun q_ hq => absurd hq List.not_mem_nil
  rcases yrun (yis_ok xleA_k) hA Hs Ho HC with ⟨q_, hq, h', K_, G_⟩ | ⟨q_, hq, h', K_, G_⟩
  · have e_ := List.mem_singleton.mp hq
    subst e_
    exact ⟨h', yfr_sm K_.2.2.2 hs K_.1 (ywa_s xleA_w List.mem_cons_self), ⟨bpat_of (K_.2.1 _ List.mem_cons_self), bpat_of (K_.2.1 _ (List.mem_cons_of_mem _ List.mem_cons_self)), fun a_ j_ n0_ n1_ => yfr_bp K_.2.2.2 (List.forall_mem_cons.mpr ⟨fun e_ => n0_ ⟨e_.1.symm, e_.2.symm⟩, List.forall_mem_cons.mpr ⟨fun e_ => n1_ ⟨e_.1.symm, e_.2.symm⟩, fun q_ hq => absurd hq List.not_mem_nil⟩⟩), G_⟩⟩
  · cases hq
-- xleB: 6 steps, 1 ends, 0 returns
def xleB_L : List (Nat × Nat × Nat) := [(1000, 6, 2), (1001, 5, 3)]
def xleB_O : yO := [(1, .int 1, .index 3), (3, .arg 2, .index 1001)]
def xleB_A : yA := (yZ xleB_L, [(.arg 2, 8)], [], [], [])
def xleB_C : List xB := []
def xleB_ss : List yS := [(26, [(3, .index 1000), (0, .index 1), (1, .arg 1), (2, .arg 2)], [.index 1000, .index 1001, .index 1], [(1, .int 1, .index 3), (3, .arg 2, .index 1001)], [], [])]
def xleB_rs : List yR := []
theorem xleB_w : ywa xleB_A xleB_ss xleB_rs = true := by decide +kernel
theorem xleB_k : yis (yev xleB_A 3000 60 69 [26] (18, [(3, .index 1000), (0, .index 1), (1, .arg 1), (2, .arg 2)], [], xleB_O, xleB_C, [])) xleB_ss xleB_rs = true := by decide +kernel
def xleB_r (v1_ v2 : Int32) (k_ : Nat) : Value := bif Nat.beq k_ 1 then .int v1_ else (bif Nat.beq k_ 2 then .int v2 else (.int 0))
def xleB_s (a1000 a1001 : Nat) (n_ : Nat) : Nat := bif Nat.beq n_ 1000 then a1000 else (bif Nat.beq n_ 1001 then a1001 else (0))
theorem xleB {h_ : xH} {a1000 a1001 : Nat} {v1_ v2 : Int32} (hs : sHp h_) (k1000 : bcq h_ a1000 6 2) (k1001 : bcq h_ a1001 5 3) (o0_ : bpat h_ 3 (v2).toInt.toNat = some (.index a1001)) (b0 : 0 ≤ (v2).toInt ∧ (v2).toInt < 8) : ∃ h', ysm h_ h' ∧ (((∀ a_ j_ : Nat, bpat h' a_ j_ = bpat h_ a_ j_) ∧ (bldD 60 69 18 [(3, .index a1000), (0, .index 1), (1, .int v1_), (2, .int v2)] [] h_ 26 [(3, .index a1000), (0, .index 1), (1, .int v1_), (2, .int v2)] [.index a1000, .index a1001, .index 1] h'))) := by
  have hA : yas xleB_A (xleB_r v1_ v2) (yg (xleB_s a1000 a1001)) := ⟨List.forall_mem_cons.mpr ⟨b0, fun q_ hq => absurd hq List.not_mem_nil⟩, fun q_ hq => absurd hq List.not_mem_nil, fun q_ hq => absurd hq List.not_mem_nil, fun n_ hn => yg_lo hn, fun q_ hq => absurd hq List.not_mem_nil⟩
  have Hs : ysh xleB_A.1 (yg (xleB_s a1000 a1001)) h_ := ysh_of2 hs (List.forall_mem_cons.mpr ⟨⟨by decide, k1000⟩, List.forall_mem_cons.mpr ⟨⟨by decide, k1001⟩, fun q_ hq => absurd hq List.not_mem_nil⟩⟩)
  have Ho : ymem (xleB_r v1_ v2) (yg (xleB_s a1000 a1001)) xleB_O h_ := List.forall_mem_cons.mpr ⟨bpat_some (fxr_at hs.2 (show fxk fxl 1 1 = some 3 by decide +kernel)), List.forall_mem_cons.mpr ⟨bpat_some o0_, fun q_ hq => absurd hq List.not_mem_nil⟩⟩
  have HC : ∀ q_ ∈ xleB_C, xhold (xleB_r v1_ v2) q_ := fun q_ hq => absurd hq List.not_mem_nil
  rcases yrun (yis_ok xleB_k) hA Hs Ho HC with ⟨q_, hq, h', K_, G_⟩ | ⟨q_, hq, h', K_, G_⟩
  · have e_ := List.mem_singleton.mp hq
    subst e_
    exact ⟨h', yfr_sm K_.2.2.2 hs K_.1 (ywa_s xleB_w List.mem_cons_self), ⟨fun a_ j_ => yfr_bp K_.2.2.2 (fun q_ hq => absurd hq List.not_mem_nil), G_⟩⟩
  · cases hq
-- xleC: 1 steps, 0 ends, 1 returns
def xleC_L : List (Nat × Nat × Nat) := [(1000, 6, 2)]
def xleC_O : yO := []
def xleC_A : yA := (yZ xleC_L, [], [], [], [])
def xleC_C : List xB := []
def xleC_ss : List yS := []
def xleC_rs : List yR := [(none, [], [], [])]
theorem xleC_w : ywa xleC_A xleC_ss xleC_rs = true := by decide +kernel
theorem xleC_k : yis (yev xleC_A 3000 60 69 [] (29, [(3, .index 1000), (0, .index 1), (1, .arg 1), (2, .arg 2)], [], xleC_O, xleC_C, [])) xleC_ss xleC_rs = true := by decide +kernel
def xleC_r (v1_ v2 : Int32) (k_ : Nat) : Value := bif Nat.beq k_ 1 then .int v1_ else (bif Nat.beq k_ 2 then .int v2 else (.int 0))
def xleC_s (a1000 : Nat) (n_ : Nat) : Nat := bif Nat.beq n_ 1000 then a1000 else (0)
theorem xleC {h_ : xH} {a1000 : Nat} {v1_ v2 : Int32} (hs : sHp h_) (k1000 : bcq h_ a1000 6 2) : ∃ h', ysm h_ h' ∧ (((∀ a_ j_ : Nat, bpat h' a_ j_ = bpat h_ a_ j_) ∧ (∀ D_, 60 ≤ D_ → xrun D_ 69 29 [(3, .index a1000), (0, .index 1), (1, .int v1_), (2, .int v2)] [] h_ (none, h', [])))) := by
  have hA : yas xleC_A (xleC_r v1_ v2) (yg (xleC_s a1000)) := ⟨fun q_ hq => absurd hq List.not_mem_nil, fun q_ hq => absurd hq List.not_mem_nil, fun q_ hq => absurd hq List.not_mem_nil, fun n_ hn => yg_lo hn, fun q_ hq => absurd hq List.not_mem_nil⟩
  have Hs : ysh xleC_A.1 (yg (xleC_s a1000)) h_ := ysh_of2 hs (List.forall_mem_cons.mpr ⟨⟨by decide, k1000⟩, fun q_ hq => absurd hq List.not_mem_nil⟩)
  have Ho : ymem (xleC_r v1_ v2) (yg (xleC_s a1000)) xleC_O h_ := fun q_ hq => absurd hq List.not_mem_nil
  have HC : ∀ q_ ∈ xleC_C, xhold (xleC_r v1_ v2) q_ := fun q_ hq => absurd hq List.not_mem_nil
  rcases yrun (yis_ok xleC_k) hA Hs Ho HC with ⟨q_, hq, h', K_, G_⟩ | ⟨q_, hq, h', K_, G_⟩
  · cases hq
  · have e_ := List.mem_singleton.mp hq
    subst e_
    exact ⟨h', yfr_sm K_.2.2.2 hs K_.1 (ywa_r xleC_w List.mem_cons_self), ⟨fun a_ j_ => yfr_bp K_.2.2.2 (fun q_ hq => absurd hq List.not_mem_nil), G_⟩⟩
-- xadA: 76 steps, 0 ends, 1 returns
def xadA_L : List (Nat × Nat × Nat) := []
def xadA_O : yO := [(1, .int 5, .index 9), (9, .int 1, .arg 301), (9, .int 0, .index 10), (1, .int 6, .index 11), (11, .int 1, .arg 302), (11, .int 0, .index 12), (1, .int 7, .index 13), (13, .int 1, .arg 303), (13, .int 0, .index 14)]
def xadA_A : yA := (yZ xadA_L, [(.arg 301, 10), (.arg 302, 10), (.arg 303, 10)], [], [], [])
def xadA_C : List xB := [(.lt, .arg 303, .int 10, true), (.lt, .arg 302, .int 10, true), (.lt, .arg 301, .int 10, true)]
def xadA_ss : List yS := []
def xadA_rs : List yR := [(none, [(13, .int 1, .add (.arg 303) (.int 1)), (14, .arg 303, .arg 3), (11, .int 1, .add (.arg 302) (.int 1)), (12, .arg 302, .arg 2), (9, .int 1, .add (.arg 301) (.int 1)), (10, .arg 301, .arg 1), (1, .int 5, .index 9), (9, .int 0, .index 10), (1, .int 6, .index 11), (11, .int 0, .index 12), (1, .int 7, .index 13), (13, .int 0, .index 14)], [(.lt, .arg 303, .int 10, true), (.lt, .arg 302, .int 10, true), (.lt, .arg 301, .int 10, true)], [(13, .int 1), (14, .arg 303), (11, .int 1), (12, .arg 302), (9, .int 1), (10, .arg 301)])]
theorem xadA_w : ywa xadA_A xadA_ss xadA_rs = true := by decide +kernel
theorem xadA_k : yis (yev xadA_A 3000 60 70 [] (0, [(0, .index 1), (1, .arg 1), (2, .arg 2), (3, .arg 3)], [], xadA_O, xadA_C, [])) xadA_ss xadA_rs = true := by decide +kernel
def xadA_r (v1_ v2 v3 v301 v302 v303 : Int32) (k_ : Nat) : Value := bif Nat.beq k_ 1 then .int v1_ else (bif Nat.beq k_ 2 then .int v2 else (bif Nat.beq k_ 3 then .int v3 else (bif Nat.beq k_ 301 then .int v301 else (bif Nat.beq k_ 302 then .int v302 else (bif Nat.beq k_ 303 then .int v303 else (.int 0))))))
def xadA_s (n_ : Nat) : Nat := 0
theorem xadA {h_ : xH} {v1_ v2 v3 v301 v302 v303 : Int32} (hs : sHp h_) (o0_ : bpat h_ 9 1 = some (.int v301)) (o1 : bpat h_ 11 1 = some (.int v302)) (o2 : bpat h_ 13 1 = some (.int v303)) (b0 : 0 ≤ (v301).toInt ∧ (v301).toInt < 10) (b1 : 0 ≤ (v302).toInt ∧ (v302).toInt < 10) (b2 : 0 ≤ (v303).toInt ∧ (v303).toInt < 10) (c0_ : v303.toInt < (10 : Int32).toInt) (c1_ : v302.toInt < (10 : Int32).toInt) (c2_ : v301.toInt < (10 : Int32).toInt) : ∃ h', ysm h_ h' ∧ (((bpat h' 13 1 = some (.int (v303 + (1 : Int32)))) ∧ (bpat h' 14 (v303).toInt.toNat = some (.int v3)) ∧ (bpat h' 11 1 = some (.int (v302 + (1 : Int32)))) ∧ (bpat h' 12 (v302).toInt.toNat = some (.int v2)) ∧ (bpat h' 9 1 = some (.int (v301 + (1 : Int32)))) ∧ (bpat h' 10 (v301).toInt.toNat = some (.int v1_)) ∧ (∀ a_ j_ : Nat, ¬ (a_ = 13 ∧ j_ = 1) → ¬ (a_ = 14 ∧ j_ = (v303).toInt.toNat) → ¬ (a_ = 11 ∧ j_ = 1) → ¬ (a_ = 12 ∧ j_ = (v302).toInt.toNat) → ¬ (a_ = 9 ∧ j_ = 1) → ¬ (a_ = 10 ∧ j_ = (v301).toInt.toNat) → bpat h' a_ j_ = bpat h_ a_ j_) ∧ (∀ D_, 60 ≤ D_ → xrun D_ 70 0 [(0, .index 1), (1, .int v1_), (2, .int v2), (3, .int v3)] [] h_ (none, h', [])))) := by
  have hA : yas xadA_A (xadA_r v1_ v2 v3 v301 v302 v303) (yg xadA_s) := ⟨List.forall_mem_cons.mpr ⟨b0, List.forall_mem_cons.mpr ⟨b1, List.forall_mem_cons.mpr ⟨b2, fun q_ hq => absurd hq List.not_mem_nil⟩⟩⟩, fun q_ hq => absurd hq List.not_mem_nil, fun q_ hq => absurd hq List.not_mem_nil, fun n_ hn => yg_lo hn, fun q_ hq => absurd hq List.not_mem_nil⟩
  have Hs : ysh xadA_A.1 (yg xadA_s) h_ := ysh_of2 hs (fun q_ hq => absurd hq List.not_mem_nil)
  have Ho : ymem (xadA_r v1_ v2 v3 v301 v302 v303) (yg xadA_s) xadA_O h_ := List.forall_mem_cons.mpr ⟨bpat_some (fxr_at hs.2 (show fxk fxl 1 5 = some 9 by decide +kernel)), List.forall_mem_cons.mpr ⟨bpat_some o0_, List.forall_mem_cons.mpr ⟨bpat_some (fxr_at hs.2 (show fxk fxl 9 0 = some 10 by decide +kernel)), List.forall_mem_cons.mpr ⟨bpat_some (fxr_at hs.2 (show fxk fxl 1 6 = some 11 by decide +kernel)), List.forall_mem_cons.mpr ⟨bpat_some o1, List.forall_mem_cons.mpr ⟨bpat_some (fxr_at hs.2 (show fxk fxl 11 0 = some 12 by decide +kernel)), List.forall_mem_cons.mpr ⟨bpat_some (fxr_at hs.2 (show fxk fxl 1 7 = some 13 by decide +kernel)), List.forall_mem_cons.mpr ⟨bpat_some o2, List.forall_mem_cons.mpr ⟨bpat_some (fxr_at hs.2 (show fxk fxl 13 0 = some 14 by decide +kernel)), fun q_ hq => absurd hq List.not_mem_nil⟩⟩⟩⟩⟩⟩⟩⟩⟩
  have HC : ∀ q_ ∈ xadA_C, xhold (xadA_r v1_ v2 v3 v301 v302 v303) q_ := List.forall_mem_cons.mpr ⟨xh_ltT c0_, List.forall_mem_cons.mpr ⟨xh_ltT c1_, List.forall_mem_cons.mpr ⟨xh_ltT c2_, fun q_ hq => absurd hq List.not_mem_nil⟩⟩⟩
  rcases yrun (yis_ok xadA_k) hA Hs Ho HC with ⟨q_, hq, h', K_, G_⟩ | ⟨q_, hq, h', K_, G_⟩
  · cases hq
  · have e_ := List.mem_singleton.mp hq
    subst e_
    exact ⟨h', yfr_sm K_.2.2.2 hs K_.1 (ywa_r xadA_w List.mem_cons_self), ⟨bpat_of (K_.2.1 _ List.mem_cons_self), bpat_of (K_.2.1 _ (List.mem_cons_of_mem _ List.mem_cons_self)), bpat_of (K_.2.1 _ (List.mem_cons_of_mem _ (List.mem_cons_of_mem _ List.mem_cons_self))), bpat_of (K_.2.1 _ (List.mem_cons_of_mem _ (List.mem_cons_of_mem _ (List.mem_cons_of_mem _ List.mem_cons_self)))), bpat_of (K_.2.1 _ (List.mem_cons_of_mem _ (List.mem_cons_of_mem _ (List.mem_cons_of_mem _ (List.mem_cons_of_mem _ List.mem_cons_self))))), bpat_of (K_.2.1 _ (List.mem_cons_of_mem _ (List.mem_cons_of_mem _ (List.mem_cons_of_mem _ (List.mem_cons_of_mem _ (List.mem_cons_of_mem _ List.mem_cons_self)))))), fun a_ j_ n0_ n1_ n2_ n3_ n4_ n5_ => yfr_bp K_.2.2.2 (List.forall_mem_cons.mpr ⟨fun e_ => n0_ ⟨e_.1.symm, e_.2.symm⟩, List.forall_mem_cons.mpr ⟨fun e_ => n1_ ⟨e_.1.symm, e_.2.symm⟩, List.forall_mem_cons.mpr ⟨fun e_ => n2_ ⟨e_.1.symm, e_.2.symm⟩, List.forall_mem_cons.mpr ⟨fun e_ => n3_ ⟨e_.1.symm, e_.2.symm⟩, List.forall_mem_cons.mpr ⟨fun e_ => n4_ ⟨e_.1.symm, e_.2.symm⟩, List.forall_mem_cons.mpr ⟨fun e_ => n5_ ⟨e_.1.symm, e_.2.symm⟩, fun q_ hq => absurd hq List.not_mem_nil⟩⟩⟩⟩⟩⟩), G_⟩⟩
-- xlsE: 33 steps, 1 ends, 0 returns
def xlsE_L : List (Nat × Nat × Nat) := []
def xlsE_O : yO := [(1, .int 11, .arg 311), (1, .int 7, .index 13), (13, .int 1, .arg 301), (1, .int 5, .index 9), (1, .int 6, .index 11)]
def xlsE_A : yA := (yZ xlsE_L, [], [], [], [])
def xlsE_C : List xB := []
def xlsE_ss : List yS := [(41, [(2, .int 0), (1, .arg 301), (0, .index 1)], [], [(13, .int 1, .int 0), (11, .int 1, .int 0), (9, .int 1, .int 0), (1, .int 11, .add (.arg 311) (.int 1)), (1, .int 7, .index 13), (1, .int 5, .index 9), (1, .int 6, .index 11)], [], [(13, .int 1), (11, .int 1), (9, .int 1), (1, .int 11)])]
def xlsE_rs : List yR := []
theorem xlsE_w : ywa xlsE_A xlsE_ss xlsE_rs = true := by decide +kernel
theorem xlsE_k : yis (yev xlsE_A 3000 60 71 [41] (0, [(0, .index 1)], [], xlsE_O, xlsE_C, [])) xlsE_ss xlsE_rs = true := by decide +kernel
def xlsE_r (v301 v311 : Int32) (k_ : Nat) : Value := bif Nat.beq k_ 301 then .int v301 else (bif Nat.beq k_ 311 then .int v311 else (.int 0))
def xlsE_s (n_ : Nat) : Nat := 0
theorem xlsE {h_ : xH} {v301 v311 : Int32} (hs : sHp h_) (o0_ : bpat h_ 1 11 = some (.int v311)) (o1 : bpat h_ 13 1 = some (.int v301)) : ∃ h', ysm h_ h' ∧ (((bpat h' 13 1 = some (.int (0 : Int32))) ∧ (bpat h' 11 1 = some (.int (0 : Int32))) ∧ (bpat h' 9 1 = some (.int (0 : Int32))) ∧ (bpat h' 1 11 = some (.int (v311 + (1 : Int32)))) ∧ (∀ a_ j_ : Nat, ¬ (a_ = 13 ∧ j_ = 1) → ¬ (a_ = 11 ∧ j_ = 1) → ¬ (a_ = 9 ∧ j_ = 1) → ¬ (a_ = 1 ∧ j_ = 11) → bpat h' a_ j_ = bpat h_ a_ j_) ∧ (bldD 60 71 0 [(0, .index 1)] [] h_ 41 [(2, .int (0 : Int32)), (1, .int v301), (0, .index 1)] [] h'))) := by
  have hA : yas xlsE_A (xlsE_r v301 v311) (yg xlsE_s) := ⟨fun q_ hq => absurd hq List.not_mem_nil, fun q_ hq => absurd hq List.not_mem_nil, fun q_ hq => absurd hq List.not_mem_nil, fun n_ hn => yg_lo hn, fun q_ hq => absurd hq List.not_mem_nil⟩
  have Hs : ysh xlsE_A.1 (yg xlsE_s) h_ := ysh_of2 hs (fun q_ hq => absurd hq List.not_mem_nil)
  have Ho : ymem (xlsE_r v301 v311) (yg xlsE_s) xlsE_O h_ := List.forall_mem_cons.mpr ⟨bpat_some o0_, List.forall_mem_cons.mpr ⟨bpat_some (fxr_at hs.2 (show fxk fxl 1 7 = some 13 by decide +kernel)), List.forall_mem_cons.mpr ⟨bpat_some o1, List.forall_mem_cons.mpr ⟨bpat_some (fxr_at hs.2 (show fxk fxl 1 5 = some 9 by decide +kernel)), List.forall_mem_cons.mpr ⟨bpat_some (fxr_at hs.2 (show fxk fxl 1 6 = some 11 by decide +kernel)), fun q_ hq => absurd hq List.not_mem_nil⟩⟩⟩⟩⟩
  have HC : ∀ q_ ∈ xlsE_C, xhold (xlsE_r v301 v311) q_ := fun q_ hq => absurd hq List.not_mem_nil
  rcases yrun (yis_ok xlsE_k) hA Hs Ho HC with ⟨q_, hq, h', K_, G_⟩ | ⟨q_, hq, h', K_, G_⟩
  · have e_ := List.mem_singleton.mp hq
    subst e_
    exact ⟨h', yfr_sm K_.2.2.2 hs K_.1 (ywa_s xlsE_w List.mem_cons_self), ⟨bpat_of (K_.2.1 _ List.mem_cons_self), bpat_of (K_.2.1 _ (List.mem_cons_of_mem _ List.mem_cons_self)), bpat_of (K_.2.1 _ (List.mem_cons_of_mem _ (List.mem_cons_of_mem _ List.mem_cons_self))), bpat_of (K_.2.1 _ (List.mem_cons_of_mem _ (List.mem_cons_of_mem _ (List.mem_cons_of_mem _ List.mem_cons_self)))), fun a_ j_ n0_ n1_ n2_ n3_ => yfr_bp K_.2.2.2 (List.forall_mem_cons.mpr ⟨fun e_ => n0_ ⟨e_.1.symm, e_.2.symm⟩, List.forall_mem_cons.mpr ⟨fun e_ => n1_ ⟨e_.1.symm, e_.2.symm⟩, List.forall_mem_cons.mpr ⟨fun e_ => n2_ ⟨e_.1.symm, e_.2.symm⟩, List.forall_mem_cons.mpr ⟨fun e_ => n3_ ⟨e_.1.symm, e_.2.symm⟩, fun q_ hq => absurd hq List.not_mem_nil⟩⟩⟩⟩), G_⟩⟩
  · cases hq
-- xlsX: 4 steps, 0 ends, 1 returns
def xlsX_L : List (Nat × Nat × Nat) := []
def xlsX_O : yO := []
def xlsX_A : yA := (yZ xlsX_L, [], [], [], [])
def xlsX_C : List xB := [(.lt, .arg 2, .arg 1, false)]
def xlsX_ss : List yS := []
def xlsX_rs : List yR := [(none, [], [(.lt, .arg 2, .arg 1, false)], [])]
theorem xlsX_w : ywa xlsX_A xlsX_ss xlsX_rs = true := by decide +kernel
theorem xlsX_k : yis (yev xlsX_A 3000 60 71 [] (41, [(2, .arg 2), (1, .arg 1), (0, .index 1)], [], xlsX_O, xlsX_C, [])) xlsX_ss xlsX_rs = true := by decide +kernel
def xlsX_r (v1_ v2 : Int32) (k_ : Nat) : Value := bif Nat.beq k_ 1 then .int v1_ else (bif Nat.beq k_ 2 then .int v2 else (.int 0))
def xlsX_s (n_ : Nat) : Nat := 0
theorem xlsX {h_ : xH} {v1_ v2 : Int32} (hs : sHp h_) (c0_ : v1_.toInt ≤ v2.toInt) : ∃ h', ysm h_ h' ∧ (((∀ a_ j_ : Nat, bpat h' a_ j_ = bpat h_ a_ j_) ∧ (∀ D_, 60 ≤ D_ → xrun D_ 71 41 [(2, .int v2), (1, .int v1_), (0, .index 1)] [] h_ (none, h', [])))) := by
  have hA : yas xlsX_A (xlsX_r v1_ v2) (yg xlsX_s) := ⟨fun q_ hq => absurd hq List.not_mem_nil, fun q_ hq => absurd hq List.not_mem_nil, fun q_ hq => absurd hq List.not_mem_nil, fun n_ hn => yg_lo hn, fun q_ hq => absurd hq List.not_mem_nil⟩
  have Hs : ysh xlsX_A.1 (yg xlsX_s) h_ := ysh_of2 hs (fun q_ hq => absurd hq List.not_mem_nil)
  have Ho : ymem (xlsX_r v1_ v2) (yg xlsX_s) xlsX_O h_ := fun q_ hq => absurd hq List.not_mem_nil
  have HC : ∀ q_ ∈ xlsX_C, xhold (xlsX_r v1_ v2) q_ := List.forall_mem_cons.mpr ⟨xh_ltF c0_, fun q_ hq => absurd hq List.not_mem_nil⟩
  rcases yrun (yis_ok xlsX_k) hA Hs Ho HC with ⟨q_, hq, h', K_, G_⟩ | ⟨q_, hq, h', K_, G_⟩
  · cases hq
  · have e_ := List.mem_singleton.mp hq
    subst e_
    exact ⟨h', yfr_sm K_.2.2.2 hs K_.1 (ywa_r xlsX_w List.mem_cons_self), ⟨fun a_ j_ => yfr_bp K_.2.2.2 (fun q_ hq => absurd hq List.not_mem_nil), G_⟩⟩
-- xlsL: 22 steps, 1 ends, 0 returns
def xlsL_L : List (Nat × Nat × Nat) := []
def xlsL_O : yO := [(1, .int 7, .index 13), (13, .int 0, .index 14), (14, .arg 2, .arg 303), (1, .int 11, .arg 311), (1, .int 5, .index 9), (9, .int 0, .index 10), (10, .arg 2, .arg 304), (1, .int 6, .index 11), (11, .int 0, .index 12), (12, .arg 2, .arg 305)]
def xlsL_A : yA := (yZ xlsL_L, [(.arg 2, 10)], [], [], [])
def xlsL_C : List xB := [(.eq, .arg 303, .arg 311, true), (.lt, .arg 2, .arg 1, true)]
def xlsL_ss : List yS := [(81, [(2, .arg 2), (1, .arg 1), (0, .index 1)], [.arg 305, .arg 304, .index 1], [(1, .int 7, .index 13), (13, .int 0, .index 14), (14, .arg 2, .arg 303), (1, .int 11, .arg 311), (1, .int 5, .index 9), (9, .int 0, .index 10), (10, .arg 2, .arg 304), (1, .int 6, .index 11), (11, .int 0, .index 12), (12, .arg 2, .arg 305)], [(.eq, .arg 303, .arg 311, true), (.lt, .arg 2, .arg 1, true)], [])]
def xlsL_rs : List yR := []
theorem xlsL_w : ywa xlsL_A xlsL_ss xlsL_rs = true := by decide +kernel
theorem xlsL_k : yis (yev xlsL_A 3000 60 71 [81] (41, [(2, .arg 2), (1, .arg 1), (0, .index 1)], [], xlsL_O, xlsL_C, [])) xlsL_ss xlsL_rs = true := by decide +kernel
def xlsL_r (v1_ v2 v303 v304 v305 v311 : Int32) (k_ : Nat) : Value := bif Nat.beq k_ 1 then .int v1_ else (bif Nat.beq k_ 2 then .int v2 else (bif Nat.beq k_ 303 then .int v303 else (bif Nat.beq k_ 304 then .int v304 else (bif Nat.beq k_ 305 then .int v305 else (bif Nat.beq k_ 311 then .int v311 else (.int 0))))))
def xlsL_s (n_ : Nat) : Nat := 0
theorem xlsL {h_ : xH} {v1_ v2 v303 v304 v305 v311 : Int32} (hs : sHp h_) (o0_ : bpat h_ 14 (v2).toInt.toNat = some (.int v303)) (o1 : bpat h_ 1 11 = some (.int v311)) (o2 : bpat h_ 10 (v2).toInt.toNat = some (.int v304)) (o3_ : bpat h_ 12 (v2).toInt.toNat = some (.int v305)) (b0 : 0 ≤ (v2).toInt ∧ (v2).toInt < 10) (c0_ : v303 = v311) (c1_ : v2.toInt < v1_.toInt) : ∃ h', ysm h_ h' ∧ (((∀ a_ j_ : Nat, bpat h' a_ j_ = bpat h_ a_ j_) ∧ (bldD 60 71 41 [(2, .int v2), (1, .int v1_), (0, .index 1)] [] h_ 81 [(2, .int v2), (1, .int v1_), (0, .index 1)] [.int v305, .int v304, .index 1] h'))) := by
  have hA : yas xlsL_A (xlsL_r v1_ v2 v303 v304 v305 v311) (yg xlsL_s) := ⟨List.forall_mem_cons.mpr ⟨b0, fun q_ hq => absurd hq List.not_mem_nil⟩, fun q_ hq => absurd hq List.not_mem_nil, fun q_ hq => absurd hq List.not_mem_nil, fun n_ hn => yg_lo hn, fun q_ hq => absurd hq List.not_mem_nil⟩
  have Hs : ysh xlsL_A.1 (yg xlsL_s) h_ := ysh_of2 hs (fun q_ hq => absurd hq List.not_mem_nil)
  have Ho : ymem (xlsL_r v1_ v2 v303 v304 v305 v311) (yg xlsL_s) xlsL_O h_ := List.forall_mem_cons.mpr ⟨bpat_some (fxr_at hs.2 (show fxk fxl 1 7 = some 13 by decide +kernel)), List.forall_mem_cons.mpr ⟨bpat_some (fxr_at hs.2 (show fxk fxl 13 0 = some 14 by decide +kernel)), List.forall_mem_cons.mpr ⟨bpat_some o0_, List.forall_mem_cons.mpr ⟨bpat_some o1, List.forall_mem_cons.mpr ⟨bpat_some (fxr_at hs.2 (show fxk fxl 1 5 = some 9 by decide +kernel)), List.forall_mem_cons.mpr ⟨bpat_some (fxr_at hs.2 (show fxk fxl 9 0 = some 10 by decide +kernel)), List.forall_mem_cons.mpr ⟨bpat_some o2, List.forall_mem_cons.mpr ⟨bpat_some (fxr_at hs.2 (show fxk fxl 1 6 = some 11 by decide +kernel)), List.forall_mem_cons.mpr ⟨bpat_some (fxr_at hs.2 (show fxk fxl 11 0 = some 12 by decide +kernel)), List.forall_mem_cons.mpr ⟨bpat_some o3_, fun q_ hq => absurd hq List.not_mem_nil⟩⟩⟩⟩⟩⟩⟩⟩⟩⟩
  have HC : ∀ q_ ∈ xlsL_C, xhold (xlsL_r v1_ v2 v303 v304 v305 v311) q_ := List.forall_mem_cons.mpr ⟨xh_eqT2 c0_, List.forall_mem_cons.mpr ⟨xh_ltT c1_, fun q_ hq => absurd hq List.not_mem_nil⟩⟩
  rcases yrun (yis_ok xlsL_k) hA Hs Ho HC with ⟨q_, hq, h', K_, G_⟩ | ⟨q_, hq, h', K_, G_⟩
  · have e_ := List.mem_singleton.mp hq
    subst e_
    exact ⟨h', yfr_sm K_.2.2.2 hs K_.1 (ywa_s xlsL_w List.mem_cons_self), ⟨fun a_ j_ => yfr_bp K_.2.2.2 (fun q_ hq => absurd hq List.not_mem_nil), G_⟩⟩
  · cases hq
-- xlsK: 27 steps, 1 ends, 0 returns
def xlsK_L : List (Nat × Nat × Nat) := []
def xlsK_O : yO := [(1, .int 7, .index 13), (13, .int 0, .index 14), (14, .arg 2, .arg 303), (1, .int 11, .arg 311), (1, .int 5, .index 9), (9, .int 0, .index 10), (10, .arg 2, .arg 304), (1, .int 6, .index 11), (11, .int 0, .index 12), (12, .arg 2, .arg 305)]
def xlsK_A : yA := (yZ xlsK_L, [(.arg 2, 10)], [], [], [])
def xlsK_C : List xB := [(.eq, .arg 303, .arg 311, false), (.lt, .arg 2, .arg 1, true)]
def xlsK_ss : List yS := [(115, [(2, .arg 2), (1, .arg 1), (0, .index 1)], [.arg 303, .arg 305, .arg 304, .index 1], [(1, .int 7, .index 13), (13, .int 0, .index 14), (14, .arg 2, .arg 303), (1, .int 11, .arg 311), (1, .int 5, .index 9), (9, .int 0, .index 10), (10, .arg 2, .arg 304), (1, .int 6, .index 11), (11, .int 0, .index 12), (12, .arg 2, .arg 305)], [(.eq, .arg 303, .arg 311, false), (.lt, .arg 2, .arg 1, true)], [])]
def xlsK_rs : List yR := []
theorem xlsK_w : ywa xlsK_A xlsK_ss xlsK_rs = true := by decide +kernel
theorem xlsK_k : yis (yev xlsK_A 3000 60 71 [115] (41, [(2, .arg 2), (1, .arg 1), (0, .index 1)], [], xlsK_O, xlsK_C, [])) xlsK_ss xlsK_rs = true := by decide +kernel
def xlsK_r (v1_ v2 v303 v304 v305 v311 : Int32) (k_ : Nat) : Value := bif Nat.beq k_ 1 then .int v1_ else (bif Nat.beq k_ 2 then .int v2 else (bif Nat.beq k_ 303 then .int v303 else (bif Nat.beq k_ 304 then .int v304 else (bif Nat.beq k_ 305 then .int v305 else (bif Nat.beq k_ 311 then .int v311 else (.int 0))))))
def xlsK_s (n_ : Nat) : Nat := 0
theorem xlsK {h_ : xH} {v1_ v2 v303 v304 v305 v311 : Int32} (hs : sHp h_) (o0_ : bpat h_ 14 (v2).toInt.toNat = some (.int v303)) (o1 : bpat h_ 1 11 = some (.int v311)) (o2 : bpat h_ 10 (v2).toInt.toNat = some (.int v304)) (o3_ : bpat h_ 12 (v2).toInt.toNat = some (.int v305)) (b0 : 0 ≤ (v2).toInt ∧ (v2).toInt < 10) (c0_ : ¬ v303 = v311) (c1_ : v2.toInt < v1_.toInt) : ∃ h', ysm h_ h' ∧ (((∀ a_ j_ : Nat, bpat h' a_ j_ = bpat h_ a_ j_) ∧ (bldD 60 71 41 [(2, .int v2), (1, .int v1_), (0, .index 1)] [] h_ 115 [(2, .int v2), (1, .int v1_), (0, .index 1)] [.int v303, .int v305, .int v304, .index 1] h'))) := by
  have hA : yas xlsK_A (xlsK_r v1_ v2 v303 v304 v305 v311) (yg xlsK_s) := ⟨List.forall_mem_cons.mpr ⟨b0, fun q_ hq => absurd hq List.not_mem_nil⟩, fun q_ hq => absurd hq List.not_mem_nil, fun q_ hq => absurd hq List.not_mem_nil, fun n_ hn => yg_lo hn, fun q_ hq => absurd hq List.not_mem_nil⟩
  have Hs : ysh xlsK_A.1 (yg xlsK_s) h_ := ysh_of2 hs (fun q_ hq => absurd hq List.not_mem_nil)
  have Ho : ymem (xlsK_r v1_ v2 v303 v304 v305 v311) (yg xlsK_s) xlsK_O h_ := List.forall_mem_cons.mpr ⟨bpat_some (fxr_at hs.2 (show fxk fxl 1 7 = some 13 by decide +kernel)), List.forall_mem_cons.mpr ⟨bpat_some (fxr_at hs.2 (show fxk fxl 13 0 = some 14 by decide +kernel)), List.forall_mem_cons.mpr ⟨bpat_some o0_, List.forall_mem_cons.mpr ⟨bpat_some o1, List.forall_mem_cons.mpr ⟨bpat_some (fxr_at hs.2 (show fxk fxl 1 5 = some 9 by decide +kernel)), List.forall_mem_cons.mpr ⟨bpat_some (fxr_at hs.2 (show fxk fxl 9 0 = some 10 by decide +kernel)), List.forall_mem_cons.mpr ⟨bpat_some o2, List.forall_mem_cons.mpr ⟨bpat_some (fxr_at hs.2 (show fxk fxl 1 6 = some 11 by decide +kernel)), List.forall_mem_cons.mpr ⟨bpat_some (fxr_at hs.2 (show fxk fxl 11 0 = some 12 by decide +kernel)), List.forall_mem_cons.mpr ⟨bpat_some o3_, fun q_ hq => absurd hq List.not_mem_nil⟩⟩⟩⟩⟩⟩⟩⟩⟩⟩
  have HC : ∀ q_ ∈ xlsK_C, xhold (xlsK_r v1_ v2 v303 v304 v305 v311) q_ := List.forall_mem_cons.mpr ⟨xh_eqF2 c0_, List.forall_mem_cons.mpr ⟨xh_ltT c1_, fun q_ hq => absurd hq List.not_mem_nil⟩⟩
  rcases yrun (yis_ok xlsK_k) hA Hs Ho HC with ⟨q_, hq, h', K_, G_⟩ | ⟨q_, hq, h', K_, G_⟩
  · have e_ := List.mem_singleton.mp hq
    subst e_
    exact ⟨h', yfr_sm K_.2.2.2 hs K_.1 (ywa_s xlsK_w List.mem_cons_self), ⟨fun a_ j_ => yfr_bp K_.2.2.2 (fun q_ hq => absurd hq List.not_mem_nil), G_⟩⟩
  · cases hq
-- xlsN: 3 steps, 1 ends, 0 returns
def xlsN_L : List (Nat × Nat × Nat) := []
def xlsN_O : yO := []
def xlsN_A : yA := (yZ xlsN_L, [], [], [], [])
def xlsN_C : List xB := []
def xlsN_ss : List yS := [(41, [(2, .add (.arg 2) (.int 1)), (1, .arg 1), (0, .index 1)], [], [], [], [])]
def xlsN_rs : List yR := []
theorem xlsN_w : ywa xlsN_A xlsN_ss xlsN_rs = true := by decide +kernel
theorem xlsN_k : yis (yev xlsN_A 3000 60 71 [41] (84, [(2, .arg 2), (1, .arg 1), (0, .index 1)], [], xlsN_O, xlsN_C, [])) xlsN_ss xlsN_rs = true := by decide +kernel
def xlsN_r (v1_ v2 : Int32) (k_ : Nat) : Value := bif Nat.beq k_ 1 then .int v1_ else (bif Nat.beq k_ 2 then .int v2 else (.int 0))
def xlsN_s (n_ : Nat) : Nat := 0
theorem xlsN {h_ : xH} {v1_ v2 : Int32} (hs : sHp h_) : ∃ h', ysm h_ h' ∧ (((∀ a_ j_ : Nat, bpat h' a_ j_ = bpat h_ a_ j_) ∧ (bldD 60 71 84 [(2, .int v2), (1, .int v1_), (0, .index 1)] [] h_ 41 [(2, .int (v2 + (1 : Int32))), (1, .int v1_), (0, .index 1)] [] h'))) := by
  have hA : yas xlsN_A (xlsN_r v1_ v2) (yg xlsN_s) := ⟨fun q_ hq => absurd hq List.not_mem_nil, fun q_ hq => absurd hq List.not_mem_nil, fun q_ hq => absurd hq List.not_mem_nil, fun n_ hn => yg_lo hn, fun q_ hq => absurd hq List.not_mem_nil⟩
  have Hs : ysh xlsN_A.1 (yg xlsN_s) h_ := ysh_of2 hs (fun q_ hq => absurd hq List.not_mem_nil)
  have Ho : ymem (xlsN_r v1_ v2) (yg xlsN_s) xlsN_O h_ := fun q_ hq => absurd hq List.not_mem_nil
  have HC : ∀ q_ ∈ xlsN_C, xhold (xlsN_r v1_ v2) q_ := fun q_ hq => absurd hq List.not_mem_nil
  rcases yrun (yis_ok xlsN_k) hA Hs Ho HC with ⟨q_, hq, h', K_, G_⟩ | ⟨q_, hq, h', K_, G_⟩
  · have e_ := List.mem_singleton.mp hq
    subst e_
    exact ⟨h', yfr_sm K_.2.2.2 hs K_.1 (ywa_s xlsN_w List.mem_cons_self), ⟨fun a_ j_ => yfr_bp K_.2.2.2 (fun q_ hq => absurd hq List.not_mem_nil), G_⟩⟩
  · cases hq
-- xlsM: 2 steps, 1 ends, 0 returns
def xlsM_L : List (Nat × Nat × Nat) := []
def xlsM_O : yO := []
def xlsM_A : yA := (yZ xlsM_L, [], [], [], [])
def xlsM_C : List xB := []
def xlsM_ss : List yS := [(41, [(2, .add (.arg 2) (.int 1)), (1, .arg 1), (0, .index 1)], [], [], [], [])]
def xlsM_rs : List yR := []
theorem xlsM_w : ywa xlsM_A xlsM_ss xlsM_rs = true := by decide +kernel
theorem xlsM_k : yis (yev xlsM_A 3000 60 71 [41] (118, [(2, .arg 2), (1, .arg 1), (0, .index 1)], [], xlsM_O, xlsM_C, [])) xlsM_ss xlsM_rs = true := by decide +kernel
def xlsM_r (v1_ v2 : Int32) (k_ : Nat) : Value := bif Nat.beq k_ 1 then .int v1_ else (bif Nat.beq k_ 2 then .int v2 else (.int 0))
def xlsM_s (n_ : Nat) : Nat := 0
theorem xlsM {h_ : xH} {v1_ v2 : Int32} (hs : sHp h_) : ∃ h', ysm h_ h' ∧ (((∀ a_ j_ : Nat, bpat h' a_ j_ = bpat h_ a_ j_) ∧ (bldD 60 71 118 [(2, .int v2), (1, .int v1_), (0, .index 1)] [] h_ 41 [(2, .int (v2 + (1 : Int32))), (1, .int v1_), (0, .index 1)] [] h'))) := by
  have hA : yas xlsM_A (xlsM_r v1_ v2) (yg xlsM_s) := ⟨fun q_ hq => absurd hq List.not_mem_nil, fun q_ hq => absurd hq List.not_mem_nil, fun q_ hq => absurd hq List.not_mem_nil, fun n_ hn => yg_lo hn, fun q_ hq => absurd hq List.not_mem_nil⟩
  have Hs : ysh xlsM_A.1 (yg xlsM_s) h_ := ysh_of2 hs (fun q_ hq => absurd hq List.not_mem_nil)
  have Ho : ymem (xlsM_r v1_ v2) (yg xlsM_s) xlsM_O h_ := fun q_ hq => absurd hq List.not_mem_nil
  have HC : ∀ q_ ∈ xlsM_C, xhold (xlsM_r v1_ v2) q_ := fun q_ hq => absurd hq List.not_mem_nil
  rcases yrun (yis_ok xlsM_k) hA Hs Ho HC with ⟨q_, hq, h', K_, G_⟩ | ⟨q_, hq, h', K_, G_⟩
  · have e_ := List.mem_singleton.mp hq
    subst e_
    exact ⟨h', yfr_sm K_.2.2.2 hs K_.1 (ywa_s xlsM_w List.mem_cons_self), ⟨fun a_ j_ => yfr_bp K_.2.2.2 (fun q_ hq => absurd hq List.not_mem_nil), G_⟩⟩
  · cases hq
-- xscE: 63 steps, 1 ends, 3 returns
def xscE_L : List (Nat × Nat × Nat) := []
def xscE_O : yO := [(0, .int 13, .index 323), (323, .int 1, .arg 400), (0, .int 0, .index 1), (1, .int 11, .arg 311), (323, .int 3, .arg 401)]
def xscE_A : yA := (yZ xscE_L, [], [], [], [])
def xscE_C : List xB := []
def xscE_ss : List yS := [(40, [(2, .int 0), (0, .index 0), (1, .arg 1)], [], [(0, .int 13, .index 323), (323, .int 1, .arg 400), (0, .int 0, .index 1), (1, .int 11, .arg 311), (323, .int 3, .arg 401)], [(.le, .add (.arg 311) (.arg 1), .int 9999, true), (.le, .arg 1, .int 60, true), (.lt, .arg 1, .int 1, false)], [])]
def xscE_rs : List yR := [(some (.int (Int32.ofInt (-1000001))), [(323, .int 1, .add (.arg 400) (.int 1)), (0, .int 13, .index 323), (0, .int 0, .index 1), (1, .int 11, .arg 311), (323, .int 3, .arg 401)], [(.lt, .arg 1, .int 1, true)], [(323, .int 1)]),
  (some (.int (Int32.ofInt (-1000003))), [(323, .int 3, .add (.arg 401) (.int 1)), (0, .int 13, .index 323), (323, .int 1, .arg 400), (0, .int 0, .index 1), (1, .int 11, .arg 311)], [(.le, .add (.arg 311) (.arg 1), .int 9999, false), (.le, .arg 1, .int 60, true), (.lt, .arg 1, .int 1, false)], [(323, .int 3)]),
  (some (.int (Int32.ofInt (-1000001))), [(323, .int 1, .add (.arg 400) (.int 1)), (0, .int 13, .index 323), (0, .int 0, .index 1), (1, .int 11, .arg 311), (323, .int 3, .arg 401)], [(.le, .arg 1, .int 60, false), (.lt, .arg 1, .int 1, false)], [(323, .int 1)])]
theorem xscE_w : ywa xscE_A xscE_ss xscE_rs = true := by decide +kernel
theorem xscE_k : yis (yev xscE_A 3000 60 102 [40] (0, [(0, .index 0), (1, .arg 1)], [], xscE_O, xscE_C, [])) xscE_ss xscE_rs = true := by decide +kernel
def xscE_r (v1_ v311 v400 v401 : Int32) (k_ : Nat) : Value := bif Nat.beq k_ 1 then .int v1_ else (bif Nat.beq k_ 311 then .int v311 else (bif Nat.beq k_ 400 then .int v400 else (bif Nat.beq k_ 401 then .int v401 else (.int 0))))
def xscE_s (n_ : Nat) : Nat := 0
theorem xscE {h_ : xH} {v1_ v311 v400 v401 : Int32} (hs : sHp h_) (o0_ : bpat h_ 323 1 = some (.int v400)) (o1 : bpat h_ 1 11 = some (.int v311)) (o2 : bpat h_ 323 3 = some (.int v401)) : ∃ h', ysm h_ h' ∧ ((((v311 + v1_).toInt ≤ (9999 : Int32).toInt) ∧ (v1_.toInt ≤ (60 : Int32).toInt) ∧ ((1 : Int32).toInt ≤ v1_.toInt) ∧ (∀ a_ j_ : Nat, bpat h' a_ j_ = bpat h_ a_ j_) ∧ (bldD 60 102 0 [(0, .index 0), (1, .int v1_)] [] h_ 40 [(2, .int (0 : Int32)), (0, .index 0), (1, .int v1_)] [] h'))
  ∨ ((v1_.toInt < (1 : Int32).toInt) ∧ (bpat h' 323 1 = some (.int (v400 + (1 : Int32)))) ∧ (∀ a_ j_ : Nat, ¬ (a_ = 323 ∧ j_ = 1) → bpat h' a_ j_ = bpat h_ a_ j_) ∧ (∀ D_, 60 ≤ D_ → xrun D_ 102 0 [(0, .index 0), (1, .int v1_)] [] h_ (some (.int (Int32.ofInt (-1000001))), h', [])))
  ∨ (((9999 : Int32).toInt < (v311 + v1_).toInt) ∧ (v1_.toInt ≤ (60 : Int32).toInt) ∧ ((1 : Int32).toInt ≤ v1_.toInt) ∧ (bpat h' 323 3 = some (.int (v401 + (1 : Int32)))) ∧ (∀ a_ j_ : Nat, ¬ (a_ = 323 ∧ j_ = 3) → bpat h' a_ j_ = bpat h_ a_ j_) ∧ (∀ D_, 60 ≤ D_ → xrun D_ 102 0 [(0, .index 0), (1, .int v1_)] [] h_ (some (.int (Int32.ofInt (-1000003))), h', [])))
  ∨ (((60 : Int32).toInt < v1_.toInt) ∧ ((1 : Int32).toInt ≤ v1_.toInt) ∧ (bpat h' 323 1 = some (.int (v400 + (1 : Int32)))) ∧ (∀ a_ j_ : Nat, ¬ (a_ = 323 ∧ j_ = 1) → bpat h' a_ j_ = bpat h_ a_ j_) ∧ (∀ D_, 60 ≤ D_ → xrun D_ 102 0 [(0, .index 0), (1, .int v1_)] [] h_ (some (.int (Int32.ofInt (-1000001))), h', [])))) := by
  have hA : yas xscE_A (xscE_r v1_ v311 v400 v401) (yg xscE_s) := ⟨fun q_ hq => absurd hq List.not_mem_nil, fun q_ hq => absurd hq List.not_mem_nil, fun q_ hq => absurd hq List.not_mem_nil, fun n_ hn => yg_lo hn, fun q_ hq => absurd hq List.not_mem_nil⟩
  have Hs : ysh xscE_A.1 (yg xscE_s) h_ := ysh_of2 hs (fun q_ hq => absurd hq List.not_mem_nil)
  have Ho : ymem (xscE_r v1_ v311 v400 v401) (yg xscE_s) xscE_O h_ := List.forall_mem_cons.mpr ⟨bpat_some (fxr_at hs.2 (show fxk fxl 0 13 = some 323 by decide +kernel)), List.forall_mem_cons.mpr ⟨bpat_some o0_, List.forall_mem_cons.mpr ⟨bpat_some (fxr_at hs.2 (show fxk fxl 0 0 = some 1 by decide +kernel)), List.forall_mem_cons.mpr ⟨bpat_some o1, List.forall_mem_cons.mpr ⟨bpat_some o2, fun q_ hq => absurd hq List.not_mem_nil⟩⟩⟩⟩⟩
  have HC : ∀ q_ ∈ xscE_C, xhold (xscE_r v1_ v311 v400 v401) q_ := fun q_ hq => absurd hq List.not_mem_nil
  rcases yrun (yis_ok xscE_k) hA Hs Ho HC with ⟨q_, hq, h', K_, G_⟩ | ⟨q_, hq, h', K_, G_⟩
  · have e_ := List.mem_singleton.mp hq
    subst e_
    exact ⟨h', yfr_sm K_.2.2.2 hs K_.1 (ywa_s xscE_w List.mem_cons_self), Or.inl (⟨xq_leT (yv_add2 rfl rfl) rfl (K_.2.2.1 _ List.mem_cons_self), xq_leT rfl rfl (K_.2.2.1 _ (List.mem_cons_of_mem _ List.mem_cons_self)), xq_ltF rfl rfl (K_.2.2.1 _ (List.mem_cons_of_mem _ (List.mem_cons_of_mem _ List.mem_cons_self))), fun a_ j_ => yfr_bp K_.2.2.2 (fun q_ hq => absurd hq List.not_mem_nil), G_⟩)⟩
  · rcases List.mem_cons.mp hq with e_ | hq
    · subst e_
      exact ⟨h', yfr_sm K_.2.2.2 hs K_.1 (ywa_r xscE_w List.mem_cons_self), Or.inr (Or.inl (⟨xq_ltT rfl rfl (K_.2.2.1 _ List.mem_cons_self), bpat_of (K_.2.1 _ List.mem_cons_self), fun a_ j_ n0_ => yfr_bp K_.2.2.2 (List.forall_mem_cons.mpr ⟨fun e_ => n0_ ⟨e_.1.symm, e_.2.symm⟩, fun q_ hq => absurd hq List.not_mem_nil⟩), G_⟩))⟩
    rcases List.mem_cons.mp hq with e_ | hq
    · subst e_
      exact ⟨h', yfr_sm K_.2.2.2 hs K_.1 (ywa_r xscE_w (List.mem_cons_of_mem _ List.mem_cons_self)), Or.inr (Or.inr (Or.inl (⟨xq_leF (yv_add2 rfl rfl) rfl (K_.2.2.1 _ List.mem_cons_self), xq_leT rfl rfl (K_.2.2.1 _ (List.mem_cons_of_mem _ List.mem_cons_self)), xq_ltF rfl rfl (K_.2.2.1 _ (List.mem_cons_of_mem _ (List.mem_cons_of_mem _ List.mem_cons_self))), bpat_of (K_.2.1 _ List.mem_cons_self), fun a_ j_ n0_ => yfr_bp K_.2.2.2 (List.forall_mem_cons.mpr ⟨fun e_ => n0_ ⟨e_.1.symm, e_.2.symm⟩, fun q_ hq => absurd hq List.not_mem_nil⟩), G_⟩)))⟩
    have e_ := List.mem_singleton.mp hq
    subst e_
    exact ⟨h', yfr_sm K_.2.2.2 hs K_.1 (ywa_r xscE_w (List.mem_cons_of_mem _ (List.mem_cons_of_mem _ List.mem_cons_self))), Or.inr (Or.inr (Or.inr (⟨xq_leF rfl rfl (K_.2.2.1 _ List.mem_cons_self), xq_ltF rfl rfl (K_.2.2.1 _ (List.mem_cons_of_mem _ List.mem_cons_self)), bpat_of (K_.2.1 _ List.mem_cons_self), fun a_ j_ n0_ => yfr_bp K_.2.2.2 (List.forall_mem_cons.mpr ⟨fun e_ => n0_ ⟨e_.1.symm, e_.2.symm⟩, fun q_ hq => absurd hq List.not_mem_nil⟩), G_⟩)))⟩
-- xscX: 7 steps, 0 ends, 1 returns
def xscX_L : List (Nat × Nat × Nat) := []
def xscX_O : yO := [(0, .int 0, .index 1), (1, .int 11, .arg 311)]
def xscX_A : yA := (yZ xscX_L, [], [], [], [])
def xscX_C : List xB := [(.lt, .arg 2, .arg 1, false)]
def xscX_ss : List yS := []
def xscX_rs : List yR := [(some (.arg 311), [(0, .int 0, .index 1), (1, .int 11, .arg 311)], [(.lt, .arg 2, .arg 1, false)], [])]
theorem xscX_w : ywa xscX_A xscX_ss xscX_rs = true := by decide +kernel
theorem xscX_k : yis (yev xscX_A 3000 60 102 [] (40, [(2, .arg 2), (0, .index 0), (1, .arg 1)], [], xscX_O, xscX_C, [])) xscX_ss xscX_rs = true := by decide +kernel
def xscX_r (v1_ v2 v311 : Int32) (k_ : Nat) : Value := bif Nat.beq k_ 1 then .int v1_ else (bif Nat.beq k_ 2 then .int v2 else (bif Nat.beq k_ 311 then .int v311 else (.int 0)))
def xscX_s (n_ : Nat) : Nat := 0
theorem xscX {h_ : xH} {v1_ v2 v311 : Int32} (hs : sHp h_) (o0_ : bpat h_ 1 11 = some (.int v311)) (c0_ : v1_.toInt ≤ v2.toInt) : ∃ h', ysm h_ h' ∧ (((∀ a_ j_ : Nat, bpat h' a_ j_ = bpat h_ a_ j_) ∧ (∀ D_, 60 ≤ D_ → xrun D_ 102 40 [(2, .int v2), (0, .index 0), (1, .int v1_)] [] h_ (some (.int v311), h', [])))) := by
  have hA : yas xscX_A (xscX_r v1_ v2 v311) (yg xscX_s) := ⟨fun q_ hq => absurd hq List.not_mem_nil, fun q_ hq => absurd hq List.not_mem_nil, fun q_ hq => absurd hq List.not_mem_nil, fun n_ hn => yg_lo hn, fun q_ hq => absurd hq List.not_mem_nil⟩
  have Hs : ysh xscX_A.1 (yg xscX_s) h_ := ysh_of2 hs (fun q_ hq => absurd hq List.not_mem_nil)
  have Ho : ymem (xscX_r v1_ v2 v311) (yg xscX_s) xscX_O h_ := List.forall_mem_cons.mpr ⟨bpat_some (fxr_at hs.2 (show fxk fxl 0 0 = some 1 by decide +kernel)), List.forall_mem_cons.mpr ⟨bpat_some o0_, fun q_ hq => absurd hq List.not_mem_nil⟩⟩
  have HC : ∀ q_ ∈ xscX_C, xhold (xscX_r v1_ v2 v311) q_ := List.forall_mem_cons.mpr ⟨xh_ltF c0_, fun q_ hq => absurd hq List.not_mem_nil⟩
  rcases yrun (yis_ok xscX_k) hA Hs Ho HC with ⟨q_, hq, h', K_, G_⟩ | ⟨q_, hq, h', K_, G_⟩
  · cases hq
  · have e_ := List.mem_singleton.mp hq
    subst e_
    exact ⟨h', yfr_sm K_.2.2.2 hs K_.1 (ywa_r xscX_w List.mem_cons_self), ⟨fun a_ j_ => yfr_bp K_.2.2.2 (fun q_ hq => absurd hq List.not_mem_nil), G_⟩⟩
-- xscT: 5 steps, 1 ends, 0 returns
def xscT_L : List (Nat × Nat × Nat) := []
def xscT_O : yO := [(0, .int 0, .index 1)]
def xscT_A : yA := (yZ xscT_L, [], [], [], [])
def xscT_C : List xB := [(.lt, .arg 2, .arg 1, true)]
def xscT_ss : List yS := [(49, [(2, .arg 2), (0, .index 0), (1, .arg 1)], [.index 1], [(0, .int 0, .index 1)], [(.lt, .arg 2, .arg 1, true)], [])]
def xscT_rs : List yR := []
theorem xscT_w : ywa xscT_A xscT_ss xscT_rs = true := by decide +kernel
theorem xscT_k : yis (yev xscT_A 3000 60 102 [49] (40, [(2, .arg 2), (0, .index 0), (1, .arg 1)], [], xscT_O, xscT_C, [])) xscT_ss xscT_rs = true := by decide +kernel
def xscT_r (v1_ v2 : Int32) (k_ : Nat) : Value := bif Nat.beq k_ 1 then .int v1_ else (bif Nat.beq k_ 2 then .int v2 else (.int 0))
def xscT_s (n_ : Nat) : Nat := 0
theorem xscT {h_ : xH} {v1_ v2 : Int32} (hs : sHp h_) (c0_ : v2.toInt < v1_.toInt) : ∃ h', ysm h_ h' ∧ (((∀ a_ j_ : Nat, bpat h' a_ j_ = bpat h_ a_ j_) ∧ (bldD 60 102 40 [(2, .int v2), (0, .index 0), (1, .int v1_)] [] h_ 49 [(2, .int v2), (0, .index 0), (1, .int v1_)] [.index 1] h'))) := by
  have hA : yas xscT_A (xscT_r v1_ v2) (yg xscT_s) := ⟨fun q_ hq => absurd hq List.not_mem_nil, fun q_ hq => absurd hq List.not_mem_nil, fun q_ hq => absurd hq List.not_mem_nil, fun n_ hn => yg_lo hn, fun q_ hq => absurd hq List.not_mem_nil⟩
  have Hs : ysh xscT_A.1 (yg xscT_s) h_ := ysh_of2 hs (fun q_ hq => absurd hq List.not_mem_nil)
  have Ho : ymem (xscT_r v1_ v2) (yg xscT_s) xscT_O h_ := List.forall_mem_cons.mpr ⟨bpat_some (fxr_at hs.2 (show fxk fxl 0 0 = some 1 by decide +kernel)), fun q_ hq => absurd hq List.not_mem_nil⟩
  have HC : ∀ q_ ∈ xscT_C, xhold (xscT_r v1_ v2) q_ := List.forall_mem_cons.mpr ⟨xh_ltT c0_, fun q_ hq => absurd hq List.not_mem_nil⟩
  rcases yrun (yis_ok xscT_k) hA Hs Ho HC with ⟨q_, hq, h', K_, G_⟩ | ⟨q_, hq, h', K_, G_⟩
  · have e_ := List.mem_singleton.mp hq
    subst e_
    exact ⟨h', yfr_sm K_.2.2.2 hs K_.1 (ywa_s xscT_w List.mem_cons_self), ⟨fun a_ j_ => yfr_bp K_.2.2.2 (fun q_ hq => absurd hq List.not_mem_nil), G_⟩⟩
  · cases hq
-- xscN: 2 steps, 1 ends, 0 returns
def xscN_L : List (Nat × Nat × Nat) := []
def xscN_O : yO := []
def xscN_A : yA := (yZ xscN_L, [], [], [], [])
def xscN_C : List xB := []
def xscN_ss : List yS := [(40, [(2, .add (.arg 2) (.int 1)), (0, .index 0), (1, .arg 1)], [], [], [], [])]
def xscN_rs : List yR := []
theorem xscN_w : ywa xscN_A xscN_ss xscN_rs = true := by decide +kernel
theorem xscN_k : yis (yev xscN_A 3000 60 102 [40] (52, [(2, .arg 2), (0, .index 0), (1, .arg 1)], [], xscN_O, xscN_C, [])) xscN_ss xscN_rs = true := by decide +kernel
def xscN_r (v1_ v2 : Int32) (k_ : Nat) : Value := bif Nat.beq k_ 1 then .int v1_ else (bif Nat.beq k_ 2 then .int v2 else (.int 0))
def xscN_s (n_ : Nat) : Nat := 0
theorem xscN {h_ : xH} {v1_ v2 : Int32} (hs : sHp h_) : ∃ h', ysm h_ h' ∧ (((∀ a_ j_ : Nat, bpat h' a_ j_ = bpat h_ a_ j_) ∧ (bldD 60 102 52 [(2, .int v2), (0, .index 0), (1, .int v1_)] [] h_ 40 [(2, .int (v2 + (1 : Int32))), (0, .index 0), (1, .int v1_)] [] h'))) := by
  have hA : yas xscN_A (xscN_r v1_ v2) (yg xscN_s) := ⟨fun q_ hq => absurd hq List.not_mem_nil, fun q_ hq => absurd hq List.not_mem_nil, fun q_ hq => absurd hq List.not_mem_nil, fun n_ hn => yg_lo hn, fun q_ hq => absurd hq List.not_mem_nil⟩
  have Hs : ysh xscN_A.1 (yg xscN_s) h_ := ysh_of2 hs (fun q_ hq => absurd hq List.not_mem_nil)
  have Ho : ymem (xscN_r v1_ v2) (yg xscN_s) xscN_O h_ := fun q_ hq => absurd hq List.not_mem_nil
  have HC : ∀ q_ ∈ xscN_C, xhold (xscN_r v1_ v2) q_ := fun q_ hq => absurd hq List.not_mem_nil
  rcases yrun (yis_ok xscN_k) hA Hs Ho HC with ⟨q_, hq, h', K_, G_⟩ | ⟨q_, hq, h', K_, G_⟩
  · have e_ := List.mem_singleton.mp hq
    subst e_
    exact ⟨h', yfr_sm K_.2.2.2 hs K_.1 (ywa_s xscN_w List.mem_cons_self), ⟨fun a_ j_ => yfr_bp K_.2.2.2 (fun q_ hq => absurd hq List.not_mem_nil), G_⟩⟩
  · cases hq
-- xsqE: 126 steps, 1 ends, 5 returns
def xsqE_L : List (Nat × Nat × Nat) := []
def xsqE_O : yO := [(0, .int 0, .index 1), (1, .int 9, .arg 310), (0, .int 13, .index 323), (323, .int 1, .arg 400), (1, .int 10, .arg 300), (1, .int 7, .index 13), (13, .int 1, .arg 301), (323, .int 4, .arg 401)]
def xsqE_A : yA := (yZ xsqE_L, [], [], [], [])
def xsqE_C : List xB := []
def xsqE_ss : List yS := [(43, [(0, .index 0), (1, .arg 1), (2, .arg 2)], [], [(0, .int 0, .index 1), (1, .int 9, .arg 310), (0, .int 13, .index 323), (323, .int 1, .arg 400), (1, .int 10, .arg 300), (1, .int 7, .index 13), (13, .int 1, .arg 301), (323, .int 4, .arg 401)], [(.lt, .arg 301, .int 10, true), (.lt, .arg 2, .arg 300, true), (.lt, .arg 2, .int 0, false), (.lt, .arg 1, .arg 310, true), (.lt, .arg 1, .int 0, false)], [])]
def xsqE_rs : List yR := [(some (.int (Int32.ofInt (-1000001))), [(323, .int 1, .add (.arg 400) (.int 1)), (0, .int 0, .index 1), (1, .int 9, .arg 310), (0, .int 13, .index 323), (1, .int 10, .arg 300), (1, .int 7, .index 13), (13, .int 1, .arg 301), (323, .int 4, .arg 401)], [(.lt, .arg 1, .int 0, true)], [(323, .int 1)]),
  (some (.int (Int32.ofInt (-1000001))), [(323, .int 1, .add (.arg 400) (.int 1)), (0, .int 0, .index 1), (1, .int 9, .arg 310), (0, .int 13, .index 323), (1, .int 10, .arg 300), (1, .int 7, .index 13), (13, .int 1, .arg 301), (323, .int 4, .arg 401)], [(.lt, .arg 1, .arg 310, false), (.lt, .arg 1, .int 0, false)], [(323, .int 1)]),
  (some (.int (Int32.ofInt (-1000001))), [(323, .int 1, .add (.arg 400) (.int 1)), (0, .int 0, .index 1), (1, .int 9, .arg 310), (0, .int 13, .index 323), (1, .int 10, .arg 300), (1, .int 7, .index 13), (13, .int 1, .arg 301), (323, .int 4, .arg 401)], [(.lt, .arg 2, .int 0, true), (.lt, .arg 1, .arg 310, true), (.lt, .arg 1, .int 0, false)], [(323, .int 1)]),
  (some (.int (Int32.ofInt (-1000001))), [(323, .int 1, .add (.arg 400) (.int 1)), (0, .int 0, .index 1), (1, .int 9, .arg 310), (0, .int 13, .index 323), (1, .int 10, .arg 300), (1, .int 7, .index 13), (13, .int 1, .arg 301), (323, .int 4, .arg 401)], [(.lt, .arg 2, .arg 300, false), (.lt, .arg 2, .int 0, false), (.lt, .arg 1, .arg 310, true), (.lt, .arg 1, .int 0, false)], [(323, .int 1)]),
  (some (.int (Int32.ofInt (-1000004))), [(323, .int 4, .add (.arg 401) (.int 1)), (0, .int 0, .index 1), (1, .int 9, .arg 310), (0, .int 13, .index 323), (323, .int 1, .arg 400), (1, .int 10, .arg 300), (1, .int 7, .index 13), (13, .int 1, .arg 301)], [(.lt, .arg 301, .int 10, false), (.lt, .arg 2, .arg 300, true), (.lt, .arg 2, .int 0, false), (.lt, .arg 1, .arg 310, true), (.lt, .arg 1, .int 0, false)], [(323, .int 4)])]
theorem xsqE_w : ywa xsqE_A xsqE_ss xsqE_rs = true := by decide +kernel
theorem xsqE_k : yis (yev xsqE_A 3000 60 101 [43] (0, [(0, .index 0), (1, .arg 1), (2, .arg 2)], [], xsqE_O, xsqE_C, [])) xsqE_ss xsqE_rs = true := by decide +kernel
def xsqE_r (v1_ v2 v300 v301 v310 v400 v401 : Int32) (k_ : Nat) : Value := bif Nat.beq k_ 1 then .int v1_ else (bif Nat.beq k_ 2 then .int v2 else (bif Nat.beq k_ 300 then .int v300 else (bif Nat.beq k_ 301 then .int v301 else (bif Nat.beq k_ 310 then .int v310 else (bif Nat.beq k_ 400 then .int v400 else (bif Nat.beq k_ 401 then .int v401 else (.int 0)))))))
def xsqE_s (n_ : Nat) : Nat := 0
theorem xsqE {h_ : xH} {v1_ v2 v300 v301 v310 v400 v401 : Int32} (hs : sHp h_) (o0_ : bpat h_ 1 9 = some (.int v310)) (o1 : bpat h_ 323 1 = some (.int v400)) (o2 : bpat h_ 1 10 = some (.int v300)) (o3_ : bpat h_ 13 1 = some (.int v301)) (o4_ : bpat h_ 323 4 = some (.int v401)) : ∃ h', ysm h_ h' ∧ (((v301.toInt < (10 : Int32).toInt) ∧ (v2.toInt < v300.toInt) ∧ ((0 : Int32).toInt ≤ v2.toInt) ∧ (v1_.toInt < v310.toInt) ∧ ((0 : Int32).toInt ≤ v1_.toInt) ∧ (∀ a_ j_ : Nat, bpat h' a_ j_ = bpat h_ a_ j_) ∧ (bldD 60 101 0 [(0, .index 0), (1, .int v1_), (2, .int v2)] [] h_ 43 [(0, .index 0), (1, .int v1_), (2, .int v2)] [] h'))
  ∨ ((v1_.toInt < (0 : Int32).toInt) ∧ (bpat h' 323 1 = some (.int (v400 + (1 : Int32)))) ∧ (∀ a_ j_ : Nat, ¬ (a_ = 323 ∧ j_ = 1) → bpat h' a_ j_ = bpat h_ a_ j_) ∧ (∀ D_, 60 ≤ D_ → xrun D_ 101 0 [(0, .index 0), (1, .int v1_), (2, .int v2)] [] h_ (some (.int (Int32.ofInt (-1000001))), h', [])))
  ∨ ((v310.toInt ≤ v1_.toInt) ∧ ((0 : Int32).toInt ≤ v1_.toInt) ∧ (bpat h' 323 1 = some (.int (v400 + (1 : Int32)))) ∧ (∀ a_ j_ : Nat, ¬ (a_ = 323 ∧ j_ = 1) → bpat h' a_ j_ = bpat h_ a_ j_) ∧ (∀ D_, 60 ≤ D_ → xrun D_ 101 0 [(0, .index 0), (1, .int v1_), (2, .int v2)] [] h_ (some (.int (Int32.ofInt (-1000001))), h', [])))
  ∨ ((v2.toInt < (0 : Int32).toInt) ∧ (v1_.toInt < v310.toInt) ∧ ((0 : Int32).toInt ≤ v1_.toInt) ∧ (bpat h' 323 1 = some (.int (v400 + (1 : Int32)))) ∧ (∀ a_ j_ : Nat, ¬ (a_ = 323 ∧ j_ = 1) → bpat h' a_ j_ = bpat h_ a_ j_) ∧ (∀ D_, 60 ≤ D_ → xrun D_ 101 0 [(0, .index 0), (1, .int v1_), (2, .int v2)] [] h_ (some (.int (Int32.ofInt (-1000001))), h', [])))
  ∨ ((v300.toInt ≤ v2.toInt) ∧ ((0 : Int32).toInt ≤ v2.toInt) ∧ (v1_.toInt < v310.toInt) ∧ ((0 : Int32).toInt ≤ v1_.toInt) ∧ (bpat h' 323 1 = some (.int (v400 + (1 : Int32)))) ∧ (∀ a_ j_ : Nat, ¬ (a_ = 323 ∧ j_ = 1) → bpat h' a_ j_ = bpat h_ a_ j_) ∧ (∀ D_, 60 ≤ D_ → xrun D_ 101 0 [(0, .index 0), (1, .int v1_), (2, .int v2)] [] h_ (some (.int (Int32.ofInt (-1000001))), h', [])))
  ∨ (((10 : Int32).toInt ≤ v301.toInt) ∧ (v2.toInt < v300.toInt) ∧ ((0 : Int32).toInt ≤ v2.toInt) ∧ (v1_.toInt < v310.toInt) ∧ ((0 : Int32).toInt ≤ v1_.toInt) ∧ (bpat h' 323 4 = some (.int (v401 + (1 : Int32)))) ∧ (∀ a_ j_ : Nat, ¬ (a_ = 323 ∧ j_ = 4) → bpat h' a_ j_ = bpat h_ a_ j_) ∧ (∀ D_, 60 ≤ D_ → xrun D_ 101 0 [(0, .index 0), (1, .int v1_), (2, .int v2)] [] h_ (some (.int (Int32.ofInt (-1000004))), h', [])))) := by
  have hA : yas xsqE_A (xsqE_r v1_ v2 v300 v301 v310 v400 v401) (yg xsqE_s) := ⟨fun q_ hq => absurd hq List.not_mem_nil, fun q_ hq => absurd hq List.not_mem_nil, fun q_ hq => absurd hq List.not_mem_nil, fun n_ hn => yg_lo hn, fun q_ hq => absurd hq List.not_mem_nil⟩
  have Hs : ysh xsqE_A.1 (yg xsqE_s) h_ := ysh_of2 hs (fun q_ hq => absurd hq List.not_mem_nil)
  have Ho : ymem (xsqE_r v1_ v2 v300 v301 v310 v400 v401) (yg xsqE_s) xsqE_O h_ := List.forall_mem_cons.mpr ⟨bpat_some (fxr_at hs.2 (show fxk fxl 0 0 = some 1 by decide +kernel)), List.forall_mem_cons.mpr ⟨bpat_some o0_, List.forall_mem_cons.mpr ⟨bpat_some (fxr_at hs.2 (show fxk fxl 0 13 = some 323 by decide +kernel)), List.forall_mem_cons.mpr ⟨bpat_some o1, List.forall_mem_cons.mpr ⟨bpat_some o2, List.forall_mem_cons.mpr ⟨bpat_some (fxr_at hs.2 (show fxk fxl 1 7 = some 13 by decide +kernel)), List.forall_mem_cons.mpr ⟨bpat_some o3_, List.forall_mem_cons.mpr ⟨bpat_some o4_, fun q_ hq => absurd hq List.not_mem_nil⟩⟩⟩⟩⟩⟩⟩⟩
  have HC : ∀ q_ ∈ xsqE_C, xhold (xsqE_r v1_ v2 v300 v301 v310 v400 v401) q_ := fun q_ hq => absurd hq List.not_mem_nil
  rcases yrun (yis_ok xsqE_k) hA Hs Ho HC with ⟨q_, hq, h', K_, G_⟩ | ⟨q_, hq, h', K_, G_⟩
  · have e_ := List.mem_singleton.mp hq
    subst e_
    exact ⟨h', yfr_sm K_.2.2.2 hs K_.1 (ywa_s xsqE_w List.mem_cons_self), Or.inl (⟨xq_ltT rfl rfl (K_.2.2.1 _ List.mem_cons_self), xq_ltT rfl rfl (K_.2.2.1 _ (List.mem_cons_of_mem _ List.mem_cons_self)), xq_ltF rfl rfl (K_.2.2.1 _ (List.mem_cons_of_mem _ (List.mem_cons_of_mem _ List.mem_cons_self))), xq_ltT rfl rfl (K_.2.2.1 _ (List.mem_cons_of_mem _ (List.mem_cons_of_mem _ (List.mem_cons_of_mem _ List.mem_cons_self)))), xq_ltF rfl rfl (K_.2.2.1 _ (List.mem_cons_of_mem _ (List.mem_cons_of_mem _ (List.mem_cons_of_mem _ (List.mem_cons_of_mem _ List.mem_cons_self))))), fun a_ j_ => yfr_bp K_.2.2.2 (fun q_ hq => absurd hq List.not_mem_nil), G_⟩)⟩
  · rcases List.mem_cons.mp hq with e_ | hq
    · subst e_
      exact ⟨h', yfr_sm K_.2.2.2 hs K_.1 (ywa_r xsqE_w List.mem_cons_self), Or.inr (Or.inl (⟨xq_ltT rfl rfl (K_.2.2.1 _ List.mem_cons_self), bpat_of (K_.2.1 _ List.mem_cons_self), fun a_ j_ n0_ => yfr_bp K_.2.2.2 (List.forall_mem_cons.mpr ⟨fun e_ => n0_ ⟨e_.1.symm, e_.2.symm⟩, fun q_ hq => absurd hq List.not_mem_nil⟩), G_⟩))⟩
    rcases List.mem_cons.mp hq with e_ | hq
    · subst e_
      exact ⟨h', yfr_sm K_.2.2.2 hs K_.1 (ywa_r xsqE_w (List.mem_cons_of_mem _ List.mem_cons_self)), Or.inr (Or.inr (Or.inl (⟨xq_ltF rfl rfl (K_.2.2.1 _ List.mem_cons_self), xq_ltF rfl rfl (K_.2.2.1 _ (List.mem_cons_of_mem _ List.mem_cons_self)), bpat_of (K_.2.1 _ List.mem_cons_self), fun a_ j_ n0_ => yfr_bp K_.2.2.2 (List.forall_mem_cons.mpr ⟨fun e_ => n0_ ⟨e_.1.symm, e_.2.symm⟩, fun q_ hq => absurd hq List.not_mem_nil⟩), G_⟩)))⟩
    rcases List.mem_cons.mp hq with e_ | hq
    · subst e_
      exact ⟨h', yfr_sm K_.2.2.2 hs K_.1 (ywa_r xsqE_w (List.mem_cons_of_mem _ (List.mem_cons_of_mem _ List.mem_cons_self))), Or.inr (Or.inr (Or.inr (Or.inl (⟨xq_ltT rfl rfl (K_.2.2.1 _ List.mem_cons_self), xq_ltT rfl rfl (K_.2.2.1 _ (List.mem_cons_of_mem _ List.mem_cons_self)), xq_ltF rfl rfl (K_.2.2.1 _ (List.mem_cons_of_mem _ (List.mem_cons_of_mem _ List.mem_cons_self))), bpat_of (K_.2.1 _ List.mem_cons_self), fun a_ j_ n0_ => yfr_bp K_.2.2.2 (List.forall_mem_cons.mpr ⟨fun e_ => n0_ ⟨e_.1.symm, e_.2.symm⟩, fun q_ hq => absurd hq List.not_mem_nil⟩), G_⟩))))⟩
    rcases List.mem_cons.mp hq with e_ | hq
    · subst e_
      exact ⟨h', yfr_sm K_.2.2.2 hs K_.1 (ywa_r xsqE_w (List.mem_cons_of_mem _ (List.mem_cons_of_mem _ (List.mem_cons_of_mem _ List.mem_cons_self)))), Or.inr (Or.inr (Or.inr (Or.inr (Or.inl (⟨xq_ltF rfl rfl (K_.2.2.1 _ List.mem_cons_self), xq_ltF rfl rfl (K_.2.2.1 _ (List.mem_cons_of_mem _ List.mem_cons_self)), xq_ltT rfl rfl (K_.2.2.1 _ (List.mem_cons_of_mem _ (List.mem_cons_of_mem _ List.mem_cons_self))), xq_ltF rfl rfl (K_.2.2.1 _ (List.mem_cons_of_mem _ (List.mem_cons_of_mem _ (List.mem_cons_of_mem _ List.mem_cons_self)))), bpat_of (K_.2.1 _ List.mem_cons_self), fun a_ j_ n0_ => yfr_bp K_.2.2.2 (List.forall_mem_cons.mpr ⟨fun e_ => n0_ ⟨e_.1.symm, e_.2.symm⟩, fun q_ hq => absurd hq List.not_mem_nil⟩), G_⟩)))))⟩
    have e_ := List.mem_singleton.mp hq
    subst e_
    exact ⟨h', yfr_sm K_.2.2.2 hs K_.1 (ywa_r xsqE_w (List.mem_cons_of_mem _ (List.mem_cons_of_mem _ (List.mem_cons_of_mem _ (List.mem_cons_of_mem _ List.mem_cons_self))))), Or.inr (Or.inr (Or.inr (Or.inr (Or.inr (⟨xq_ltF rfl rfl (K_.2.2.1 _ List.mem_cons_self), xq_ltT rfl rfl (K_.2.2.1 _ (List.mem_cons_of_mem _ List.mem_cons_self)), xq_ltF rfl rfl (K_.2.2.1 _ (List.mem_cons_of_mem _ (List.mem_cons_of_mem _ List.mem_cons_self))), xq_ltT rfl rfl (K_.2.2.1 _ (List.mem_cons_of_mem _ (List.mem_cons_of_mem _ (List.mem_cons_of_mem _ List.mem_cons_self)))), xq_ltF rfl rfl (K_.2.2.1 _ (List.mem_cons_of_mem _ (List.mem_cons_of_mem _ (List.mem_cons_of_mem _ (List.mem_cons_of_mem _ List.mem_cons_self))))), bpat_of (K_.2.1 _ List.mem_cons_self), fun a_ j_ n0_ => yfr_bp K_.2.2.2 (List.forall_mem_cons.mpr ⟨fun e_ => n0_ ⟨e_.1.symm, e_.2.symm⟩, fun q_ hq => absurd hq List.not_mem_nil⟩), G_⟩)))))⟩
-- xsqG1: 20 steps, 1 ends, 0 returns
def xsqG1_L : List (Nat × Nat × Nat) := [(1000, 5, 3)]
def xsqG1_O : yO := [(0, .int 0, .index 1), (1, .int 11, .arg 311), (1, .int 1, .index 3), (3, .arg 2, .index 1000), (1000, .int 2, .arg 302)]
def xsqG1_A : yA := (yZ xsqG1_L, [(.arg 2, 8)], [], [], [])
def xsqG1_C : List xB := [(.eq, .add (.arg 311) (.arg 302), .arg 311, true)]
def xsqG1_ss : List yS := [(81, [(3, .add (.arg 311) (.arg 302)), (0, .index 0), (1, .arg 1), (2, .arg 2)], [.arg 2, .arg 1, .index 1], [(0, .int 0, .index 1), (1, .int 11, .arg 311), (1, .int 1, .index 3), (3, .arg 2, .index 1000), (1000, .int 2, .arg 302)], [(.eq, .add (.arg 311) (.arg 302), .arg 311, true)], [])]
def xsqG1_rs : List yR := []
theorem xsqG1_w : ywa xsqG1_A xsqG1_ss xsqG1_rs = true := by decide +kernel
theorem xsqG1_k : yis (yev xsqG1_A 3000 60 101 [81] (43, [(0, .index 0), (1, .arg 1), (2, .arg 2)], [], xsqG1_O, xsqG1_C, [])) xsqG1_ss xsqG1_rs = true := by decide +kernel
def xsqG1_r (v1_ v2 v302 v311 : Int32) (k_ : Nat) : Value := bif Nat.beq k_ 1 then .int v1_ else (bif Nat.beq k_ 2 then .int v2 else (bif Nat.beq k_ 302 then .int v302 else (bif Nat.beq k_ 311 then .int v311 else (.int 0))))
def xsqG1_s (a1000 : Nat) (n_ : Nat) : Nat := bif Nat.beq n_ 1000 then a1000 else (0)
theorem xsqG1 {h_ : xH} {a1000 : Nat} {v1_ v2 v302 v311 : Int32} (hs : sHp h_) (k1000 : bcq h_ a1000 5 3) (o0_ : bpat h_ 1 11 = some (.int v311)) (o1 : bpat h_ 3 (v2).toInt.toNat = some (.index a1000)) (o2 : bpat h_ a1000 2 = some (.int v302)) (b0 : 0 ≤ (v2).toInt ∧ (v2).toInt < 8) (c0_ : (v311 + v302) = v311) : ∃ h', ysm h_ h' ∧ (((∀ a_ j_ : Nat, bpat h' a_ j_ = bpat h_ a_ j_) ∧ (bldD 60 101 43 [(0, .index 0), (1, .int v1_), (2, .int v2)] [] h_ 81 [(3, .int (v311 + v302)), (0, .index 0), (1, .int v1_), (2, .int v2)] [.int v2, .int v1_, .index 1] h'))) := by
  have hA : yas xsqG1_A (xsqG1_r v1_ v2 v302 v311) (yg (xsqG1_s a1000)) := ⟨List.forall_mem_cons.mpr ⟨b0, fun q_ hq => absurd hq List.not_mem_nil⟩, fun q_ hq => absurd hq List.not_mem_nil, fun q_ hq => absurd hq List.not_mem_nil, fun n_ hn => yg_lo hn, fun q_ hq => absurd hq List.not_mem_nil⟩
  have Hs : ysh xsqG1_A.1 (yg (xsqG1_s a1000)) h_ := ysh_of2 hs (List.forall_mem_cons.mpr ⟨⟨by decide, k1000⟩, fun q_ hq => absurd hq List.not_mem_nil⟩)
  have Ho : ymem (xsqG1_r v1_ v2 v302 v311) (yg (xsqG1_s a1000)) xsqG1_O h_ := List.forall_mem_cons.mpr ⟨bpat_some (fxr_at hs.2 (show fxk fxl 0 0 = some 1 by decide +kernel)), List.forall_mem_cons.mpr ⟨bpat_some o0_, List.forall_mem_cons.mpr ⟨bpat_some (fxr_at hs.2 (show fxk fxl 1 1 = some 3 by decide +kernel)), List.forall_mem_cons.mpr ⟨bpat_some o1, List.forall_mem_cons.mpr ⟨bpat_some o2, fun q_ hq => absurd hq List.not_mem_nil⟩⟩⟩⟩⟩
  have HC : ∀ q_ ∈ xsqG1_C, xhold (xsqG1_r v1_ v2 v302 v311) q_ := List.forall_mem_cons.mpr ⟨xh_eqT2 c0_, fun q_ hq => absurd hq List.not_mem_nil⟩
  rcases yrun (yis_ok xsqG1_k) hA Hs Ho HC with ⟨q_, hq, h', K_, G_⟩ | ⟨q_, hq, h', K_, G_⟩
  · have e_ := List.mem_singleton.mp hq
    subst e_
    exact ⟨h', yfr_sm K_.2.2.2 hs K_.1 (ywa_s xsqG1_w List.mem_cons_self), ⟨fun a_ j_ => yfr_bp K_.2.2.2 (fun q_ hq => absurd hq List.not_mem_nil), G_⟩⟩
  · cases hq
-- xsqG0: 21 steps, 1 ends, 0 returns
def xsqG0_L : List (Nat × Nat × Nat) := [(1000, 5, 3)]
def xsqG0_O : yO := [(0, .int 0, .index 1), (1, .int 11, .arg 311), (1, .int 1, .index 3), (3, .arg 2, .index 1000), (1000, .int 2, .arg 302)]
def xsqG0_A : yA := (yZ xsqG0_L, [(.arg 2, 8)], [], [], [])
def xsqG0_C : List xB := [(.eq, .add (.arg 311) (.arg 302), .arg 311, false)]
def xsqG0_ss : List yS := [(94, [(3, .add (.arg 311) (.arg 302)), (0, .index 0), (1, .arg 1), (2, .arg 2)], [.add (.arg 311) (.arg 302), .arg 2, .arg 1, .index 1], [(0, .int 0, .index 1), (1, .int 11, .arg 311), (1, .int 1, .index 3), (3, .arg 2, .index 1000), (1000, .int 2, .arg 302)], [(.eq, .add (.arg 311) (.arg 302), .arg 311, false)], [])]
def xsqG0_rs : List yR := []
theorem xsqG0_w : ywa xsqG0_A xsqG0_ss xsqG0_rs = true := by decide +kernel
theorem xsqG0_k : yis (yev xsqG0_A 3000 60 101 [94] (43, [(0, .index 0), (1, .arg 1), (2, .arg 2)], [], xsqG0_O, xsqG0_C, [])) xsqG0_ss xsqG0_rs = true := by decide +kernel
def xsqG0_r (v1_ v2 v302 v311 : Int32) (k_ : Nat) : Value := bif Nat.beq k_ 1 then .int v1_ else (bif Nat.beq k_ 2 then .int v2 else (bif Nat.beq k_ 302 then .int v302 else (bif Nat.beq k_ 311 then .int v311 else (.int 0))))
def xsqG0_s (a1000 : Nat) (n_ : Nat) : Nat := bif Nat.beq n_ 1000 then a1000 else (0)
theorem xsqG0 {h_ : xH} {a1000 : Nat} {v1_ v2 v302 v311 : Int32} (hs : sHp h_) (k1000 : bcq h_ a1000 5 3) (o0_ : bpat h_ 1 11 = some (.int v311)) (o1 : bpat h_ 3 (v2).toInt.toNat = some (.index a1000)) (o2 : bpat h_ a1000 2 = some (.int v302)) (b0 : 0 ≤ (v2).toInt ∧ (v2).toInt < 8) (c0_ : ¬ (v311 + v302) = v311) : ∃ h', ysm h_ h' ∧ (((∀ a_ j_ : Nat, bpat h' a_ j_ = bpat h_ a_ j_) ∧ (bldD 60 101 43 [(0, .index 0), (1, .int v1_), (2, .int v2)] [] h_ 94 [(3, .int (v311 + v302)), (0, .index 0), (1, .int v1_), (2, .int v2)] [.int (v311 + v302), .int v2, .int v1_, .index 1] h'))) := by
  have hA : yas xsqG0_A (xsqG0_r v1_ v2 v302 v311) (yg (xsqG0_s a1000)) := ⟨List.forall_mem_cons.mpr ⟨b0, fun q_ hq => absurd hq List.not_mem_nil⟩, fun q_ hq => absurd hq List.not_mem_nil, fun q_ hq => absurd hq List.not_mem_nil, fun n_ hn => yg_lo hn, fun q_ hq => absurd hq List.not_mem_nil⟩
  have Hs : ysh xsqG0_A.1 (yg (xsqG0_s a1000)) h_ := ysh_of2 hs (List.forall_mem_cons.mpr ⟨⟨by decide, k1000⟩, fun q_ hq => absurd hq List.not_mem_nil⟩)
  have Ho : ymem (xsqG0_r v1_ v2 v302 v311) (yg (xsqG0_s a1000)) xsqG0_O h_ := List.forall_mem_cons.mpr ⟨bpat_some (fxr_at hs.2 (show fxk fxl 0 0 = some 1 by decide +kernel)), List.forall_mem_cons.mpr ⟨bpat_some o0_, List.forall_mem_cons.mpr ⟨bpat_some (fxr_at hs.2 (show fxk fxl 1 1 = some 3 by decide +kernel)), List.forall_mem_cons.mpr ⟨bpat_some o1, List.forall_mem_cons.mpr ⟨bpat_some o2, fun q_ hq => absurd hq List.not_mem_nil⟩⟩⟩⟩⟩
  have HC : ∀ q_ ∈ xsqG0_C, xhold (xsqG0_r v1_ v2 v302 v311) q_ := List.forall_mem_cons.mpr ⟨xh_eqF2 c0_, fun q_ hq => absurd hq List.not_mem_nil⟩
  rcases yrun (yis_ok xsqG0_k) hA Hs Ho HC with ⟨q_, hq, h', K_, G_⟩ | ⟨q_, hq, h', K_, G_⟩
  · have e_ := List.mem_singleton.mp hq
    subst e_
    exact ⟨h', yfr_sm K_.2.2.2 hs K_.1 (ywa_s xsqG0_w List.mem_cons_self), ⟨fun a_ j_ => yfr_bp K_.2.2.2 (fun q_ hq => absurd hq List.not_mem_nil), G_⟩⟩
  · cases hq
-- xsqR: 2 steps, 0 ends, 1 returns
def xsqR_L : List (Nat × Nat × Nat) := []
def xsqR_O : yO := []
def xsqR_A : yA := (yZ xsqR_L, [], [], [], [])
def xsqR_C : List xB := []
def xsqR_ss : List yS := []
def xsqR_rs : List yR := [(some (.arg 3), [], [], [])]
theorem xsqR_w : ywa xsqR_A xsqR_ss xsqR_rs = true := by decide +kernel
theorem xsqR_k : yis (yev xsqR_A 3000 60 101 [] (97, [(3, .arg 3), (0, .index 0), (1, .arg 1), (2, .arg 2)], [], xsqR_O, xsqR_C, [])) xsqR_ss xsqR_rs = true := by decide +kernel
def xsqR_r (v1_ v2 v3 : Int32) (k_ : Nat) : Value := bif Nat.beq k_ 1 then .int v1_ else (bif Nat.beq k_ 2 then .int v2 else (bif Nat.beq k_ 3 then .int v3 else (.int 0)))
def xsqR_s (n_ : Nat) : Nat := 0
theorem xsqR {h_ : xH} {v1_ v2 v3 : Int32} (hs : sHp h_) : ∃ h', ysm h_ h' ∧ (((∀ a_ j_ : Nat, bpat h' a_ j_ = bpat h_ a_ j_) ∧ (∀ D_, 60 ≤ D_ → xrun D_ 101 97 [(3, .int v3), (0, .index 0), (1, .int v1_), (2, .int v2)] [] h_ (some (.int v3), h', [])))) := by
  have hA : yas xsqR_A (xsqR_r v1_ v2 v3) (yg xsqR_s) := ⟨fun q_ hq => absurd hq List.not_mem_nil, fun q_ hq => absurd hq List.not_mem_nil, fun q_ hq => absurd hq List.not_mem_nil, fun n_ hn => yg_lo hn, fun q_ hq => absurd hq List.not_mem_nil⟩
  have Hs : ysh xsqR_A.1 (yg xsqR_s) h_ := ysh_of2 hs (fun q_ hq => absurd hq List.not_mem_nil)
  have Ho : ymem (xsqR_r v1_ v2 v3) (yg xsqR_s) xsqR_O h_ := fun q_ hq => absurd hq List.not_mem_nil
  have HC : ∀ q_ ∈ xsqR_C, xhold (xsqR_r v1_ v2 v3) q_ := fun q_ hq => absurd hq List.not_mem_nil
  rcases yrun (yis_ok xsqR_k) hA Hs Ho HC with ⟨q_, hq, h', K_, G_⟩ | ⟨q_, hq, h', K_, G_⟩
  · cases hq
  · have e_ := List.mem_singleton.mp hq
    subst e_
    exact ⟨h', yfr_sm K_.2.2.2 hs K_.1 (ywa_r xsqR_w List.mem_cons_self), ⟨fun a_ j_ => yfr_bp K_.2.2.2 (fun q_ hq => absurd hq List.not_mem_nil), G_⟩⟩
-- xsqS: 3 steps, 0 ends, 1 returns
def xsqS_L : List (Nat × Nat × Nat) := []
def xsqS_O : yO := []
def xsqS_A : yA := (yZ xsqS_L, [], [], [], [])
def xsqS_C : List xB := []
def xsqS_ss : List yS := []
def xsqS_rs : List yR := [(some (.arg 3), [], [], [])]
theorem xsqS_w : ywa xsqS_A xsqS_ss xsqS_rs = true := by decide +kernel
theorem xsqS_k : yis (yev xsqS_A 3000 60 101 [] (84, [(3, .arg 3), (0, .index 0), (1, .arg 1), (2, .arg 2)], [], xsqS_O, xsqS_C, [])) xsqS_ss xsqS_rs = true := by decide +kernel
def xsqS_r (v1_ v2 v3 : Int32) (k_ : Nat) : Value := bif Nat.beq k_ 1 then .int v1_ else (bif Nat.beq k_ 2 then .int v2 else (bif Nat.beq k_ 3 then .int v3 else (.int 0)))
def xsqS_s (n_ : Nat) : Nat := 0
theorem xsqS {h_ : xH} {v1_ v2 v3 : Int32} (hs : sHp h_) : ∃ h', ysm h_ h' ∧ (((∀ a_ j_ : Nat, bpat h' a_ j_ = bpat h_ a_ j_) ∧ (∀ D_, 60 ≤ D_ → xrun D_ 101 84 [(3, .int v3), (0, .index 0), (1, .int v1_), (2, .int v2)] [] h_ (some (.int v3), h', [])))) := by
  have hA : yas xsqS_A (xsqS_r v1_ v2 v3) (yg xsqS_s) := ⟨fun q_ hq => absurd hq List.not_mem_nil, fun q_ hq => absurd hq List.not_mem_nil, fun q_ hq => absurd hq List.not_mem_nil, fun n_ hn => yg_lo hn, fun q_ hq => absurd hq List.not_mem_nil⟩
  have Hs : ysh xsqS_A.1 (yg xsqS_s) h_ := ysh_of2 hs (fun q_ hq => absurd hq List.not_mem_nil)
  have Ho : ymem (xsqS_r v1_ v2 v3) (yg xsqS_s) xsqS_O h_ := fun q_ hq => absurd hq List.not_mem_nil
  have HC : ∀ q_ ∈ xsqS_C, xhold (xsqS_r v1_ v2 v3) q_ := fun q_ hq => absurd hq List.not_mem_nil
  rcases yrun (yis_ok xsqS_k) hA Hs Ho HC with ⟨q_, hq, h', K_, G_⟩ | ⟨q_, hq, h', K_, G_⟩
  · cases hq
  · have e_ := List.mem_singleton.mp hq
    subst e_
    exact ⟨h', yfr_sm K_.2.2.2 hs K_.1 (ywa_r xsqS_w List.mem_cons_self), ⟨fun a_ j_ => yfr_bp K_.2.2.2 (fun q_ hq => absurd hq List.not_mem_nil), G_⟩⟩
theorem rwx_ad3 {h_ h' : xH} {a_ b_ m_ : Nat} {l : List Int32} {x_ : Int32} (R_ : rwx h_ a_ b_ m_ l) (hl : l.length < m_) (hm_ : ysm h_ h') (e1_ : bpat h' a_ 1 = some (.int (Int32.ofNat (l.length + 1)))) (e2_ : bpat h' b_ l.length = some (.int x_)) (fa : bpat h' a_ 0 = bpat h_ a_ 0) (fb : ∀ j_, ¬ j_ = l.length → bpat h' b_ j_ = bpat h_ b_ j_) : rwx h' a_ b_ m_ (l ++ [x_]) := by
  obtain ⟨⟨b1, b2⟩, ⟨r0, r1_⟩, k_, g_⟩ := R_
  refine ⟨⟨hm_.2 _ _ _ b1, hm_.2 _ _ _ b2⟩, ⟨fa.trans r0, by rw [List.length_append]; exact e1_⟩, by rw [List.length_append]; exact hl, fun j_ y_ hy => ?_⟩
  by_cases q_ : j_ < l.length
  · rw [List.getElem?_append_left q_] at hy
    exact (fb j_ (by omega)).trans (g_ j_ y_ hy)
  · have lj := (List.getElem?_eq_some_iff.mp hy).1
    rw [List.length_append] at lj
    have l1 : [x_].length = 1 := rfl
    have ej : j_ = l.length := by omega
    subst ej
    rw [List.getElem?_append_right (Nat.le_refl _), Nat.sub_self] at hy
    rw [← Option.some.inj hy]
    exact e2_
section
variable {W_ : Nat → List Int32} {V : Nat → Int32}
theorem wvX_n : wvX.all (fun p_ => !(Nat.beq p_.1.1 1 && Nat.beq p_.1.2 11)) = true := by decide +kernel
theorem wrX_n : wrX.all (fun p_ => !(Nat.beq p_.1 1) && !(Nat.beq p_.2.1 1)) = true := by decide +kernel
/-- NOW isn't in the state -/
theorem SX_n {h_ h' : xH} (H_ : SX W_ V h_) (m_ : ysm h_ h') (f_ : ∀ c_ j_, sxc c_ = true → ¬ (c_ = 1 ∧ j_ = 11) → bpat h' c_ j_ = bpat h_ c_ j_) : SX W_ V h' := by
  obtain ⟨H1_, H2_, H3, H4, H5⟩ := H_
  have g_ : ∀ (o q_ : Nat), (o = 0 ∨ o = 73) → XW o q_ W_ V h_ → XW o q_ W_ V h' := by
    intro o q_ ho HH_
    refine ⟨fun p_ hp => ?_, fun p_ hp => ?_⟩
    · have k_ := List.all_eq_true.mp sxc_v p_ hp
      rw [Bool.and_eq_true] at k_
      have e_ : sxc (p_.1.1 + o) = true := by
        rcases ho with rfl | rfl
        · exact k_.1
        · exact k_.2
      refine (f_ _ _ e_ (fun z_ => ?_)).trans (HH_.1 p_ hp)
      have kn_ := List.all_eq_true.mp wvX_n p_ hp
      rcases ho with rfl | rfl
      · rw [Nat.add_zero] at z_
        rw [z_.1, z_.2] at kn_
        cases kn_
      · omega
    · have k_ := List.all_eq_true.mp sxc_r p_ hp
      simp only [Bool.and_eq_true] at k_
      have kn_ := List.all_eq_true.mp wrX_n p_ hp
      rw [Bool.and_eq_true] at kn_
      have e1_ : sxc (p_.1 + o) = true := by
        rcases ho with rfl | rfl
        · exact k_.1.1
        · exact k_.1.2
      have e2_ : sxc (p_.2.1 + o) = true := by
        rcases ho with rfl | rfl
        · exact k_.2.1
        · exact k_.2.2
      refine rwx_keep (HH_.2 p_ hp) m_ (fun c_ j_ hc_ => ?_)
      rcases hc_ with rfl | rfl
      · refine f_ _ _ e1_ (fun z_ => ?_)
        rcases ho with rfl | rfl
        · rw [Nat.add_zero] at z_
          rw [z_.1] at kn_
          cases kn_.1
        · omega
      · refine f_ _ _ e2_ (fun z_ => ?_)
        rcases ho with rfl | rfl
        · rw [Nat.add_zero] at z_
          rw [z_.1] at kn_
          cases kn_.2
        · omega
  exact ⟨m_.1, g_ 0 0 (Or.inl rfl) H2_, g_ 73 100 (Or.inr rfl) H3, (f_ 0 14 (by decide) (by omega)).trans H4, fun k_ hk => by
    obtain ⟨x1_, x2_, x3⟩ := H5 k_ hk
    have q_ := List.all_eq_true.mp sxc_s k_ (List.mem_range.mpr hk)
    rw [Bool.and_eq_true] at q_
    exact ⟨(f_ _ _ q_.1 (by omega)).trans x1_, (f_ _ _ q_.1 (by omega)).trans x2_, fun j_ x_ hx => (f_ _ _ q_.2 (by omega)).trans (x3 j_ x_ hx)⟩⟩
end
/-- an ECHO: CALL, ROCK, when it comes -/
abbrev eCo : Type := Int32 × (Int32 × Int32)
def lgF (g_ : Nat) : Nat := if g_ + 1 < 8 then g_ + 1 else 8
/-- ECHOES on their way, NOW, how many rows THE LOG has: the class -/
def EXc (E_ : List eCo) (nw : Int32) (g_ : Nat) (h_ : xH) : Prop := (bpat h_ 1 11 = some (.int nw) ∧ bpat h_ 15 0 = some (.index 16)) ∧ ((rwx h_ 9 10 10 (E_.map (fun e_ => e_.1)) ∧ (rwx h_ 11 12 10 (E_.map (fun e_ => e_.2.1)) ∧ rwx h_ 13 14 10 (E_.map (fun e_ => e_.2.2)))) ∧ (bpat h_ 15 2 = some (.int (Int32.ofNat g_)) ∧ ∃ y_ : Nat, y_ < 8 ∧ bpat h_ 15 1 = some (.int (Int32.ofNat y_))))
theorem EXc_fr {E_ : List eCo} {nw : Int32} {g_ : Nat} {h_ h' : xH} (H_ : EXc E_ nw g_ h_) (m_ : ysm h_ h') (f_ : ∀ c_ j_, (c_ = 1 ∧ j_ = 11) ∨ (9 ≤ c_ ∧ c_ ≤ 15) → bpat h' c_ j_ = bpat h_ c_ j_) : EXc E_ nw g_ h' := by
  obtain ⟨⟨a1_, a2⟩, ⟨b1, b2, b3⟩, c1_, y_, c2_, c3_⟩ := H_
  exact ⟨⟨(f_ _ _ (by omega)).trans a1_, (f_ _ _ (by omega)).trans a2⟩, ⟨rwx_keep b1 m_ (fun c_ j_ hc_ => f_ c_ j_ (by omega)), rwx_keep b2 m_ (fun c_ j_ hc_ => f_ c_ j_ (by omega)), rwx_keep b3 m_ (fun c_ j_ hc_ => f_ c_ j_ (by omega))⟩, (f_ _ _ (by omega)).trans c1_, y_, c2_, (f_ _ _ (by omega)).trans c3_⟩
theorem le_k : (List.range 8).all (fun c_ => ((decide (fxk fxl 16 c_ = some (17 + 2 * c_)) && decide (fxk fxl (17 + 2 * c_) 0 = some (18 + 2 * c_))) && (!(sxc (17 + 2 * c_)) && !(sxc (18 + 2 * c_)))) && ((match bzf (17 + 2 * c_) with
  | some z_ => Nat.beq z_.1 6 && Nat.beq z_.2 2
  | none => false) && (match bzf (18 + 2 * c_) with
  | some z_ => Nat.beq z_.1 20 && Nat.beq z_.2 12
  | none => false))) = true := by decide +kernel
theorem nbw_ {b_ : Bool} (h_ : (!b_) = true) : b_ = false := by
  cases b_ with
  | false => rfl
  | true => cases h_
theorem le_s {h_ : xH} {c_ : Nat} (hs : sHp h_) (hc_ : c_ < 8) : ((bpat h_ 16 c_ = some (.index (17 + 2 * c_)) ∧ bpat h_ (17 + 2 * c_) 0 = some (.index (18 + 2 * c_))) ∧ (sxc (17 + 2 * c_) = false ∧ sxc (18 + 2 * c_) = false)) ∧ (bcq h_ (17 + 2 * c_) 6 2 ∧ bcq h_ (18 + 2 * c_) 20 12) := by
  have k_ := List.all_eq_true.mp le_k c_ (List.mem_range.mpr hc_)
  simp only [Bool.and_eq_true] at k_
  obtain ⟨⟨⟨k1_, k1b⟩, k4_, k5_⟩, k2_, k3_⟩ := k_
  refine ⟨⟨⟨fxr_at hs.2 (of_decide_eq_true k1_), fxr_at hs.2 (of_decide_eq_true k1b)⟩, nbw_ k4_, nbw_ k5_⟩, ?_, ?_⟩
  · cases hz : bzf (17 + 2 * c_) with
    | none => rw [hz] at k2_; exact absurd k2_ Bool.false_ne_true
    | some z_ =>
      rw [hz] at k2_
      have q_ : (Nat.beq z_.1 6 && Nat.beq z_.2 2) = true := k2_
      rw [Bool.and_eq_true] at q_
      have e_ := hs.1 _ _ hz
      rw [Nat.eq_of_beq_eq_true q_.1, Nat.eq_of_beq_eq_true q_.2] at e_
      exact e_
  · cases hz : bzf (18 + 2 * c_) with
    | none => rw [hz] at k3_; exact absurd k3_ Bool.false_ne_true
    | some z_ =>
      rw [hz] at k3_
      have q_ : (Nat.beq z_.1 20 && Nat.beq z_.2 12) = true := k3_
      rw [Bool.and_eq_true] at q_
      have e_ := hs.1 _ _ hz
      rw [Nat.eq_of_beq_eq_true q_.1, Nat.eq_of_beq_eq_true q_.2] at e_
      exact e_
theorem lg_k {g_ : Nat} (hg : g_ ≤ 8) : (if (8 : Int32) < Int32.ofNat g_ + 1 then (8 : Int32) else Int32.ofNat g_ + 1) = Int32.ofNat (lgF g_) := by
  have k_ : (List.range 9).all (fun g_ => decide ((if (8 : Int32) < Int32.ofNat g_ + 1 then (8 : Int32) else Int32.ofNat g_ + 1) = Int32.ofNat (lgF g_))) = true := by decide +kernel
  exact of_decide_eq_true (List.all_eq_true.mp k_ g_ (List.mem_range.mpr (by omega)))
theorem lgF_8 {g_ : Nat} : lgF g_ ≤ 8 := by
  unfold lgF
  split <;> omega
section
variable {W_ : Nat → List Int32} {V : Nat → Int32}
/-- logEcho -/
theorem leX (K_ : okS W_ V) {c_ r_ y_ g_ : Nat} {h_ : xH} (hc_ : c_ < 12) (hr : r_ < 8) (hy : y_ < 8) (hg : g_ ≤ 8) (H_ : SX W_ V h_) (o0_ : bpat h_ 15 0 = some (.index 16)) (o1 : bpat h_ 15 1 = some (.int (Int32.ofNat y_))) (o2 : bpat h_ 15 2 = some (.int (Int32.ofNat g_))) : ∃ h', (SX W_ V h' ∧ ysm h_ h') ∧ ((∀ u_ j_, ¬ (15 ≤ u_ ∧ u_ ≤ 33) → ¬ u_ = 69 → bpat h' u_ j_ = bpat h_ u_ j_) ∧ ((bpat h' 15 0 = some (.index 16) ∧ (bpat h' 15 1 = some (.int (Int32.ofNat ((y_ + 1) % 8))) ∧ bpat h' 15 2 = some (.int (Int32.ofNat (lgF g_))))) ∧ ∀ D_, 66 ≤ D_ → xrun D_ 69 0 [(0, .index 1), (1, .int (Int32.ofNat c_)), (2, .int (Int32.ofNat r_))] [] h_ (none, h', []))) := by
  have y8 : (y_ + 1) % 8 < 8 := Nat.mod_lt _ (by omega)
  have er : (Int32.ofNat y_ + (1 : Int32)) - (Int32.ofNat y_ + (1 : Int32)) / (8 : Int32) * (8 : Int32) = Int32.ofNat ((y_ + 1) % 8) := by
    rw [i32s]
    exact i32r (by omega) (show (0 : Nat) < 8 by decide) (show (8 : Nat) < 2147483648 by decide)
  obtain ⟨⟨⟨j1, j2_⟩, j3_, j4_⟩, j5_, j6_⟩ := le_s (c_ := (y_ + 1) % 8) H_.1 y8
  obtain ⟨s1_, s2_, s3_⟩ := cl_s H_.1 hc_
  have ij := i32n (i_ := (y_ + 1) % 8) (by omega)
  have ic := i32n (i_ := c_) (by omega)
  have ir := i32n (i_ := r_) (by omega)
  obtain ⟨h1, m1_, w0_, w1_, f1_, ld1⟩ := xleA (v1_ := Int32.ofNat c_) (v2 := Int32.ofNat r_) H_.1 j5_ s2_ o1 o2 o0_ (by rw [er, i32t (by omega)]; exact j1) (by rw [i32t (by omega)]; exact s1_) ⟨by rw [er]; omega, by rw [er]; omega⟩ ⟨by omega, by omega⟩
  rw [er] at w1_
  rw [lg_k hg] at w0_
  have F1_ : ∀ u_ j_, ¬ (15 ≤ u_ ∧ u_ ≤ 33) → bpat h1 u_ j_ = bpat h_ u_ j_ := fun u_ j_ q_ => f1_ u_ j_ (by omega) (by omega)
  have ns : ∀ u_, sxc u_ = true → ¬ (15 ≤ u_ ∧ u_ ≤ 32) := fun u_ hu q_ => by
    have k_ : (List.range 18).all (fun t_ => !(sxc (15 + t_))) = true := by decide +kernel
    have e_ := List.all_eq_true.mp k_ (u_ - 15) (List.mem_range.mpr (by omega))
    rw [show 15 + (u_ - 15) = u_ by omega, hu] at e_
    cases e_
  have H1_ : SX W_ V h1 := SX_fr H_ m1_ (fun u_ j_ hu => f1_ u_ j_ (fun q_ => ns u_ hu (by omega)) (fun q_ => ns u_ hu (by omega)))
  have RC := SX_w H1_ (cl_x hc_)
  have q1_ := m1_.2 _ _ _ j5_
  obtain ⟨h2, S2, R2, m2_, f2_, r2⟩ := copyFrom12 H1_.1 q1_ (m1_.2 _ _ _ j6_) ((f1_ _ _ (by omega) (by omega)).trans j2_) RC.2.2.1 RC
  have ld2 := ycv (d_ := 60) (mi := 69) (pc := 15) (cm := 39) (lo_ := [(3, .index (17 + 2 * ((y_ + 1) % 8))), (0, .index 1), (1, .int (Int32.ofNat c_)), (2, .int (Int32.ofNat r_))]) (st_ := [.index (34 + 2 * c_), .index (17 + 2 * ((y_ + 1) % 8))]) (as_ := [.index (34 + 2 * c_)]) (s' := []) rfl rfl q1_ rfl (xcc_l (List.forall_mem_cons.mpr ⟨xidx_i (bcq_lt q1_), List.forall_mem_cons.mpr ⟨xidx_i (bcq_lt (bcq_of (n_ := 1) (z_ := (10, 15)) H1_.1 rfl)), List.forall_mem_cons.mpr ⟨rfl, List.forall_mem_cons.mpr ⟨rfl, fun q_ hq => absurd hq List.not_mem_nil⟩⟩⟩⟩) (fun t_ ht => absurd ht List.not_mem_nil) (Nat.le_of_ble_eq_true rfl)) r2
  have H2_ : SX W_ V h2 := SX_fr H1_ m2_ (fun u_ j_ hu => f2_ u_ j_ (fun q_ => ns u_ hu (by omega)) (fun q_ => ns u_ hu (by omega)))
  have R2' : rW (17 + 2 * ((y_ + 1) % 8)) (18 + 2 * ((y_ + 1) % 8)) h2 (W_ c_) := ⟨S2, R2, RC.2.2.1⟩
  obtain ⟨p1_, p2_⟩ := rck_ok (k_ := r_) H2_.1 hr
  have q2_ := m2_.2 _ _ _ q1_
  obtain ⟨h3, m3_, f3_, ld3⟩ := xleB (v1_ := Int32.ofNat c_) (v2 := Int32.ofNat r_) H2_.1 q2_ p2_ (by rw [i32t (by omega)]; exact p1_) ⟨by omega, by omega⟩
  have H3 := SX_fr H2_ m3_ (fun u_ j_ _ => f3_ u_ j_)
  obtain ⟨h4, ⟨H4, F4⟩, R4, ld4⟩ := c_sb (mi := 69) (pc := 26) (k_ := r_) (a_ := (17 + 2 * ((y_ + 1) % 8))) (b_ := (18 + 2 * ((y_ + 1) % 8))) (lo_ := [(3, .index (17 + 2 * ((y_ + 1) % 8))), (0, .index 1), (1, .int (Int32.ofNat c_)), (2, .int (Int32.ofNat r_))]) (s' := []) rfl (xcc_l (List.forall_mem_cons.mpr ⟨xidx_i (bcq_lt (m3_.2 _ _ _ q2_)), List.forall_mem_cons.mpr ⟨xidx_i (bcq_lt (bcq_of (n_ := 1) (z_ := (10, 15)) H3.1 rfl)), List.forall_mem_cons.mpr ⟨rfl, List.forall_mem_cons.mpr ⟨rfl, fun q_ hq => absurd hq List.not_mem_nil⟩⟩⟩⟩) (fun t_ ht => absurd ht List.not_mem_nil) (Nat.le_of_ble_eq_true rfl)) K_ H3 hr j3_ j4_ ⟨by omega, by omega, by omega⟩ (rW_all R2' m3_ f3_)
  obtain ⟨h5, m5_, f5_, r5_⟩ := xleC (v1_ := Int32.ofNat c_) (v2 := Int32.ofNat r_) H4.1 (F4.1.2 _ _ _ (m3_.2 _ _ _ q2_))
  have H5 := SX_fr H4 m5_ (fun u_ j_ _ => f5_ u_ j_)
  have f25 : ∀ u_ j_, ¬ u_ = (17 + 2 * ((y_ + 1) % 8)) → ¬ u_ = (18 + 2 * ((y_ + 1) % 8)) → ¬ u_ = 33 → ¬ u_ = 69 → bpat h5 u_ j_ = bpat h1 u_ j_ := fun u_ j_ n1_ n2_ n3_ n4_ => (f5_ u_ j_).trans ((F4.2 u_ j_ n1_ n2_ n3_ n4_).trans ((f3_ u_ j_).trans (f2_ u_ j_ n1_ n2_)))
  exact ⟨h5, ⟨H5, ysm_tr m1_ (ysm_tr m2_ (ysm_tr m3_ (ysm_tr F4.1 m5_)))⟩, fun u_ j_ n1_ n2_ => (f25 u_ j_ (by omega) (by omega) (by omega) n2_).trans (F1_ u_ j_ n1_), ⟨(f25 _ _ (by omega) (by omega) (by omega) (by omega)).trans ((f1_ _ _ (by omega) (by omega)).trans o0_), (f25 _ _ (by omega) (by omega) (by omega) (by omega)).trans w1_, (f25 _ _ (by omega) (by omega) (by omega) (by omega)).trans w0_⟩, fun D_ hD => ld1 D_ (by omega) _ (ld2 D_ (by omega) _ (ld3 D_ (by omega) _ (ld4 D_ (by omega) _ (r5_ D_ (by omega)))))⟩
/-- addEcho -/
theorem adEX {E_ : List eCo} {nw : Int32} {g_ : Nat} {h_ : xH} {c_ r_ t_ : Int32} (hE : E_.length < 10) (S_ : sHp h_) (X_ : EXc E_ nw g_ h_) : ∃ h', (ysm h_ h' ∧ ∀ u_ j_, ¬ (9 ≤ u_ ∧ u_ ≤ 14) → bpat h' u_ j_ = bpat h_ u_ j_) ∧ ((EXc (E_ ++ [(c_, (r_, t_))]) nw g_ h' ∧ ∀ u_ j_, (u_ = 10 ∨ (u_ = 12 ∨ u_ = 14)) → ¬ j_ = E_.length → bpat h' u_ j_ = bpat h_ u_ j_) ∧ ∀ D_, 60 ≤ D_ → xrun D_ 70 0 [(0, .index 1), (1, .int c_), (2, .int r_), (3, .int t_)] [] h_ (none, h', [])) := by
  obtain ⟨⟨a1_, a2⟩, ⟨b1, b2, b3⟩, c1_, y_, c2_, c3_⟩ := X_
  have z10 : (10 : Int32).toInt = 10 := rfl
  have iE := i32n (i_ := E_.length) (by omega)
  have tE_ : (Int32.ofNat E_.length).toInt.toNat = E_.length := i32t (by omega)
  have l1 : (E_.map (fun e_ => e_.1)).length = E_.length := List.length_map _
  have l2 : (E_.map (fun e_ => e_.2.1)).length = E_.length := List.length_map _
  have l3 : (E_.map (fun e_ => e_.2.2)).length = E_.length := List.length_map _
  have d1_ := b1.2.1.2
  have d2_ := b2.2.1.2
  have d3_ := b3.2.1.2
  rw [l1] at d1_
  rw [l2] at d2_
  rw [l3] at d3_
  obtain ⟨h1, m1_, w0_, w1_, w2_, w3_, w4_, w5, f1_, r1_⟩ := xadA (v1_ := c_) (v2 := r_) (v3 := t_) S_ d1_ d2_ d3_ ⟨by omega, by omega⟩ ⟨by omega, by omega⟩ ⟨by omega, by omega⟩ (by omega) (by omega) (by omega)
  rw [i32s] at w0_ w2_ w4_
  rw [tE_] at w1_ w3_ w5 f1_
  have F1_ : ∀ u_ j_, ¬ (9 ≤ u_ ∧ u_ ≤ 14) → bpat h1 u_ j_ = bpat h_ u_ j_ := fun u_ j_ q_ => f1_ u_ j_ (by omega) (by omega) (by omega) (by omega) (by omega) (by omega)
  refine ⟨h1, ⟨m1_, F1_⟩, ⟨⟨⟨(F1_ _ _ (by omega)).trans a1_, (F1_ _ _ (by omega)).trans a2⟩, ⟨?_, ?_, ?_⟩, (F1_ _ _ (by omega)).trans c1_, y_, c2_, (F1_ _ _ (by omega)).trans c3_⟩, fun u_ j_ hu hj => f1_ u_ j_ (by omega) (by omega) (by omega) (by omega) (by omega) (by omega)⟩, r1_⟩
  · rw [List.map_append]
    exact rwx_ad3 b1 (by omega) m1_ (by rw [l1]; exact w4_) (by rw [l1]; exact w5) (f1_ _ _ (by omega) (by omega) (by omega) (by omega) (by omega) (by omega)) (fun j_ hj => f1_ _ _ (by omega) (by omega) (by omega) (by omega) (by omega) (by omega))
  · rw [List.map_append]
    exact rwx_ad3 b2 (by omega) m1_ (by rw [l2]; exact w2_) (by rw [l2]; exact w3_) (f1_ _ _ (by omega) (by omega) (by omega) (by omega) (by omega) (by omega)) (fun j_ hj => f1_ _ _ (by omega) (by omega) (by omega) (by omega) (by omega) (by omega))
  · rw [List.map_append]
    exact rwx_ad3 b3 (by omega) m1_ (by rw [l3]; exact w0_) (by rw [l3]; exact w1_) (f1_ _ _ (by omega) (by omega) (by omega) (by omega) (by omega) (by omega)) (fun j_ hj => f1_ _ _ (by omega) (by omega) (by omega) (by omega) (by omega) (by omega))
end
