-- ===== TOLD, the class
-- tb0: 28 steps, 1 ends, 0 returns
def tb0_L : List (Nat × Nat × Nat) := [(1000, 6, 2), (1001, 20, 12)]
def tb0_O : yO := [(1, .int 2, .index 4), (4, .int 0, .index 66), (66, .int 0, .index 67), (67, .int 1, .arg 310), (1, .int 14, .index 33), (1000, .int 1, .arg 300)]
def tb0_A : yA := (yZ tb0_L, [], [], [], [])
def tb0_C : List xB := [(.le, .arg 310, .int 0, false)]
def tb0_ss : List yS := [(35, [(4, .int 0), (3, .index 66), (0, .index 1), (1, .index 1000), (2, .arg 2)], [], [(33, .int 3, .arg 2), (33, .int 2, .arg 300), (1, .int 2, .index 4), (4, .int 0, .index 66), (66, .int 0, .index 67), (67, .int 1, .arg 310), (1, .int 14, .index 33), (1000, .int 1, .arg 300)], [(.le, .arg 310, .int 0, false)], [(33, .int 3), (33, .int 2)])]
def tb0_rs : List yR := []
theorem tb0_w : ywa tb0_A tb0_ss tb0_rs = true := by decide +kernel
theorem tb0_k : yis (yev tb0_A 3000 60 67 [35] (0, [(0, .index 1), (1, .index 1000), (2, .arg 2)], [], tb0_O, tb0_C, [])) tb0_ss tb0_rs = true := by decide +kernel
def tb0_r (v2 v300 v310 : Int32) (k_ : Nat) : Value := bif Nat.beq k_ 2 then .int v2 else (bif Nat.beq k_ 300 then .int v300 else (bif Nat.beq k_ 310 then .int v310 else (.int 0)))
def tb0_s (a1000 a1001 : Nat) (n_ : Nat) : Nat := bif Nat.beq n_ 1000 then a1000 else (bif Nat.beq n_ 1001 then a1001 else (0))
theorem tb0 {h_ : xH} {a1000 a1001 : Nat} {v2 v300 v310 : Int32} (hs : sHp h_) (k1000 : bcq h_ a1000 6 2) (k1001 : bcq h_ a1001 20 12) (o0_ : bpat h_ 67 1 = some (.int v310)) (o1 : bpat h_ a1000 1 = some (.int v300)) (c0_ : (0 : Int32).toInt < v310.toInt) : ∃ h', ysm h_ h' ∧ (((bpat h' 33 3 = some (.int v2)) ∧ (bpat h' 33 2 = some (.int v300)) ∧ (∀ a_ j_ : Nat, ¬ (a_ = 33 ∧ j_ = 3) → ¬ (a_ = 33 ∧ j_ = 2) → bpat h' a_ j_ = bpat h_ a_ j_) ∧ (bldD 60 67 0 [(0, .index 1), (1, .index a1000), (2, .int v2)] [] h_ 35 [(4, .int (0 : Int32)), (3, .index 66), (0, .index 1), (1, .index a1000), (2, .int v2)] [] h'))) := by
  have hA : yas tb0_A (tb0_r v2 v300 v310) (yg (tb0_s a1000 a1001)) := ⟨fun q_ hq => absurd hq List.not_mem_nil, fun q_ hq => absurd hq List.not_mem_nil, fun q_ hq => absurd hq List.not_mem_nil, fun n_ hn => yg_lo hn, fun q_ hq => absurd hq List.not_mem_nil⟩
  have Hs : ysh tb0_A.1 (yg (tb0_s a1000 a1001)) h_ := ysh_of2 hs (List.forall_mem_cons.mpr ⟨⟨by decide, k1000⟩, List.forall_mem_cons.mpr ⟨⟨by decide, k1001⟩, fun q_ hq => absurd hq List.not_mem_nil⟩⟩)
  have Ho : ymem (tb0_r v2 v300 v310) (yg (tb0_s a1000 a1001)) tb0_O h_ := List.forall_mem_cons.mpr ⟨bpat_some (fxr_at hs.2 (show fxk fxl 1 2 = some 4 by decide +kernel)), List.forall_mem_cons.mpr ⟨bpat_some (fxr_at hs.2 (show fxk fxl 4 0 = some 66 by decide +kernel)), List.forall_mem_cons.mpr ⟨bpat_some (fxr_at hs.2 (show fxk fxl 66 0 = some 67 by decide +kernel)), List.forall_mem_cons.mpr ⟨bpat_some o0_, List.forall_mem_cons.mpr ⟨bpat_some (fxr_at hs.2 (show fxk fxl 1 14 = some 33 by decide +kernel)), List.forall_mem_cons.mpr ⟨bpat_some o1, fun q_ hq => absurd hq List.not_mem_nil⟩⟩⟩⟩⟩⟩
  have HC : ∀ q_ ∈ tb0_C, xhold (tb0_r v2 v300 v310) q_ := List.forall_mem_cons.mpr ⟨xh_leF c0_, fun q_ hq => absurd hq List.not_mem_nil⟩
  rcases yrun (yis_ok tb0_k) hA Hs Ho HC with ⟨q_, hq, h', K_, G_⟩ | ⟨q_, hq, h', K_, G_⟩
  · have e_ := List.mem_singleton.mp hq
    subst e_
    exact ⟨h', yfr_sm K_.2.2.2 hs K_.1 (ywa_s tb0_w List.mem_cons_self), ⟨bpat_of (K_.2.1 _ List.mem_cons_self), bpat_of (K_.2.1 _ (List.mem_cons_of_mem _ List.mem_cons_self)), fun a_ j_ n0_ n1_ => yfr_bp K_.2.2.2 (List.forall_mem_cons.mpr ⟨fun e_ => n0_ ⟨e_.1.symm, e_.2.symm⟩, List.forall_mem_cons.mpr ⟨fun e_ => n1_ ⟨e_.1.symm, e_.2.symm⟩, fun q_ hq => absurd hq List.not_mem_nil⟩⟩), G_⟩⟩
  · cases hq
-- tbN: 15 steps, 0 ends, 1 returns
def tbN_L : List (Nat × Nat × Nat) := [(1000, 6, 2), (1001, 20, 12)]
def tbN_O : yO := [(1, .int 2, .index 4), (4, .int 0, .index 66), (66, .int 0, .index 67), (67, .int 1, .arg 310)]
def tbN_A : yA := (yZ tbN_L, [], [], [], [])
def tbN_C : List xB := [(.le, .arg 310, .int 0, true)]
def tbN_ss : List yS := []
def tbN_rs : List yR := [(none, [(1, .int 2, .index 4), (4, .int 0, .index 66), (66, .int 0, .index 67), (67, .int 1, .arg 310)], [(.le, .arg 310, .int 0, true)], [])]
theorem tbN_w : ywa tbN_A tbN_ss tbN_rs = true := by decide +kernel
theorem tbN_k : yis (yev tbN_A 3000 60 67 [35] (0, [(0, .index 1), (1, .index 1000), (2, .arg 2)], [], tbN_O, tbN_C, [])) tbN_ss tbN_rs = true := by decide +kernel
def tbN_r (v2 v310 : Int32) (k_ : Nat) : Value := bif Nat.beq k_ 2 then .int v2 else (bif Nat.beq k_ 310 then .int v310 else (.int 0))
def tbN_s (a1000 a1001 : Nat) (n_ : Nat) : Nat := bif Nat.beq n_ 1000 then a1000 else (bif Nat.beq n_ 1001 then a1001 else (0))
theorem tbN {h_ : xH} {a1000 a1001 : Nat} {v2 v310 : Int32} (hs : sHp h_) (k1000 : bcq h_ a1000 6 2) (k1001 : bcq h_ a1001 20 12) (o0_ : bpat h_ 67 1 = some (.int v310)) (c0_ : v310.toInt ≤ (0 : Int32).toInt) : ∃ h', ysm h_ h' ∧ (((∀ a_ j_ : Nat, bpat h' a_ j_ = bpat h_ a_ j_) ∧ (∀ D_, 60 ≤ D_ → xrun D_ 67 0 [(0, .index 1), (1, .index a1000), (2, .int v2)] [] h_ (none, h', [])))) := by
  have hA : yas tbN_A (tbN_r v2 v310) (yg (tbN_s a1000 a1001)) := ⟨fun q_ hq => absurd hq List.not_mem_nil, fun q_ hq => absurd hq List.not_mem_nil, fun q_ hq => absurd hq List.not_mem_nil, fun n_ hn => yg_lo hn, fun q_ hq => absurd hq List.not_mem_nil⟩
  have Hs : ysh tbN_A.1 (yg (tbN_s a1000 a1001)) h_ := ysh_of2 hs (List.forall_mem_cons.mpr ⟨⟨by decide, k1000⟩, List.forall_mem_cons.mpr ⟨⟨by decide, k1001⟩, fun q_ hq => absurd hq List.not_mem_nil⟩⟩)
  have Ho : ymem (tbN_r v2 v310) (yg (tbN_s a1000 a1001)) tbN_O h_ := List.forall_mem_cons.mpr ⟨bpat_some (fxr_at hs.2 (show fxk fxl 1 2 = some 4 by decide +kernel)), List.forall_mem_cons.mpr ⟨bpat_some (fxr_at hs.2 (show fxk fxl 4 0 = some 66 by decide +kernel)), List.forall_mem_cons.mpr ⟨bpat_some (fxr_at hs.2 (show fxk fxl 66 0 = some 67 by decide +kernel)), List.forall_mem_cons.mpr ⟨bpat_some o0_, fun q_ hq => absurd hq List.not_mem_nil⟩⟩⟩⟩
  have HC : ∀ q_ ∈ tbN_C, xhold (tbN_r v2 v310) q_ := List.forall_mem_cons.mpr ⟨xh_leT c0_, fun q_ hq => absurd hq List.not_mem_nil⟩
  rcases yrun (yis_ok tbN_k) hA Hs Ho HC with ⟨q_, hq, h', K_, G_⟩ | ⟨q_, hq, h', K_, G_⟩
  · cases hq
  · have e_ := List.mem_singleton.mp hq
    subst e_
    exact ⟨h', yfr_sm K_.2.2.2 hs K_.1 (ywa_r tbN_w List.mem_cons_self), ⟨fun a_ j_ => yfr_bp K_.2.2.2 (fun q_ hq => absurd hq List.not_mem_nil), G_⟩⟩
-- tb1: 23 steps, 1 ends, 0 returns
def tb1_L : List (Nat × Nat × Nat) := [(1000, 6, 2), (1001, 20, 12)]
def tb1_O : yO := [(1000, .int 1, .arg 300), (1, .int 14, .index 33), (1000, .int 0, .index 1001), (1001, .arg 4, .arg 301)]
def tb1_A : yA := (yZ tb1_L, [(.arg 4, 12)], [], [], [])
def tb1_C : List xB := [(.lt, .arg 4, .arg 300, true)]
def tb1_ss : List yS := [(76, [(4, .arg 4), (3, .index 66), (0, .index 1), (1, .index 1000), (2, .arg 2)], [.index 33, .index 66, .arg 4, .index 1001], [(33, .int 1, .arg 4), (33, .int 0, .arg 301), (1000, .int 1, .arg 300), (1, .int 14, .index 33), (1000, .int 0, .index 1001)], [(.lt, .arg 4, .arg 300, true)], [(33, .int 1), (33, .int 0)])]
def tb1_rs : List yR := []
theorem tb1_w : ywa tb1_A tb1_ss tb1_rs = true := by decide +kernel
theorem tb1_k : yis (yev tb1_A 3000 60 67 [76] (35, [(4, .arg 4), (3, .index 66), (0, .index 1), (1, .index 1000), (2, .arg 2)], [], tb1_O, tb1_C, [])) tb1_ss tb1_rs = true := by decide +kernel
def tb1_r (v2 v4_ v300 v301 : Int32) (k_ : Nat) : Value := bif Nat.beq k_ 2 then .int v2 else (bif Nat.beq k_ 4 then .int v4_ else (bif Nat.beq k_ 300 then .int v300 else (bif Nat.beq k_ 301 then .int v301 else (.int 0))))
def tb1_s (a1000 a1001 : Nat) (n_ : Nat) : Nat := bif Nat.beq n_ 1000 then a1000 else (bif Nat.beq n_ 1001 then a1001 else (0))
theorem tb1 {h_ : xH} {a1000 a1001 : Nat} {v2 v4_ v300 v301 : Int32} (hs : sHp h_) (k1000 : bcq h_ a1000 6 2) (k1001 : bcq h_ a1001 20 12) (o0_ : bpat h_ a1000 1 = some (.int v300)) (o1 : bpat h_ a1000 0 = some (.index a1001)) (o2 : bpat h_ a1001 (v4_).toInt.toNat = some (.int v301)) (b0 : 0 ≤ (v4_).toInt ∧ (v4_).toInt < 12) (c0_ : v4_.toInt < v300.toInt) : ∃ h', ysm h_ h' ∧ (((bpat h' 33 1 = some (.int v4_)) ∧ (bpat h' 33 0 = some (.int v301)) ∧ (∀ a_ j_ : Nat, ¬ (a_ = 33 ∧ j_ = 1) → ¬ (a_ = 33 ∧ j_ = 0) → bpat h' a_ j_ = bpat h_ a_ j_) ∧ (bldD 60 67 35 [(4, .int v4_), (3, .index 66), (0, .index 1), (1, .index a1000), (2, .int v2)] [] h_ 76 [(4, .int v4_), (3, .index 66), (0, .index 1), (1, .index a1000), (2, .int v2)] [.index 33, .index 66, .int v4_, .index a1001] h'))) := by
  have hA : yas tb1_A (tb1_r v2 v4_ v300 v301) (yg (tb1_s a1000 a1001)) := ⟨List.forall_mem_cons.mpr ⟨b0, fun q_ hq => absurd hq List.not_mem_nil⟩, fun q_ hq => absurd hq List.not_mem_nil, fun q_ hq => absurd hq List.not_mem_nil, fun n_ hn => yg_lo hn, fun q_ hq => absurd hq List.not_mem_nil⟩
  have Hs : ysh tb1_A.1 (yg (tb1_s a1000 a1001)) h_ := ysh_of2 hs (List.forall_mem_cons.mpr ⟨⟨by decide, k1000⟩, List.forall_mem_cons.mpr ⟨⟨by decide, k1001⟩, fun q_ hq => absurd hq List.not_mem_nil⟩⟩)
  have Ho : ymem (tb1_r v2 v4_ v300 v301) (yg (tb1_s a1000 a1001)) tb1_O h_ := List.forall_mem_cons.mpr ⟨bpat_some o0_, List.forall_mem_cons.mpr ⟨bpat_some (fxr_at hs.2 (show fxk fxl 1 14 = some 33 by decide +kernel)), List.forall_mem_cons.mpr ⟨bpat_some o1, List.forall_mem_cons.mpr ⟨bpat_some o2, fun q_ hq => absurd hq List.not_mem_nil⟩⟩⟩⟩
  have HC : ∀ q_ ∈ tb1_C, xhold (tb1_r v2 v4_ v300 v301) q_ := List.forall_mem_cons.mpr ⟨xh_ltT c0_, fun q_ hq => absurd hq List.not_mem_nil⟩
  rcases yrun (yis_ok tb1_k) hA Hs Ho HC with ⟨q_, hq, h', K_, G_⟩ | ⟨q_, hq, h', K_, G_⟩
  · have e_ := List.mem_singleton.mp hq
    subst e_
    exact ⟨h', yfr_sm K_.2.2.2 hs K_.1 (ywa_s tb1_w List.mem_cons_self), ⟨bpat_of (K_.2.1 _ List.mem_cons_self), bpat_of (K_.2.1 _ (List.mem_cons_of_mem _ List.mem_cons_self)), fun a_ j_ n0_ n1_ => yfr_bp K_.2.2.2 (List.forall_mem_cons.mpr ⟨fun e_ => n0_ ⟨e_.1.symm, e_.2.symm⟩, List.forall_mem_cons.mpr ⟨fun e_ => n1_ ⟨e_.1.symm, e_.2.symm⟩, fun q_ hq => absurd hq List.not_mem_nil⟩⟩), G_⟩⟩
  · cases hq
-- tb2: 4 steps, 1 ends, 0 returns
def tb2_L : List (Nat × Nat × Nat) := [(1000, 6, 2), (1001, 20, 12)]
def tb2_O : yO := []
def tb2_A : yA := (yZ tb2_L, [(.arg 4, 12)], [], [], [(132, [.arg 330], .arg 331)])
def tb2_C : List xB := []
def tb2_ss : List yS := [(35, [(4, .add (.arg 4) (.int 1)), (3, .index 66), (0, .index 1), (1, .index 1000), (2, .arg 2)], [], [(1001, .arg 4, .arg 331)], [], [(1001, .arg 4)])]
def tb2_rs : List yR := []
theorem tb2_w : ywa tb2_A tb2_ss tb2_rs = true := by decide +kernel
theorem tb2_k : yis (yev tb2_A 3000 60 67 [35] (79, [(4, .arg 4), (3, .index 66), (0, .index 1), (1, .index 1000), (2, .arg 2)], [.arg 330, .arg 4, .index 1001], tb2_O, tb2_C, [])) tb2_ss tb2_rs = true := by decide +kernel
def tb2_r (v2 v4_ v330 v331 : Int32) (k_ : Nat) : Value := bif Nat.beq k_ 2 then .int v2 else (bif Nat.beq k_ 4 then .int v4_ else (bif Nat.beq k_ 330 then .int v330 else (bif Nat.beq k_ 331 then .int v331 else (.int 0))))
def tb2_s (a1000 a1001 : Nat) (n_ : Nat) : Nat := bif Nat.beq n_ 1000 then a1000 else (bif Nat.beq n_ 1001 then a1001 else (0))
theorem tb2 {h_ : xH} {a1000 a1001 : Nat} {v2 v4_ v330 v331 : Int32} (hs : sHp h_) (k1000 : bcq h_ a1000 6 2) (k1001 : bcq h_ a1001 20 12) (b0 : 0 ≤ (v4_).toInt ∧ (v4_).toInt < 12) (p0_ : ∀ (h_ : xH) (D_ : Nat), 5 ≤ D_ → xrun D_ 132 0 [(0, .int v330)] [] h_ (some (.int v331), h_, [])) : ∃ h', ysm h_ h' ∧ (((bpat h' a1001 (v4_).toInt.toNat = some (.int v331)) ∧ (∀ a_ j_ : Nat, ¬ (a_ = a1001 ∧ j_ = (v4_).toInt.toNat) → bpat h' a_ j_ = bpat h_ a_ j_) ∧ (bldD 60 67 79 [(4, .int v4_), (3, .index 66), (0, .index 1), (1, .index a1000), (2, .int v2)] [.int v330, .int v4_, .index a1001] h_ 35 [(4, .int (v4_ + (1 : Int32))), (3, .index 66), (0, .index 1), (1, .index a1000), (2, .int v2)] [] h'))) := by
  have hA : yas tb2_A (tb2_r v2 v4_ v330 v331) (yg (tb2_s a1000 a1001)) := ⟨List.forall_mem_cons.mpr ⟨b0, fun q_ hq => absurd hq List.not_mem_nil⟩, fun q_ hq => absurd hq List.not_mem_nil, fun q_ hq => absurd hq List.not_mem_nil, fun n_ hn => yg_lo hn, List.forall_mem_cons.mpr ⟨p0_, fun q_ hq => absurd hq List.not_mem_nil⟩⟩
  have Hs : ysh tb2_A.1 (yg (tb2_s a1000 a1001)) h_ := ysh_of2 hs (List.forall_mem_cons.mpr ⟨⟨by decide, k1000⟩, List.forall_mem_cons.mpr ⟨⟨by decide, k1001⟩, fun q_ hq => absurd hq List.not_mem_nil⟩⟩)
  have Ho : ymem (tb2_r v2 v4_ v330 v331) (yg (tb2_s a1000 a1001)) tb2_O h_ := fun q_ hq => absurd hq List.not_mem_nil
  have HC : ∀ q_ ∈ tb2_C, xhold (tb2_r v2 v4_ v330 v331) q_ := fun q_ hq => absurd hq List.not_mem_nil
  rcases yrun (yis_ok tb2_k) hA Hs Ho HC with ⟨q_, hq, h', K_, G_⟩ | ⟨q_, hq, h', K_, G_⟩
  · have e_ := List.mem_singleton.mp hq
    subst e_
    exact ⟨h', yfr_sm K_.2.2.2 hs K_.1 (ywa_s tb2_w List.mem_cons_self), ⟨bpat_of (K_.2.1 _ List.mem_cons_self), fun a_ j_ n0_ => yfr_bp K_.2.2.2 (List.forall_mem_cons.mpr ⟨fun e_ => n0_ ⟨e_.1.symm, e_.2.symm⟩, fun q_ hq => absurd hq List.not_mem_nil⟩), G_⟩⟩
  · cases hq
-- tbX: 5 steps, 0 ends, 1 returns
def tbX_L : List (Nat × Nat × Nat) := [(1000, 6, 2), (1001, 20, 12)]
def tbX_O : yO := [(1000, .int 1, .arg 300)]
def tbX_A : yA := (yZ tbX_L, [], [], [], [])
def tbX_C : List xB := [(.lt, .arg 4, .arg 300, false)]
def tbX_ss : List yS := []
def tbX_rs : List yR := [(none, [(1000, .int 1, .arg 300)], [(.lt, .arg 4, .arg 300, false)], [])]
theorem tbX_w : ywa tbX_A tbX_ss tbX_rs = true := by decide +kernel
theorem tbX_k : yis (yev tbX_A 3000 60 67 [] (35, [(4, .arg 4), (3, .index 66), (0, .index 1), (1, .index 1000), (2, .arg 2)], [], tbX_O, tbX_C, [])) tbX_ss tbX_rs = true := by decide +kernel
def tbX_r (v2 v4_ v300 : Int32) (k_ : Nat) : Value := bif Nat.beq k_ 2 then .int v2 else (bif Nat.beq k_ 4 then .int v4_ else (bif Nat.beq k_ 300 then .int v300 else (.int 0)))
def tbX_s (a1000 a1001 : Nat) (n_ : Nat) : Nat := bif Nat.beq n_ 1000 then a1000 else (bif Nat.beq n_ 1001 then a1001 else (0))
theorem tbX {h_ : xH} {a1000 a1001 : Nat} {v2 v4_ v300 : Int32} (hs : sHp h_) (k1000 : bcq h_ a1000 6 2) (k1001 : bcq h_ a1001 20 12) (o0_ : bpat h_ a1000 1 = some (.int v300)) (c0_ : v300.toInt ≤ v4_.toInt) : ∃ h', ysm h_ h' ∧ (((∀ a_ j_ : Nat, bpat h' a_ j_ = bpat h_ a_ j_) ∧ (∀ D_, 60 ≤ D_ → xrun D_ 67 35 [(4, .int v4_), (3, .index 66), (0, .index 1), (1, .index a1000), (2, .int v2)] [] h_ (none, h', [])))) := by
  have hA : yas tbX_A (tbX_r v2 v4_ v300) (yg (tbX_s a1000 a1001)) := ⟨fun q_ hq => absurd hq List.not_mem_nil, fun q_ hq => absurd hq List.not_mem_nil, fun q_ hq => absurd hq List.not_mem_nil, fun n_ hn => yg_lo hn, fun q_ hq => absurd hq List.not_mem_nil⟩
  have Hs : ysh tbX_A.1 (yg (tbX_s a1000 a1001)) h_ := ysh_of2 hs (List.forall_mem_cons.mpr ⟨⟨by decide, k1000⟩, List.forall_mem_cons.mpr ⟨⟨by decide, k1001⟩, fun q_ hq => absurd hq List.not_mem_nil⟩⟩)
  have Ho : ymem (tbX_r v2 v4_ v300) (yg (tbX_s a1000 a1001)) tbX_O h_ := List.forall_mem_cons.mpr ⟨bpat_some o0_, fun q_ hq => absurd hq List.not_mem_nil⟩
  have HC : ∀ q_ ∈ tbX_C, xhold (tbX_r v2 v4_ v300) q_ := List.forall_mem_cons.mpr ⟨xh_ltF c0_, fun q_ hq => absurd hq List.not_mem_nil⟩
  rcases yrun (yis_ok tbX_k) hA Hs Ho HC with ⟨q_, hq, h', K_, G_⟩ | ⟨q_, hq, h', K_, G_⟩
  · cases hq
  · have e_ := List.mem_singleton.mp hq
    subst e_
    exact ⟨h', yfr_sm K_.2.2.2 hs K_.1 (ywa_r tbX_w List.mem_cons_self), ⟨fun a_ j_ => yfr_bp K_.2.2.2 (fun q_ hq => absurd hq List.not_mem_nil), G_⟩⟩
/-- the text of TURNS, as the class has it -/
def txb (h_ : xH) (xs : List Int32) : Prop := bpat h_ 67 1 = some (.int (Int32.ofNat xs.length)) ∧ ∀ j_ x_, xs[j_]? = some x_ → bpat h_ 68 j_ = some (.int x_)
def nm4 (a_ b_ c_ d_ : Int32) (j_ : Nat) : Int32 := if j_ = 0 then a_ else if j_ = 1 then b_ else if j_ = 2 then c_ else d_
def evr (nm : Nat → Int32) (xs : List Int32) : Int32 := ((evl nm xs []).getD []).getLastD 0
/-- it can be worked out, by whatever names -/
def evk (xs : List Int32) : Prop := ∀ nm, ∃ s_, evl nm xs [] = some s_ ∧ ¬ s_ = []
def tdf (xs : List Int32) (n_ m_ : Int32) (j_ : Nat) (x_ : Int32) : Int32 := puZ_F (evr (nm4 x_ (Int32.ofNat j_) n_ m_) xs)
def frt (b_ : Nat) (h_ h' : xH) : Prop := ysm h_ h' ∧ ∀ c_ j_, ¬ c_ = b_ → ¬ c_ = 33 → ¬ c_ = 69 → bpat h' c_ j_ = bpat h_ c_ j_
theorem frt_tr {b_ : Nat} (x_ y_ z_ : xH) (h1 : frt b_ x_ y_) (h2 : frt b_ y_ z_) : frt b_ x_ z_ := ⟨ysm_tr h1.1 h2.1, fun c_ j_ n1_ n2_ n3_ => (h2.2 c_ j_ n1_ n2_ n3_).trans (h1.2 c_ j_ n1_ n2_ n3_)⟩
def eRt (d_ mi pc : Nat) (lo_ : xL) (h_ h' : xH) : Prop := ∀ D_, d_ ≤ D_ → xrun D_ mi pc lo_ [] h_ (none, h', [])
theorem eRt_led {d_ mi pc : Nat} (lo_ lo' : xL) (h_ h1 h2 : xH) (l : bldD d_ mi pc lo_ [] h_ pc lo' [] h1) (e_ : eRt d_ mi pc lo' h1 h2) : eRt d_ mi pc lo_ h_ h2 := fun D_ hD => l D_ hD _ (e_ D_ hD)
theorem rwx_set2 {h_ h' : xH} {a_ b_ m_ i_ : Nat} {l : List Int32} {y_ : Int32} (R_ : rwx h_ a_ b_ m_ l) (hm_ : ysm h_ h') (hi_ : i_ < l.length) (e_ : bpat h' b_ i_ = some (.int y_)) (fa : ∀ j_, bpat h' a_ j_ = bpat h_ a_ j_) (fb : ∀ j_, ¬ j_ = i_ → bpat h' b_ j_ = bpat h_ b_ j_) : rwx h' a_ b_ m_ (l.set i_ y_) := by
  obtain ⟨⟨R1, R2⟩, ⟨R3, R4⟩, R5, R6⟩ := R_
  refine ⟨⟨hm_.2 _ _ _ R1, hm_.2 _ _ _ R2⟩, ⟨(fa 0).trans R3, ?_⟩, ?_, fun j_ x_ hx => ?_⟩
  · rw [List.length_set]
    exact (fa 1).trans R4
  · rw [List.length_set]
    exact R5
  · by_cases q_ : j_ = i_
    · subst q_
      rw [List.getElem?_set_self hi_] at hx
      cases hx
      exact e_
    · rw [List.getElem?_set_ne (fun z_ => q_ z_.symm)] at hx
      exact (fb j_ q_).trans (R6 j_ x_ hx)
/-- TOLD's text over a row, the class -/
theorem turnByText {a_ b_ : Nat} {m_ : Int32} {l xs : List Int32} {h_ : xH} (n1_ : ¬ b_ = 33) (n2_ : ¬ b_ = 68) (n3_ : ¬ b_ = 69) (R_ : rW a_ b_ h_ l) (T : txb h_ xs) (hl : xs.length ≤ 60) (hx : ∀ x_ ∈ xs, okx x_) (K_ : ¬ xs = [] → evk xs) : ∃ h', rW a_ b_ h' (if xs = [] then l else mpf (tdf xs (Int32.ofNat l.length) m_) 0 l) ∧ frt b_ h_ h' ∧ ∀ D_, 62 ≤ D_ → xrun D_ 67 0 [(0, .index 1), (1, .index a_), (2, .int m_)] [] h_ (none, h', []) := by
  obtain ⟨Rs_, ⟨⟨R1, R2⟩, ⟨R3, R4⟩, R5, R6⟩, R7⟩ := R_
  have z0 : (0 : Int32).toInt = 0 := rfl
  by_cases hn : xs = []
  · rw [if_pos hn]
    obtain ⟨h', m1_, f1_, r1_⟩ := tbN (v2 := m_) Rs_ R1 R2 T.1 (by rw [hn]; exact Int.le_refl _)
    exact ⟨h', rW_all ⟨Rs_, ⟨⟨R1, R2⟩, ⟨R3, R4⟩, R5, R6⟩, R7⟩ m1_ f1_, ⟨m1_, fun c_ j_ _ _ _ => f1_ c_ j_⟩, fun D_ hD => r1_ D_ (by omega)⟩
  · rw [if_neg hn]
    have pl : 0 < xs.length := List.length_pos_iff.mpr hn
    obtain ⟨h0, m0_, e3_, e2_, f0_, ld0⟩ := tb0 (v2 := m_) Rs_ R1 R2 T.1 R4 (by rw [z0, i32n (by omega)]; omega)
    have fb : ∀ c_ j_, ¬ c_ = 33 → bpat h0 c_ j_ = bpat h_ c_ j_ := fun c_ j_ n_ => f0_ c_ j_ (fun q_ => n_ q_.1) (fun q_ => n_ q_.1)
    have hw : ∀ c_, bcq h_ c_ 6 2 → ¬ c_ = 33 := fun c_ q_ => bcq_ne q_ (bcq_of (n_ := 33) (z_ := (20, 4)) Rs_ rfl) (by decide)
    have R0_ : rW a_ b_ h0 l := ⟨m0_.1, rwx_keep ⟨⟨R1, R2⟩, ⟨R3, R4⟩, R5, R6⟩ m0_ (fun c_ j_ q_ => fb c_ j_ (by
      rcases q_ with rfl | rfl
      · exact hw _ R1
      · exact n1_)), R7⟩
    have T0_ : txb h0 xs := ⟨(fb _ _ (by omega)).trans T.1, fun j_ x_ q_ => (fb _ _ (by omega)).trans (T.2 j_ x_ q_)⟩
    obtain ⟨h', ⟨R', -, -⟩, F', E'_⟩ := map_loop (mi := 67) (pc := 35) (d_ := 1) (dp := 62) (HD := fun i_ lo_ => i_ ≤ 14 ∧ lo_ = [(4, .int (Int32.ofNat i_)), (3, .index 66), (0, .index 1), (1, .index a_), (2, .int m_)]) (RW := fun h_ l' => rW a_ b_ h_ l' ∧ (txb h_ xs ∧ (bpat h_ 33 2 = some (.int (Int32.ofNat l.length)) ∧ bpat h_ 33 3 = some (.int m_)))) (FR := frt b_) (f_ := tdf xs (Int32.ofNat l.length) m_) (E_ := eRt 62 67 35) (by omega) (fun i_ lo_ H_ e_ y_ h1 h2 => by omega) frt_tr eRt_led (by
      intro i_ l' h_ lo_ x_ R_ hx' H_
      obtain ⟨hb_, rfl⟩ := H_
      obtain ⟨⟨Rs_, ⟨⟨R1, R2⟩, ⟨R3, R4⟩, R5, R6⟩, R7⟩, T, N2, N3⟩ := R_
      have hi_ := (List.getElem?_eq_some_iff.mp hx').1
      have e6_ : bpat h_ b_ (Int32.ofNat i_).toInt.toNat = some (.int x_) := by
        rw [i32t (by omega)]
        exact R6 i_ x_ hx'
      have bi : 0 ≤ (Int32.ofNat i_).toInt ∧ (Int32.ofNat i_).toInt < 12 := by
        rw [i32n (by omega)]
        omega
      obtain ⟨h1, m1_, g1, g0, f1_, ld1⟩ := tb1 (v2 := m_) Rs_ R1 R2 R4 R3 e6_ bi (by rw [i32n (by omega), i32n (by omega)]; omega)
      have fc_ : ∀ c_ j_, ¬ c_ = 33 → bpat h1 c_ j_ = bpat h_ c_ j_ := fun c_ j_ n_ => f1_ c_ j_ (fun q_ => n_ q_.1) (fun q_ => n_ q_.1)
      have X1 : txw h1 66 67 68 69 33 (nm4 x_ (Int32.ofNat i_) (Int32.ofNat l.length) m_) xs := by
        refine ⟨⟨m1_.1, ⟨bcq_of (n_ := 66) (z_ := (9, 2)) m1_.1 rfl, bcq_of (n_ := 67) (z_ := (6, 2)) m1_.1 rfl⟩, bcq_of (n_ := 68) (z_ := (20, 60)) m1_.1 rfl, bcq_of (n_ := 69) (z_ := (20, 60)) m1_.1 rfl, bcq_of (n_ := 33) (z_ := (20, 4)) m1_.1 rfl⟩, ⟨⟨fxr_at m1_.1.2 (by decide +kernel), fxr_at m1_.1.2 (by decide +kernel)⟩, fxr_at m1_.1.2 (by decide +kernel), (fc_ _ _ (by omega)).trans T.1⟩, fun j_ y_ q_ => (fc_ _ _ (by omega)).trans (T.2 j_ y_ q_), fun j_ hj => ?_⟩
        rcases (show j_ = 0 ∨ j_ = 1 ∨ j_ = 2 ∨ j_ = 3 by omega) with rfl | rfl | rfl | rfl
        · exact g0
        · exact g1
        · exact (f1_ 33 2 (by omega) (by omega)).trans N2
        · exact (f1_ 33 3 (by omega) (by omega)).trans N3
      obtain ⟨s_, es, ns⟩ := K_ hn (nm4 x_ (Int32.ofNat i_) (Int32.ofNat l.length) m_)
      obtain ⟨h2, F2, r2⟩ := workOut (by omega) (by omega) hx hl X1 es ns
      have er : s_.getLastD 0 = evr (nm4 x_ (Int32.ofNat i_) (Int32.ofNat l.length) m_) xs := by
        unfold evr
        rw [es]
        rfl
      rw [er] at r2
      have A1 := m1_.2 _ _ _ R1
      have B1 := m1_.2 _ _ _ R2
      have L1 : ∀ n_, n_ < 338 → n_ < h1.length := fun n_ hn' => by
        have q_ := bcq_lt (bcq_of (n_ := 338) (z_ := (12, 26)) m1_.1 rfl)
        omega
      have c2_ := ycv (mi := 67) (pc := 76) (cm := 59) (lo_ := [(4, .int (Int32.ofNat i_)), (3, .index 66), (0, .index 1), (1, .index a_), (2, .int m_)]) (st_ := [.index 33, .index 66, .int (Int32.ofNat i_), .index b_]) (as_ := [.index 33]) (s' := [.int (Int32.ofNat i_), .index b_]) rfl rfl (bcq_of (n_ := 66) (z_ := (9, 2)) m1_.1 rfl) rfl (xcc_l (List.forall_mem_cons.mpr ⟨rfl, List.forall_mem_cons.mpr ⟨xidx_i (L1 66 (by omega)), List.forall_mem_cons.mpr ⟨xidx_i (L1 1 (by omega)), List.forall_mem_cons.mpr ⟨xidx_i (bcq_lt A1), List.forall_mem_cons.mpr ⟨rfl, fun q_ hq => absurd hq List.not_mem_nil⟩⟩⟩⟩⟩) (List.forall_mem_cons.mpr ⟨⟨rfl, rfl⟩, List.forall_mem_cons.mpr ⟨⟨xidx_i (bcq_lt B1), rfl⟩, fun q_ hq => absurd hq List.not_mem_nil⟩⟩) (by show 2 ≤ 6; omega)) r2
      obtain ⟨h3, m3_, e3_, f3_, ld3⟩ := tb2 (v2 := m_) F2.1.1 (F2.1.2 _ _ _ A1) (F2.1.2 _ _ _ B1) bi (puZ (evr (nm4 x_ (Int32.ofNat i_) (Int32.ofNat l.length) m_) xs))
      rw [i32t (by omega)] at e3_ f3_
      rw [i32s] at ld3
      have na : ¬ a_ = b_ := bcq_ne R1 R2 (by decide)
      have na33 : ¬ a_ = 33 := bcq_ne R1 (bcq_of (n_ := 33) (z_ := (20, 4)) Rs_ rfl) (by decide)
      have na69 : ¬ a_ = 69 := bcq_ne R1 (bcq_of (n_ := 69) (z_ := (20, 60)) Rs_ rfl) (by decide)
      have all : ∀ c_ j_, ¬ c_ = 33 → ¬ c_ = 69 → ¬ (c_ = b_ ∧ j_ = i_) → bpat h3 c_ j_ = bpat h_ c_ j_ := fun c_ j_ q1_ q2_ q3_ => (f3_ c_ j_ q3_).trans ((F2.2 c_ j_ q2_).trans (fc_ c_ j_ q1_))
      have n67 : ¬ 67 = b_ := bcq_ne (bcq_of (n_ := 67) (z_ := (6, 2)) Rs_ rfl) R2 (by decide)
      have mm := ysm_tr m1_ (ysm_tr F2.1 m3_)
      have RW3 : rwx h3 a_ b_ 12 (l'.set i_ (tdf xs (Int32.ofNat l.length) m_ i_ x_)) := rwx_set2 ⟨⟨R1, R2⟩, ⟨R3, R4⟩, R5, R6⟩ mm hi_ e3_ (fun j_ => all a_ j_ na33 na69 (fun z_ => na z_.1)) (fun j_ nj => all b_ j_ n1_ n3_ (fun z_ => nj z_.2))
      have T3 : txb h3 xs := ⟨(all 67 1 (by omega) (by omega) (fun z_ => n67 z_.1)).trans T.1, fun j_ y_ q_ => (all 68 j_ (by omega) (by omega) (fun z_ => n2_ z_.1.symm)).trans (T.2 j_ y_ q_)⟩
      have N2' : bpat h3 33 2 = some (.int (Int32.ofNat l.length)) := (f3_ 33 2 (fun z_ => n1_ z_.1.symm)).trans ((F2.2 33 2 (by omega)).trans ((f1_ 33 2 (by omega) (by omega)).trans N2))
      have N3' : bpat h3 33 3 = some (.int m_) := (f3_ 33 3 (fun z_ => n1_ z_.1.symm)).trans ((F2.2 33 3 (by omega)).trans ((f1_ 33 3 (by omega) (by omega)).trans N3))
      exact ⟨h3, _, ⟨⟨m3_.1, RW3, by rw [List.length_set]; exact R7⟩, T3, N2', N3'⟩, ⟨mm, fun c_ j_ q1_ q2_ q3_ => all c_ j_ q2_ q3_ (fun z_ => q1_ z_.1)⟩, ⟨by omega, rfl⟩, fun D_ hD o z_ => ld1 D_ (by omega) o (c2_ D_ (by omega) o (ld3 D_ (by omega) o z_))⟩) (by
      intro i_ l' h_ lo_ R_ hl' H_
      obtain ⟨hb_, rfl⟩ := H_
      obtain ⟨R_, T, N_⟩ := R_
      obtain ⟨h1, m1_, f1_, r1_⟩ := tbX (v2 := m_) (v4_ := Int32.ofNat i_) R_.1 R_.2.1.1.1 R_.2.1.1.2 R_.2.1.2.1.2 (by rw [i32n (by omega), i32n (by omega)]; omega)
      exact ⟨h1, ⟨rW_all R_ m1_ f1_, ⟨(f1_ _ _).trans T.1, fun j_ y_ q_ => (f1_ _ _).trans (T.2 j_ y_ q_)⟩, (f1_ _ _).trans N_.1, (f1_ _ _).trans N_.2⟩, ⟨m1_, fun c_ j_ _ _ _ => f1_ c_ j_⟩, fun D_ hD => r1_ D_ (by omega)⟩) l.length 0 l h0 _ (by omega) ⟨R0_, T0_, e2_, e3_⟩ ⟨by omega, rfl⟩
    exact ⟨h', R', frt_tr _ _ _ ⟨m0_, fun c_ j_ _ q_ _ => fb c_ j_ q_⟩ F', fun D_ hD => ld0 D_ (by omega) _ (E'_ D_ hD)⟩
-- ===== TOLD, the reference
-- as0: 2 steps, 1 ends, 0 returns
def as0_L : List (Nat × Nat × Nat) := [(1001, 20, 13)]
def as0_O : yO := []
def as0_A : yA := (yZ as0_L, [], [], [], [])
def as0_C : List xB := []
def as0_ss : List yS := [(2, [(3, .int 1), (0, .index 338), (1, .index 1001), (2, .arg 2)], [], [], [], [])]
def as0_rs : List yR := []
theorem as0_w : ywa as0_A as0_ss as0_rs = true := by decide +kernel
theorem as0_k : yis (yev as0_A 3000 60 150 [2] (0, [(0, .index 338), (1, .index 1001), (2, .arg 2)], [], as0_O, as0_C, [])) as0_ss as0_rs = true := by decide +kernel
def as0_r (v2 : Int32) (k_ : Nat) : Value := bif Nat.beq k_ 2 then .int v2 else (.int 0)
def as0_s (a1001 : Nat) (n_ : Nat) : Nat := bif Nat.beq n_ 1001 then a1001 else (0)
theorem as0 {h_ : xH} {a1001 : Nat} {v2 : Int32} (hs : sHp h_) (k1001 : bcq h_ a1001 20 13) : ∃ h', ysm h_ h' ∧ (((∀ a_ j_ : Nat, bpat h' a_ j_ = bpat h_ a_ j_) ∧ (bldD 60 150 0 [(0, .index 338), (1, .index a1001), (2, .int v2)] [] h_ 2 [(3, .int (1 : Int32)), (0, .index 338), (1, .index a1001), (2, .int v2)] [] h'))) := by
  have hA : yas as0_A (as0_r v2) (yg (as0_s a1001)) := ⟨fun q_ hq => absurd hq List.not_mem_nil, fun q_ hq => absurd hq List.not_mem_nil, fun q_ hq => absurd hq List.not_mem_nil, fun n_ hn => yg_lo hn, fun q_ hq => absurd hq List.not_mem_nil⟩
  have Hs : ysh as0_A.1 (yg (as0_s a1001)) h_ := ysh_of2 hs (List.forall_mem_cons.mpr ⟨⟨by decide, k1001⟩, fun q_ hq => absurd hq List.not_mem_nil⟩)
  have Ho : ymem (as0_r v2) (yg (as0_s a1001)) as0_O h_ := fun q_ hq => absurd hq List.not_mem_nil
  have HC : ∀ q_ ∈ as0_C, xhold (as0_r v2) q_ := fun q_ hq => absurd hq List.not_mem_nil
  rcases yrun (yis_ok as0_k) hA Hs Ho HC with ⟨q_, hq, h', K_, G_⟩ | ⟨q_, hq, h', K_, G_⟩
  · have e_ := List.mem_singleton.mp hq
    subst e_
    exact ⟨h', yfr_sm K_.2.2.2 hs K_.1 (ywa_s as0_w List.mem_cons_self), ⟨fun a_ j_ => yfr_bp K_.2.2.2 (fun q_ hq => absurd hq List.not_mem_nil), G_⟩⟩
  · cases hq
-- as1_v0: 49 steps, 1 ends, 0 returns
def as1_v0_L : List (Nat × Nat × Nat) := [(1001, 20, 13)]
def as1_v0_O : yO := [(1001, .int 0, .arg 300), (338, .int 0, .index 339), (339, .int 434, .arg 310), (338, .int 12, .index 346), (1001, .arg 3, .arg 301)]
def as1_v0_A : yA := (yZ as1_v0_L, [(.arg 3, 13)], [], [], [])
def as1_v0_C : List xB := [(.le, .arg 3, .arg 300, true), (.le, .arg 310, .int 0, false)]
def as1_v0_ss : List yS := [(57, [(3, .arg 3), (0, .index 338), (1, .index 1001), (2, .arg 2)], [.int 0, .index 338], [(346, .int 109, .arg 2), (346, .int 110, .arg 300), (346, .int 105, .sub (.arg 3) (.int 1)), (346, .int 115, .arg 301), (1001, .int 0, .arg 300), (338, .int 0, .index 339), (339, .int 434, .arg 310), (338, .int 12, .index 346)], [(.le, .arg 3, .arg 300, true), (.le, .arg 310, .int 0, false)], [(346, .int 109), (346, .int 110), (346, .int 105), (346, .int 115)])]
def as1_v0_rs : List yR := []
theorem as1_v0_w : ywa as1_v0_A as1_v0_ss as1_v0_rs = true := by decide +kernel
theorem as1_v0_k : yis (yev as1_v0_A 3000 60 150 [57] (2, [(3, .arg 3), (0, .index 338), (1, .index 1001), (2, .arg 2)], [], as1_v0_O, as1_v0_C, [])) as1_v0_ss as1_v0_rs = true := by decide +kernel
def as1_v0_r (v2 v3 v300 v301 v310 : Int32) (k_ : Nat) : Value := bif Nat.beq k_ 2 then .int v2 else (bif Nat.beq k_ 3 then .int v3 else (bif Nat.beq k_ 300 then .int v300 else (bif Nat.beq k_ 301 then .int v301 else (bif Nat.beq k_ 310 then .int v310 else (.int 0)))))
def as1_v0_s (a1001 : Nat) (n_ : Nat) : Nat := bif Nat.beq n_ 1001 then a1001 else (0)
theorem as1_v0 {h_ : xH} {a1001 : Nat} {v2 v3 v300 v301 v310 : Int32} (hs : sHp h_) (k1001 : bcq h_ a1001 20 13) (o0_ : bpat h_ a1001 0 = some (.int v300)) (o1 : bpat h_ 339 434 = some (.int v310)) (o2 : bpat h_ a1001 (v3).toInt.toNat = some (.int v301)) (b0 : 0 ≤ (v3).toInt ∧ (v3).toInt < 13) (c0_ : v3.toInt ≤ v300.toInt) (c1_ : (0 : Int32).toInt < v310.toInt) : ∃ h', ysm h_ h' ∧ (((bpat h' 346 109 = some (.int v2)) ∧ (bpat h' 346 110 = some (.int v300)) ∧ (bpat h' 346 105 = some (.int (v3 - (1 : Int32)))) ∧ (bpat h' 346 115 = some (.int v301)) ∧ (∀ a_ j_ : Nat, ¬ (a_ = 346 ∧ j_ = 109) → ¬ (a_ = 346 ∧ j_ = 110) → ¬ (a_ = 346 ∧ j_ = 105) → ¬ (a_ = 346 ∧ j_ = 115) → bpat h' a_ j_ = bpat h_ a_ j_) ∧ (bldD 60 150 2 [(3, .int v3), (0, .index 338), (1, .index a1001), (2, .int v2)] [] h_ 57 [(3, .int v3), (0, .index 338), (1, .index a1001), (2, .int v2)] [.int (0 : Int32), .index 338] h'))) := by
  have hA : yas as1_v0_A (as1_v0_r v2 v3 v300 v301 v310) (yg (as1_v0_s a1001)) := ⟨List.forall_mem_cons.mpr ⟨b0, fun q_ hq => absurd hq List.not_mem_nil⟩, fun q_ hq => absurd hq List.not_mem_nil, fun q_ hq => absurd hq List.not_mem_nil, fun n_ hn => yg_lo hn, fun q_ hq => absurd hq List.not_mem_nil⟩
  have Hs : ysh as1_v0_A.1 (yg (as1_v0_s a1001)) h_ := ysh_of2 hs (List.forall_mem_cons.mpr ⟨⟨by decide, k1001⟩, fun q_ hq => absurd hq List.not_mem_nil⟩)
  have Ho : ymem (as1_v0_r v2 v3 v300 v301 v310) (yg (as1_v0_s a1001)) as1_v0_O h_ := List.forall_mem_cons.mpr ⟨bpat_some o0_, List.forall_mem_cons.mpr ⟨bpat_some (fxr_at hs.2 (show fxk fxl 338 0 = some 339 by decide +kernel)), List.forall_mem_cons.mpr ⟨bpat_some o1, List.forall_mem_cons.mpr ⟨bpat_some (fxr_at hs.2 (show fxk fxl 338 12 = some 346 by decide +kernel)), List.forall_mem_cons.mpr ⟨bpat_some o2, fun q_ hq => absurd hq List.not_mem_nil⟩⟩⟩⟩⟩
  have HC : ∀ q_ ∈ as1_v0_C, xhold (as1_v0_r v2 v3 v300 v301 v310) q_ := List.forall_mem_cons.mpr ⟨xh_leT c0_, List.forall_mem_cons.mpr ⟨xh_leF c1_, fun q_ hq => absurd hq List.not_mem_nil⟩⟩
  rcases yrun (yis_ok as1_v0_k) hA Hs Ho HC with ⟨q_, hq, h', K_, G_⟩ | ⟨q_, hq, h', K_, G_⟩
  · have e_ := List.mem_singleton.mp hq
    subst e_
    exact ⟨h', yfr_sm K_.2.2.2 hs K_.1 (ywa_s as1_v0_w List.mem_cons_self), ⟨bpat_of (K_.2.1 _ List.mem_cons_self), bpat_of (K_.2.1 _ (List.mem_cons_of_mem _ List.mem_cons_self)), bpat_of (K_.2.1 _ (List.mem_cons_of_mem _ (List.mem_cons_of_mem _ List.mem_cons_self))), bpat_of (K_.2.1 _ (List.mem_cons_of_mem _ (List.mem_cons_of_mem _ (List.mem_cons_of_mem _ List.mem_cons_self)))), fun a_ j_ n0_ n1_ n2_ n3_ => yfr_bp K_.2.2.2 (List.forall_mem_cons.mpr ⟨fun e_ => n0_ ⟨e_.1.symm, e_.2.symm⟩, List.forall_mem_cons.mpr ⟨fun e_ => n1_ ⟨e_.1.symm, e_.2.symm⟩, List.forall_mem_cons.mpr ⟨fun e_ => n2_ ⟨e_.1.symm, e_.2.symm⟩, List.forall_mem_cons.mpr ⟨fun e_ => n3_ ⟨e_.1.symm, e_.2.symm⟩, fun q_ hq => absurd hq List.not_mem_nil⟩⟩⟩⟩), G_⟩⟩
  · cases hq
-- asN_v0: 21 steps, 0 ends, 1 returns
def asN_v0_L : List (Nat × Nat × Nat) := [(1001, 20, 13)]
def asN_v0_O : yO := [(1001, .int 0, .arg 300), (338, .int 0, .index 339), (339, .int 434, .arg 310)]
def asN_v0_A : yA := (yZ asN_v0_L, [(.arg 3, 13)], [], [], [])
def asN_v0_C : List xB := [(.le, .arg 3, .arg 300, true), (.le, .arg 310, .int 0, true)]
def asN_v0_ss : List yS := []
def asN_v0_rs : List yR := [(none, [(1001, .int 0, .arg 300), (338, .int 0, .index 339), (339, .int 434, .arg 310)], [(.le, .arg 3, .arg 300, true), (.le, .arg 310, .int 0, true)], [])]
theorem asN_v0_w : ywa asN_v0_A asN_v0_ss asN_v0_rs = true := by decide +kernel
theorem asN_v0_k : yis (yev asN_v0_A 3000 60 150 [57] (2, [(3, .arg 3), (0, .index 338), (1, .index 1001), (2, .arg 2)], [], asN_v0_O, asN_v0_C, [])) asN_v0_ss asN_v0_rs = true := by decide +kernel
def asN_v0_r (v2 v3 v300 v310 : Int32) (k_ : Nat) : Value := bif Nat.beq k_ 2 then .int v2 else (bif Nat.beq k_ 3 then .int v3 else (bif Nat.beq k_ 300 then .int v300 else (bif Nat.beq k_ 310 then .int v310 else (.int 0))))
def asN_v0_s (a1001 : Nat) (n_ : Nat) : Nat := bif Nat.beq n_ 1001 then a1001 else (0)
theorem asN_v0 {h_ : xH} {a1001 : Nat} {v2 v3 v300 v310 : Int32} (hs : sHp h_) (k1001 : bcq h_ a1001 20 13) (o0_ : bpat h_ a1001 0 = some (.int v300)) (o1 : bpat h_ 339 434 = some (.int v310)) (b0 : 0 ≤ (v3).toInt ∧ (v3).toInt < 13) (c0_ : v3.toInt ≤ v300.toInt) (c1_ : v310.toInt ≤ (0 : Int32).toInt) : ∃ h', ysm h_ h' ∧ (((∀ a_ j_ : Nat, bpat h' a_ j_ = bpat h_ a_ j_) ∧ (∀ D_, 60 ≤ D_ → xrun D_ 150 2 [(3, .int v3), (0, .index 338), (1, .index a1001), (2, .int v2)] [] h_ (none, h', [])))) := by
  have hA : yas asN_v0_A (asN_v0_r v2 v3 v300 v310) (yg (asN_v0_s a1001)) := ⟨List.forall_mem_cons.mpr ⟨b0, fun q_ hq => absurd hq List.not_mem_nil⟩, fun q_ hq => absurd hq List.not_mem_nil, fun q_ hq => absurd hq List.not_mem_nil, fun n_ hn => yg_lo hn, fun q_ hq => absurd hq List.not_mem_nil⟩
  have Hs : ysh asN_v0_A.1 (yg (asN_v0_s a1001)) h_ := ysh_of2 hs (List.forall_mem_cons.mpr ⟨⟨by decide, k1001⟩, fun q_ hq => absurd hq List.not_mem_nil⟩)
  have Ho : ymem (asN_v0_r v2 v3 v300 v310) (yg (asN_v0_s a1001)) asN_v0_O h_ := List.forall_mem_cons.mpr ⟨bpat_some o0_, List.forall_mem_cons.mpr ⟨bpat_some (fxr_at hs.2 (show fxk fxl 338 0 = some 339 by decide +kernel)), List.forall_mem_cons.mpr ⟨bpat_some o1, fun q_ hq => absurd hq List.not_mem_nil⟩⟩⟩
  have HC : ∀ q_ ∈ asN_v0_C, xhold (asN_v0_r v2 v3 v300 v310) q_ := List.forall_mem_cons.mpr ⟨xh_leT c0_, List.forall_mem_cons.mpr ⟨xh_leT c1_, fun q_ hq => absurd hq List.not_mem_nil⟩⟩
  rcases yrun (yis_ok asN_v0_k) hA Hs Ho HC with ⟨q_, hq, h', K_, G_⟩ | ⟨q_, hq, h', K_, G_⟩
  · cases hq
  · have e_ := List.mem_singleton.mp hq
    subst e_
    exact ⟨h', yfr_sm K_.2.2.2 hs K_.1 (ywa_r asN_v0_w List.mem_cons_self), ⟨fun a_ j_ => yfr_bp K_.2.2.2 (fun q_ hq => absurd hq List.not_mem_nil), G_⟩⟩
-- asX_v0: 6 steps, 0 ends, 1 returns
def asX_v0_L : List (Nat × Nat × Nat) := [(1001, 20, 13)]
def asX_v0_O : yO := [(1001, .int 0, .arg 300)]
def asX_v0_A : yA := (yZ asX_v0_L, [], [], [], [])
def asX_v0_C : List xB := [(.le, .arg 3, .arg 300, false)]
def asX_v0_ss : List yS := []
def asX_v0_rs : List yR := [(none, [(1001, .int 0, .arg 300)], [(.le, .arg 3, .arg 300, false)], [])]
theorem asX_v0_w : ywa asX_v0_A asX_v0_ss asX_v0_rs = true := by decide +kernel
theorem asX_v0_k : yis (yev asX_v0_A 3000 60 150 [57] (2, [(3, .arg 3), (0, .index 338), (1, .index 1001), (2, .arg 2)], [], asX_v0_O, asX_v0_C, [])) asX_v0_ss asX_v0_rs = true := by decide +kernel
def asX_v0_r (v2 v3 v300 : Int32) (k_ : Nat) : Value := bif Nat.beq k_ 2 then .int v2 else (bif Nat.beq k_ 3 then .int v3 else (bif Nat.beq k_ 300 then .int v300 else (.int 0)))
def asX_v0_s (a1001 : Nat) (n_ : Nat) : Nat := bif Nat.beq n_ 1001 then a1001 else (0)
theorem asX_v0 {h_ : xH} {a1001 : Nat} {v2 v3 v300 : Int32} (hs : sHp h_) (k1001 : bcq h_ a1001 20 13) (o0_ : bpat h_ a1001 0 = some (.int v300)) (c0_ : v300.toInt < v3.toInt) : ∃ h', ysm h_ h' ∧ (((∀ a_ j_ : Nat, bpat h' a_ j_ = bpat h_ a_ j_) ∧ (∀ D_, 60 ≤ D_ → xrun D_ 150 2 [(3, .int v3), (0, .index 338), (1, .index a1001), (2, .int v2)] [] h_ (none, h', [])))) := by
  have hA : yas asX_v0_A (asX_v0_r v2 v3 v300) (yg (asX_v0_s a1001)) := ⟨fun q_ hq => absurd hq List.not_mem_nil, fun q_ hq => absurd hq List.not_mem_nil, fun q_ hq => absurd hq List.not_mem_nil, fun n_ hn => yg_lo hn, fun q_ hq => absurd hq List.not_mem_nil⟩
  have Hs : ysh asX_v0_A.1 (yg (asX_v0_s a1001)) h_ := ysh_of2 hs (List.forall_mem_cons.mpr ⟨⟨by decide, k1001⟩, fun q_ hq => absurd hq List.not_mem_nil⟩)
  have Ho : ymem (asX_v0_r v2 v3 v300) (yg (asX_v0_s a1001)) asX_v0_O h_ := List.forall_mem_cons.mpr ⟨bpat_some o0_, fun q_ hq => absurd hq List.not_mem_nil⟩
  have HC : ∀ q_ ∈ asX_v0_C, xhold (asX_v0_r v2 v3 v300) q_ := List.forall_mem_cons.mpr ⟨xh_leF c0_, fun q_ hq => absurd hq List.not_mem_nil⟩
  rcases yrun (yis_ok asX_v0_k) hA Hs Ho HC with ⟨q_, hq, h', K_, G_⟩ | ⟨q_, hq, h', K_, G_⟩
  · cases hq
  · have e_ := List.mem_singleton.mp hq
    subst e_
    exact ⟨h', yfr_sm K_.2.2.2 hs K_.1 (ywa_r asX_v0_w List.mem_cons_self), ⟨fun a_ j_ => yfr_bp K_.2.2.2 (fun q_ hq => absurd hq List.not_mem_nil), G_⟩⟩
-- as2_v0: 15 steps, 2 ends, 0 returns
def as2_v0_L : List (Nat × Nat × Nat) := [(1001, 20, 13)]
def as2_v0_O : yO := []
def as2_v0_A : yA := (yZ as2_v0_L, [(.arg 3, 13)], [], [], [(142, [.arg 330], .arg 331)])
def as2_v0_C : List xB := []
def as2_v0_ss : List yS := [(2, [(3, .add (.arg 3) (.int 1)), (4, .arg 330), (0, .index 338), (1, .index 1001), (2, .arg 2)], [], [(1001, .arg 3, .int 60)], [(.eq, .arg 331, .int 0, true)], [(1001, .arg 3)]),
  (2, [(3, .add (.arg 3) (.int 1)), (4, .arg 330), (0, .index 338), (1, .index 1001), (2, .arg 2)], [], [(1001, .arg 3, .arg 330)], [(.eq, .arg 331, .int 0, false)], [(1001, .arg 3)])]
def as2_v0_rs : List yR := []
theorem as2_v0_w : ywa as2_v0_A as2_v0_ss as2_v0_rs = true := by decide +kernel
theorem as2_v0_k : yis (yev as2_v0_A 3000 60 150 [2] (60, [(3, .arg 3), (0, .index 338), (1, .index 1001), (2, .arg 2)], [.arg 330], as2_v0_O, as2_v0_C, [])) as2_v0_ss as2_v0_rs = true := by decide +kernel
def as2_v0_r (v2 v3 v330 v331 : Int32) (k_ : Nat) : Value := bif Nat.beq k_ 2 then .int v2 else (bif Nat.beq k_ 3 then .int v3 else (bif Nat.beq k_ 330 then .int v330 else (bif Nat.beq k_ 331 then .int v331 else (.int 0))))
def as2_v0_s (a1001 : Nat) (n_ : Nat) : Nat := bif Nat.beq n_ 1001 then a1001 else (0)
theorem as2_v0 {h_ : xH} {a1001 : Nat} {v2 v3 v330 v331 : Int32} (hs : sHp h_) (k1001 : bcq h_ a1001 20 13) (b0 : 0 ≤ (v3).toInt ∧ (v3).toInt < 13) (p0_ : ∀ (h_ : xH) (D_ : Nat), 5 ≤ D_ → xrun D_ 142 0 [(0, .int v330)] [] h_ (some (.int v331), h_, [])) : ∃ h', ysm h_ h' ∧ (((v331 = (0 : Int32)) ∧ (bpat h' a1001 (v3).toInt.toNat = some (.int (60 : Int32))) ∧ (∀ a_ j_ : Nat, ¬ (a_ = a1001 ∧ j_ = (v3).toInt.toNat) → bpat h' a_ j_ = bpat h_ a_ j_) ∧ (bldD 60 150 60 [(3, .int v3), (0, .index 338), (1, .index a1001), (2, .int v2)] [.int v330] h_ 2 [(3, .int (v3 + (1 : Int32))), (4, .int v330), (0, .index 338), (1, .index a1001), (2, .int v2)] [] h'))
  ∨ ((¬ v331 = (0 : Int32)) ∧ (bpat h' a1001 (v3).toInt.toNat = some (.int v330)) ∧ (∀ a_ j_ : Nat, ¬ (a_ = a1001 ∧ j_ = (v3).toInt.toNat) → bpat h' a_ j_ = bpat h_ a_ j_) ∧ (bldD 60 150 60 [(3, .int v3), (0, .index 338), (1, .index a1001), (2, .int v2)] [.int v330] h_ 2 [(3, .int (v3 + (1 : Int32))), (4, .int v330), (0, .index 338), (1, .index a1001), (2, .int v2)] [] h'))) := by
  have hA : yas as2_v0_A (as2_v0_r v2 v3 v330 v331) (yg (as2_v0_s a1001)) := ⟨List.forall_mem_cons.mpr ⟨b0, fun q_ hq => absurd hq List.not_mem_nil⟩, fun q_ hq => absurd hq List.not_mem_nil, fun q_ hq => absurd hq List.not_mem_nil, fun n_ hn => yg_lo hn, List.forall_mem_cons.mpr ⟨p0_, fun q_ hq => absurd hq List.not_mem_nil⟩⟩
  have Hs : ysh as2_v0_A.1 (yg (as2_v0_s a1001)) h_ := ysh_of2 hs (List.forall_mem_cons.mpr ⟨⟨by decide, k1001⟩, fun q_ hq => absurd hq List.not_mem_nil⟩)
  have Ho : ymem (as2_v0_r v2 v3 v330 v331) (yg (as2_v0_s a1001)) as2_v0_O h_ := fun q_ hq => absurd hq List.not_mem_nil
  have HC : ∀ q_ ∈ as2_v0_C, xhold (as2_v0_r v2 v3 v330 v331) q_ := fun q_ hq => absurd hq List.not_mem_nil
  rcases yrun (yis_ok as2_v0_k) hA Hs Ho HC with ⟨q_, hq, h', K_, G_⟩ | ⟨q_, hq, h', K_, G_⟩
  · rcases List.mem_cons.mp hq with e_ | hq
    · subst e_
      exact ⟨h', yfr_sm K_.2.2.2 hs K_.1 (ywa_s as2_v0_w List.mem_cons_self), Or.inl (⟨xq_eqT rfl rfl (K_.2.2.1 _ List.mem_cons_self), bpat_of (K_.2.1 _ List.mem_cons_self), fun a_ j_ n0_ => yfr_bp K_.2.2.2 (List.forall_mem_cons.mpr ⟨fun e_ => n0_ ⟨e_.1.symm, e_.2.symm⟩, fun q_ hq => absurd hq List.not_mem_nil⟩), G_⟩)⟩
    have e_ := List.mem_singleton.mp hq
    subst e_
    exact ⟨h', yfr_sm K_.2.2.2 hs K_.1 (ywa_s as2_v0_w (List.mem_cons_of_mem _ List.mem_cons_self)), Or.inr (⟨xq_eqF rfl rfl (K_.2.2.1 _ List.mem_cons_self), bpat_of (K_.2.1 _ List.mem_cons_self), fun a_ j_ n0_ => yfr_bp K_.2.2.2 (List.forall_mem_cons.mpr ⟨fun e_ => n0_ ⟨e_.1.symm, e_.2.symm⟩, fun q_ hq => absurd hq List.not_mem_nil⟩), G_⟩)⟩
  · cases hq
-- as1_v1: 49 steps, 1 ends, 0 returns
def as1_v1_L : List (Nat × Nat × Nat) := [(1001, 20, 13)]
def as1_v1_O : yO := [(1001, .int 0, .arg 300), (338, .int 0, .index 339), (339, .int 434, .arg 310), (338, .int 12, .index 346), (1001, .arg 3, .arg 301)]
def as1_v1_A : yA := (yZ as1_v1_L, [(.arg 3, 13)], [], [], [])
def as1_v1_C : List xB := [(.le, .arg 3, .arg 300, true), (.le, .arg 310, .int 0, false)]
def as1_v1_ss : List yS := [(57, [(3, .arg 3), (4, .arg 904), (0, .index 338), (1, .index 1001), (2, .arg 2)], [.int 0, .index 338], [(346, .int 109, .arg 2), (346, .int 110, .arg 300), (346, .int 105, .sub (.arg 3) (.int 1)), (346, .int 115, .arg 301), (1001, .int 0, .arg 300), (338, .int 0, .index 339), (339, .int 434, .arg 310), (338, .int 12, .index 346)], [(.le, .arg 3, .arg 300, true), (.le, .arg 310, .int 0, false)], [(346, .int 109), (346, .int 110), (346, .int 105), (346, .int 115)])]
def as1_v1_rs : List yR := []
theorem as1_v1_w : ywa as1_v1_A as1_v1_ss as1_v1_rs = true := by decide +kernel
theorem as1_v1_k : yis (yev as1_v1_A 3000 60 150 [57] (2, [(3, .arg 3), (4, .arg 904), (0, .index 338), (1, .index 1001), (2, .arg 2)], [], as1_v1_O, as1_v1_C, [])) as1_v1_ss as1_v1_rs = true := by decide +kernel
def as1_v1_r (v2 v3 v300 v301 v310 v904 : Int32) (k_ : Nat) : Value := bif Nat.beq k_ 2 then .int v2 else (bif Nat.beq k_ 3 then .int v3 else (bif Nat.beq k_ 300 then .int v300 else (bif Nat.beq k_ 301 then .int v301 else (bif Nat.beq k_ 310 then .int v310 else (bif Nat.beq k_ 904 then .int v904 else (.int 0))))))
def as1_v1_s (a1001 : Nat) (n_ : Nat) : Nat := bif Nat.beq n_ 1001 then a1001 else (0)
theorem as1_v1 {h_ : xH} {a1001 : Nat} {v2 v3 v300 v301 v310 v904 : Int32} (hs : sHp h_) (k1001 : bcq h_ a1001 20 13) (o0_ : bpat h_ a1001 0 = some (.int v300)) (o1 : bpat h_ 339 434 = some (.int v310)) (o2 : bpat h_ a1001 (v3).toInt.toNat = some (.int v301)) (b0 : 0 ≤ (v3).toInt ∧ (v3).toInt < 13) (c0_ : v3.toInt ≤ v300.toInt) (c1_ : (0 : Int32).toInt < v310.toInt) : ∃ h', ysm h_ h' ∧ (((bpat h' 346 109 = some (.int v2)) ∧ (bpat h' 346 110 = some (.int v300)) ∧ (bpat h' 346 105 = some (.int (v3 - (1 : Int32)))) ∧ (bpat h' 346 115 = some (.int v301)) ∧ (∀ a_ j_ : Nat, ¬ (a_ = 346 ∧ j_ = 109) → ¬ (a_ = 346 ∧ j_ = 110) → ¬ (a_ = 346 ∧ j_ = 105) → ¬ (a_ = 346 ∧ j_ = 115) → bpat h' a_ j_ = bpat h_ a_ j_) ∧ (bldD 60 150 2 [(3, .int v3), (4, .int v904), (0, .index 338), (1, .index a1001), (2, .int v2)] [] h_ 57 [(3, .int v3), (4, .int v904), (0, .index 338), (1, .index a1001), (2, .int v2)] [.int (0 : Int32), .index 338] h'))) := by
  have hA : yas as1_v1_A (as1_v1_r v2 v3 v300 v301 v310 v904) (yg (as1_v1_s a1001)) := ⟨List.forall_mem_cons.mpr ⟨b0, fun q_ hq => absurd hq List.not_mem_nil⟩, fun q_ hq => absurd hq List.not_mem_nil, fun q_ hq => absurd hq List.not_mem_nil, fun n_ hn => yg_lo hn, fun q_ hq => absurd hq List.not_mem_nil⟩
  have Hs : ysh as1_v1_A.1 (yg (as1_v1_s a1001)) h_ := ysh_of2 hs (List.forall_mem_cons.mpr ⟨⟨by decide, k1001⟩, fun q_ hq => absurd hq List.not_mem_nil⟩)
  have Ho : ymem (as1_v1_r v2 v3 v300 v301 v310 v904) (yg (as1_v1_s a1001)) as1_v1_O h_ := List.forall_mem_cons.mpr ⟨bpat_some o0_, List.forall_mem_cons.mpr ⟨bpat_some (fxr_at hs.2 (show fxk fxl 338 0 = some 339 by decide +kernel)), List.forall_mem_cons.mpr ⟨bpat_some o1, List.forall_mem_cons.mpr ⟨bpat_some (fxr_at hs.2 (show fxk fxl 338 12 = some 346 by decide +kernel)), List.forall_mem_cons.mpr ⟨bpat_some o2, fun q_ hq => absurd hq List.not_mem_nil⟩⟩⟩⟩⟩
  have HC : ∀ q_ ∈ as1_v1_C, xhold (as1_v1_r v2 v3 v300 v301 v310 v904) q_ := List.forall_mem_cons.mpr ⟨xh_leT c0_, List.forall_mem_cons.mpr ⟨xh_leF c1_, fun q_ hq => absurd hq List.not_mem_nil⟩⟩
  rcases yrun (yis_ok as1_v1_k) hA Hs Ho HC with ⟨q_, hq, h', K_, G_⟩ | ⟨q_, hq, h', K_, G_⟩
  · have e_ := List.mem_singleton.mp hq
    subst e_
    exact ⟨h', yfr_sm K_.2.2.2 hs K_.1 (ywa_s as1_v1_w List.mem_cons_self), ⟨bpat_of (K_.2.1 _ List.mem_cons_self), bpat_of (K_.2.1 _ (List.mem_cons_of_mem _ List.mem_cons_self)), bpat_of (K_.2.1 _ (List.mem_cons_of_mem _ (List.mem_cons_of_mem _ List.mem_cons_self))), bpat_of (K_.2.1 _ (List.mem_cons_of_mem _ (List.mem_cons_of_mem _ (List.mem_cons_of_mem _ List.mem_cons_self)))), fun a_ j_ n0_ n1_ n2_ n3_ => yfr_bp K_.2.2.2 (List.forall_mem_cons.mpr ⟨fun e_ => n0_ ⟨e_.1.symm, e_.2.symm⟩, List.forall_mem_cons.mpr ⟨fun e_ => n1_ ⟨e_.1.symm, e_.2.symm⟩, List.forall_mem_cons.mpr ⟨fun e_ => n2_ ⟨e_.1.symm, e_.2.symm⟩, List.forall_mem_cons.mpr ⟨fun e_ => n3_ ⟨e_.1.symm, e_.2.symm⟩, fun q_ hq => absurd hq List.not_mem_nil⟩⟩⟩⟩), G_⟩⟩
  · cases hq
-- asN_v1: 21 steps, 0 ends, 1 returns
def asN_v1_L : List (Nat × Nat × Nat) := [(1001, 20, 13)]
def asN_v1_O : yO := [(1001, .int 0, .arg 300), (338, .int 0, .index 339), (339, .int 434, .arg 310)]
def asN_v1_A : yA := (yZ asN_v1_L, [(.arg 3, 13)], [], [], [])
def asN_v1_C : List xB := [(.le, .arg 3, .arg 300, true), (.le, .arg 310, .int 0, true)]
def asN_v1_ss : List yS := []
def asN_v1_rs : List yR := [(none, [(1001, .int 0, .arg 300), (338, .int 0, .index 339), (339, .int 434, .arg 310)], [(.le, .arg 3, .arg 300, true), (.le, .arg 310, .int 0, true)], [])]
theorem asN_v1_w : ywa asN_v1_A asN_v1_ss asN_v1_rs = true := by decide +kernel
theorem asN_v1_k : yis (yev asN_v1_A 3000 60 150 [57] (2, [(3, .arg 3), (4, .arg 904), (0, .index 338), (1, .index 1001), (2, .arg 2)], [], asN_v1_O, asN_v1_C, [])) asN_v1_ss asN_v1_rs = true := by decide +kernel
def asN_v1_r (v2 v3 v300 v310 v904 : Int32) (k_ : Nat) : Value := bif Nat.beq k_ 2 then .int v2 else (bif Nat.beq k_ 3 then .int v3 else (bif Nat.beq k_ 300 then .int v300 else (bif Nat.beq k_ 310 then .int v310 else (bif Nat.beq k_ 904 then .int v904 else (.int 0)))))
def asN_v1_s (a1001 : Nat) (n_ : Nat) : Nat := bif Nat.beq n_ 1001 then a1001 else (0)
theorem asN_v1 {h_ : xH} {a1001 : Nat} {v2 v3 v300 v310 v904 : Int32} (hs : sHp h_) (k1001 : bcq h_ a1001 20 13) (o0_ : bpat h_ a1001 0 = some (.int v300)) (o1 : bpat h_ 339 434 = some (.int v310)) (b0 : 0 ≤ (v3).toInt ∧ (v3).toInt < 13) (c0_ : v3.toInt ≤ v300.toInt) (c1_ : v310.toInt ≤ (0 : Int32).toInt) : ∃ h', ysm h_ h' ∧ (((∀ a_ j_ : Nat, bpat h' a_ j_ = bpat h_ a_ j_) ∧ (∀ D_, 60 ≤ D_ → xrun D_ 150 2 [(3, .int v3), (4, .int v904), (0, .index 338), (1, .index a1001), (2, .int v2)] [] h_ (none, h', [])))) := by
  have hA : yas asN_v1_A (asN_v1_r v2 v3 v300 v310 v904) (yg (asN_v1_s a1001)) := ⟨List.forall_mem_cons.mpr ⟨b0, fun q_ hq => absurd hq List.not_mem_nil⟩, fun q_ hq => absurd hq List.not_mem_nil, fun q_ hq => absurd hq List.not_mem_nil, fun n_ hn => yg_lo hn, fun q_ hq => absurd hq List.not_mem_nil⟩
  have Hs : ysh asN_v1_A.1 (yg (asN_v1_s a1001)) h_ := ysh_of2 hs (List.forall_mem_cons.mpr ⟨⟨by decide, k1001⟩, fun q_ hq => absurd hq List.not_mem_nil⟩)
  have Ho : ymem (asN_v1_r v2 v3 v300 v310 v904) (yg (asN_v1_s a1001)) asN_v1_O h_ := List.forall_mem_cons.mpr ⟨bpat_some o0_, List.forall_mem_cons.mpr ⟨bpat_some (fxr_at hs.2 (show fxk fxl 338 0 = some 339 by decide +kernel)), List.forall_mem_cons.mpr ⟨bpat_some o1, fun q_ hq => absurd hq List.not_mem_nil⟩⟩⟩
  have HC : ∀ q_ ∈ asN_v1_C, xhold (asN_v1_r v2 v3 v300 v310 v904) q_ := List.forall_mem_cons.mpr ⟨xh_leT c0_, List.forall_mem_cons.mpr ⟨xh_leT c1_, fun q_ hq => absurd hq List.not_mem_nil⟩⟩
  rcases yrun (yis_ok asN_v1_k) hA Hs Ho HC with ⟨q_, hq, h', K_, G_⟩ | ⟨q_, hq, h', K_, G_⟩
  · cases hq
  · have e_ := List.mem_singleton.mp hq
    subst e_
    exact ⟨h', yfr_sm K_.2.2.2 hs K_.1 (ywa_r asN_v1_w List.mem_cons_self), ⟨fun a_ j_ => yfr_bp K_.2.2.2 (fun q_ hq => absurd hq List.not_mem_nil), G_⟩⟩
-- asX_v1: 6 steps, 0 ends, 1 returns
def asX_v1_L : List (Nat × Nat × Nat) := [(1001, 20, 13)]
def asX_v1_O : yO := [(1001, .int 0, .arg 300)]
def asX_v1_A : yA := (yZ asX_v1_L, [], [], [], [])
def asX_v1_C : List xB := [(.le, .arg 3, .arg 300, false)]
def asX_v1_ss : List yS := []
def asX_v1_rs : List yR := [(none, [(1001, .int 0, .arg 300)], [(.le, .arg 3, .arg 300, false)], [])]
theorem asX_v1_w : ywa asX_v1_A asX_v1_ss asX_v1_rs = true := by decide +kernel
theorem asX_v1_k : yis (yev asX_v1_A 3000 60 150 [57] (2, [(3, .arg 3), (4, .arg 904), (0, .index 338), (1, .index 1001), (2, .arg 2)], [], asX_v1_O, asX_v1_C, [])) asX_v1_ss asX_v1_rs = true := by decide +kernel
def asX_v1_r (v2 v3 v300 v904 : Int32) (k_ : Nat) : Value := bif Nat.beq k_ 2 then .int v2 else (bif Nat.beq k_ 3 then .int v3 else (bif Nat.beq k_ 300 then .int v300 else (bif Nat.beq k_ 904 then .int v904 else (.int 0))))
def asX_v1_s (a1001 : Nat) (n_ : Nat) : Nat := bif Nat.beq n_ 1001 then a1001 else (0)
theorem asX_v1 {h_ : xH} {a1001 : Nat} {v2 v3 v300 v904 : Int32} (hs : sHp h_) (k1001 : bcq h_ a1001 20 13) (o0_ : bpat h_ a1001 0 = some (.int v300)) (c0_ : v300.toInt < v3.toInt) : ∃ h', ysm h_ h' ∧ (((∀ a_ j_ : Nat, bpat h' a_ j_ = bpat h_ a_ j_) ∧ (∀ D_, 60 ≤ D_ → xrun D_ 150 2 [(3, .int v3), (4, .int v904), (0, .index 338), (1, .index a1001), (2, .int v2)] [] h_ (none, h', [])))) := by
  have hA : yas asX_v1_A (asX_v1_r v2 v3 v300 v904) (yg (asX_v1_s a1001)) := ⟨fun q_ hq => absurd hq List.not_mem_nil, fun q_ hq => absurd hq List.not_mem_nil, fun q_ hq => absurd hq List.not_mem_nil, fun n_ hn => yg_lo hn, fun q_ hq => absurd hq List.not_mem_nil⟩
  have Hs : ysh asX_v1_A.1 (yg (asX_v1_s a1001)) h_ := ysh_of2 hs (List.forall_mem_cons.mpr ⟨⟨by decide, k1001⟩, fun q_ hq => absurd hq List.not_mem_nil⟩)
  have Ho : ymem (asX_v1_r v2 v3 v300 v904) (yg (asX_v1_s a1001)) asX_v1_O h_ := List.forall_mem_cons.mpr ⟨bpat_some o0_, fun q_ hq => absurd hq List.not_mem_nil⟩
  have HC : ∀ q_ ∈ asX_v1_C, xhold (asX_v1_r v2 v3 v300 v904) q_ := List.forall_mem_cons.mpr ⟨xh_leF c0_, fun q_ hq => absurd hq List.not_mem_nil⟩
  rcases yrun (yis_ok asX_v1_k) hA Hs Ho HC with ⟨q_, hq, h', K_, G_⟩ | ⟨q_, hq, h', K_, G_⟩
  · cases hq
  · have e_ := List.mem_singleton.mp hq
    subst e_
    exact ⟨h', yfr_sm K_.2.2.2 hs K_.1 (ywa_r asX_v1_w List.mem_cons_self), ⟨fun a_ j_ => yfr_bp K_.2.2.2 (fun q_ hq => absurd hq List.not_mem_nil), G_⟩⟩
-- as2_v1: 15 steps, 2 ends, 0 returns
def as2_v1_L : List (Nat × Nat × Nat) := [(1001, 20, 13)]
def as2_v1_O : yO := []
def as2_v1_A : yA := (yZ as2_v1_L, [(.arg 3, 13)], [], [], [(142, [.arg 330], .arg 331)])
def as2_v1_C : List xB := []
def as2_v1_ss : List yS := [(2, [(3, .add (.arg 3) (.int 1)), (4, .arg 330), (0, .index 338), (1, .index 1001), (2, .arg 2)], [], [(1001, .arg 3, .int 60)], [(.eq, .arg 331, .int 0, true)], [(1001, .arg 3)]),
  (2, [(3, .add (.arg 3) (.int 1)), (4, .arg 330), (0, .index 338), (1, .index 1001), (2, .arg 2)], [], [(1001, .arg 3, .arg 330)], [(.eq, .arg 331, .int 0, false)], [(1001, .arg 3)])]
def as2_v1_rs : List yR := []
theorem as2_v1_w : ywa as2_v1_A as2_v1_ss as2_v1_rs = true := by decide +kernel
theorem as2_v1_k : yis (yev as2_v1_A 3000 60 150 [2] (60, [(3, .arg 3), (4, .arg 904), (0, .index 338), (1, .index 1001), (2, .arg 2)], [.arg 330], as2_v1_O, as2_v1_C, [])) as2_v1_ss as2_v1_rs = true := by decide +kernel
def as2_v1_r (v2 v3 v330 v331 v904 : Int32) (k_ : Nat) : Value := bif Nat.beq k_ 2 then .int v2 else (bif Nat.beq k_ 3 then .int v3 else (bif Nat.beq k_ 330 then .int v330 else (bif Nat.beq k_ 331 then .int v331 else (bif Nat.beq k_ 904 then .int v904 else (.int 0)))))
def as2_v1_s (a1001 : Nat) (n_ : Nat) : Nat := bif Nat.beq n_ 1001 then a1001 else (0)
theorem as2_v1 {h_ : xH} {a1001 : Nat} {v2 v3 v330 v331 v904 : Int32} (hs : sHp h_) (k1001 : bcq h_ a1001 20 13) (b0 : 0 ≤ (v3).toInt ∧ (v3).toInt < 13) (p0_ : ∀ (h_ : xH) (D_ : Nat), 5 ≤ D_ → xrun D_ 142 0 [(0, .int v330)] [] h_ (some (.int v331), h_, [])) : ∃ h', ysm h_ h' ∧ (((v331 = (0 : Int32)) ∧ (bpat h' a1001 (v3).toInt.toNat = some (.int (60 : Int32))) ∧ (∀ a_ j_ : Nat, ¬ (a_ = a1001 ∧ j_ = (v3).toInt.toNat) → bpat h' a_ j_ = bpat h_ a_ j_) ∧ (bldD 60 150 60 [(3, .int v3), (4, .int v904), (0, .index 338), (1, .index a1001), (2, .int v2)] [.int v330] h_ 2 [(3, .int (v3 + (1 : Int32))), (4, .int v330), (0, .index 338), (1, .index a1001), (2, .int v2)] [] h'))
  ∨ ((¬ v331 = (0 : Int32)) ∧ (bpat h' a1001 (v3).toInt.toNat = some (.int v330)) ∧ (∀ a_ j_ : Nat, ¬ (a_ = a1001 ∧ j_ = (v3).toInt.toNat) → bpat h' a_ j_ = bpat h_ a_ j_) ∧ (bldD 60 150 60 [(3, .int v3), (4, .int v904), (0, .index 338), (1, .index a1001), (2, .int v2)] [.int v330] h_ 2 [(3, .int (v3 + (1 : Int32))), (4, .int v330), (0, .index 338), (1, .index a1001), (2, .int v2)] [] h'))) := by
  have hA : yas as2_v1_A (as2_v1_r v2 v3 v330 v331 v904) (yg (as2_v1_s a1001)) := ⟨List.forall_mem_cons.mpr ⟨b0, fun q_ hq => absurd hq List.not_mem_nil⟩, fun q_ hq => absurd hq List.not_mem_nil, fun q_ hq => absurd hq List.not_mem_nil, fun n_ hn => yg_lo hn, List.forall_mem_cons.mpr ⟨p0_, fun q_ hq => absurd hq List.not_mem_nil⟩⟩
  have Hs : ysh as2_v1_A.1 (yg (as2_v1_s a1001)) h_ := ysh_of2 hs (List.forall_mem_cons.mpr ⟨⟨by decide, k1001⟩, fun q_ hq => absurd hq List.not_mem_nil⟩)
  have Ho : ymem (as2_v1_r v2 v3 v330 v331 v904) (yg (as2_v1_s a1001)) as2_v1_O h_ := fun q_ hq => absurd hq List.not_mem_nil
  have HC : ∀ q_ ∈ as2_v1_C, xhold (as2_v1_r v2 v3 v330 v331 v904) q_ := fun q_ hq => absurd hq List.not_mem_nil
  rcases yrun (yis_ok as2_v1_k) hA Hs Ho HC with ⟨q_, hq, h', K_, G_⟩ | ⟨q_, hq, h', K_, G_⟩
  · rcases List.mem_cons.mp hq with e_ | hq
    · subst e_
      exact ⟨h', yfr_sm K_.2.2.2 hs K_.1 (ywa_s as2_v1_w List.mem_cons_self), Or.inl (⟨xq_eqT rfl rfl (K_.2.2.1 _ List.mem_cons_self), bpat_of (K_.2.1 _ List.mem_cons_self), fun a_ j_ n0_ => yfr_bp K_.2.2.2 (List.forall_mem_cons.mpr ⟨fun e_ => n0_ ⟨e_.1.symm, e_.2.symm⟩, fun q_ hq => absurd hq List.not_mem_nil⟩), G_⟩)⟩
    have e_ := List.mem_singleton.mp hq
    subst e_
    exact ⟨h', yfr_sm K_.2.2.2 hs K_.1 (ywa_s as2_v1_w (List.mem_cons_of_mem _ List.mem_cons_self)), Or.inr (⟨xq_eqF rfl rfl (K_.2.2.1 _ List.mem_cons_self), bpat_of (K_.2.1 _ List.mem_cons_self), fun a_ j_ n0_ => yfr_bp K_.2.2.2 (List.forall_mem_cons.mpr ⟨fun e_ => n0_ ⟨e_.1.symm, e_.2.symm⟩, fun q_ hq => absurd hq List.not_mem_nil⟩), G_⟩)⟩
  · cases hq
/-- the text of TURNS, as the reference has it -/
def txc (h_ : xH) (ys : List (Int32 × Int32)) : Prop := bpat h_ 339 434 = some (.int (Int32.ofNat ys.length)) ∧ ∀ j_ y_, ys[j_]? = some y_ → bpat h_ 339 (435 + 2 * j_) = some (.int y_.1) ∧ bpat h_ 339 (436 + 2 * j_) = some (.int y_.2)
def frs (b_ : Nat) (h_ h' : xH) : Prop := ysm h_ h' ∧ ∀ c_ j_, ¬ c_ = b_ → ¬ c_ = 346 → ¬ c_ = 347 → bpat h' c_ j_ = bpat h_ c_ j_
theorem frs_tr {b_ : Nat} (x_ y_ z_ : xH) (h1 : frs b_ x_ y_) (h2 : frs b_ y_ z_) : frs b_ x_ z_ := ⟨ysm_tr h1.1 h2.1, fun c_ j_ n1_ n2_ n3_ => (h2.2 c_ j_ n1_ n2_ n3_).trans (h1.2 c_ j_ n1_ n2_ n3_)⟩
theorem rwm_set2 {h_ h' : xH} {b_ q_ n_ i_ : Nat} {l : List Int32} {y_ : Int32} (R_ : rwm h_ b_ q_ n_ l) (hm_ : ysm h_ h') (hi_ : i_ < l.length) (e_ : bpat h' b_ (q_ + 1 + i_) = some (.int y_)) (f_ : ∀ j_, ¬ j_ = q_ + 1 + i_ → bpat h' b_ j_ = bpat h_ b_ j_) : rwm h' b_ q_ n_ (l.set i_ y_) := by
  obtain ⟨R1, R2, R3⟩ := R_
  refine ⟨hm_.2 _ _ _ R1, ?_, fun j_ x_ hx => ?_⟩
  · rw [List.length_set]
    exact (f_ q_ (by omega)).trans R2
  · by_cases z_ : j_ = i_
    · subst z_
      rw [List.getElem?_set_self hi_] at hx
      cases hx
      exact e_
    · rw [List.getElem?_set_ne (fun u_ => z_ u_.symm)] at hx
      exact (f_ _ (by omega)).trans (R3 j_ x_ hx)
theorem puZ_m (y_ : Int32) : puZ_F y_ = if pmS_F y_ = 0 then 60 else y_ := by
  unfold puZ_F pmS_F
  simp only [xcmb]
  by_cases h1 : y_ < 0 <;> by_cases h2 : y_ ≤ 53 <;> by_cases h3 : y_ < 60 <;> by_cases h4 : y_ ≤ 99 <;> simp [h1, h2, h3, h4]
def asH (b_ : Nat) (m_ i_ : Int32) (lo_ : xL) : Prop := lo_ = [(3, .int i_), (0, .index 338), (1, .index b_), (2, .int m_)] ∨ ∃ y_ : Int32, lo_ = [(3, .int i_), (4, .int y_), (0, .index 338), (1, .index b_), (2, .int m_)]
/-- TOLD's text over a row, the reference -/
theorem asToldM {b_ : Nat} {m_ : Int32} {l xs : List Int32} {ys : List (Int32 × Int32)} {h_ : xH} (n1_ : ¬ b_ = 346) (n2_ : ¬ b_ = 347) (n3_ : ¬ b_ = 339) (R_ : rM b_ h_ l) (T : txc h_ ys) (hlen : ys.length = xs.length) (hp : ∀ (j_ : Nat) (x_ : Int32) (y_ : Int32 × Int32), xs[j_]? = some x_ → ys[j_]? = some y_ → okp 0 x_ y_) (hl : xs.length ≤ 60) (K_ : ¬ xs = [] → evk xs) : ∃ h', rM b_ h' (if xs = [] then l else mpf (tdf xs (Int32.ofNat l.length) m_) 0 l) ∧ frs b_ h_ h' ∧ ∀ D_, 62 ≤ D_ → xrun D_ 150 0 [(0, .index 338), (1, .index b_), (2, .int m_)] [] h_ (none, h', []) := by
  have z0 : (0 : Int32).toInt = 0 := rfl
  obtain ⟨h0, m0_, f0_, ld0⟩ := as0 (v2 := m_) R_.1 R_.2.1.1
  have R0_ := rM_all R_ m0_ f0_
  have T0_ : txc h0 ys := ⟨(f0_ _ _).trans T.1, fun j_ y_ q_ => ⟨(f0_ _ _).trans (T.2 j_ y_ q_).1, (f0_ _ _).trans (T.2 j_ y_ q_).2⟩⟩
  by_cases hn : xs = []
  · rw [if_pos hn]
    have hy : ys.length = 0 := by rw [hlen, hn]; rfl
    have c1_ : (Int32.ofNat ys.length).toInt ≤ (0 : Int32).toInt := by rw [i32n (by omega), z0]; omega
    obtain ⟨Rs_, ⟨R1, R2, R3⟩, R7⟩ := R0_
    by_cases g_ : l.length = 0
    · obtain ⟨h1, m1_, f1_, r1_⟩ := asX_v0 (v2 := m_) (v3 := 1) Rs_ R1 R2 (by rw [g_]; decide)
      exact ⟨h1, rM_all ⟨Rs_, ⟨R1, R2, R3⟩, R7⟩ m1_ f1_, ⟨ysm_tr m0_ m1_, fun c_ j_ _ _ _ => (f1_ c_ j_).trans (f0_ c_ j_)⟩, fun D_ hD => ld0 D_ (by omega) _ (r1_ D_ (by omega))⟩
    · obtain ⟨h1, m1_, f1_, r1_⟩ := asN_v0 (v2 := m_) (v3 := 1) Rs_ R1 R2 T0_.1 ⟨by decide, by decide⟩ (by rw [i32n (by omega)]; have : (1 : Int32).toInt = 1 := rfl; omega) c1_
      exact ⟨h1, rM_all ⟨Rs_, ⟨R1, R2, R3⟩, R7⟩ m1_ f1_, ⟨ysm_tr m0_ m1_, fun c_ j_ _ _ _ => (f1_ c_ j_).trans (f0_ c_ j_)⟩, fun D_ hD => ld0 D_ (by omega) _ (r1_ D_ (by omega))⟩
  · rw [if_neg hn]
    have pl : 0 < xs.length := List.length_pos_iff.mpr hn
    obtain ⟨h', ⟨R', -⟩, F', E'_⟩ := map_loop (mi := 150) (pc := 2) (d_ := 1) (dp := 62) (HD := fun i_ lo_ => i_ ≤ 14 ∧ asH b_ m_ (Int32.ofNat (i_ + 1)) lo_) (RW := fun h_ l' => rM b_ h_ l' ∧ (txc h_ ys ∧ l'.length = l.length)) (FR := frs b_) (f_ := tdf xs (Int32.ofNat l.length) m_) (E_ := eRt 62 150 2) (by omega) (fun i_ lo_ H_ e_ y_ h1 h2 => by omega) frs_tr eRt_led (by
      intro i_ l' h_ lo_ x_ R_ hx' H_
      obtain ⟨hb_, H_⟩ := H_
      obtain ⟨⟨Rs_, ⟨R1, R2, R3⟩, R7⟩, T, hll⟩ := R_
      have hi_ := (List.getElem?_eq_some_iff.mp hx').1
      have e6_ : bpat h_ b_ (Int32.ofNat (i_ + 1)).toInt.toNat = some (.int x_) := by
        rw [i32t (by omega), show i_ + 1 = 0 + 1 + i_ by omega]
        exact R3 i_ x_ hx'
      have bi : 0 ≤ (Int32.ofNat (i_ + 1)).toInt ∧ (Int32.ofNat (i_ + 1)).toInt < 13 := by
        rw [i32n (by omega)]
        omega
      have c0_ : (Int32.ofNat (i_ + 1)).toInt ≤ (Int32.ofNat l'.length).toInt := by
        rw [i32n (by omega), i32n (by omega)]
        omega
      have c1_ : (0 : Int32).toInt < (Int32.ofNat ys.length).toInt := by
        rw [i32n (by omega), z0]
        omega
      have es : Int32.ofNat (i_ + 1) - 1 = Int32.ofNat i_ := i32w (n_ := i_ + 1) (k_ := 1) (by omega) (by omega)
      rcases H_ with rfl | ⟨y9, rfl⟩
      · obtain ⟨h1, m1_, g3_, g2, g1, g0, f1_, ld1⟩ := as1_v0 (v2 := m_) Rs_ R1 R2 T.1 e6_ bi c0_ c1_
        rw [es] at g1
        have fc_ : ∀ c_ j_, ¬ c_ = 346 → bpat h1 c_ j_ = bpat h_ c_ j_ := fun c_ j_ n_ => f1_ c_ j_ (fun q_ => n_ q_.1) (fun q_ => n_ q_.1) (fun q_ => n_ q_.1) (fun q_ => n_ q_.1)
        have X1 : txm h1 0 434 (nm4 x_ (Int32.ofNat i_) (Int32.ofNat l.length) m_) ys := by
          refine ⟨m1_.1, (fc_ _ _ (by omega)).trans T.1, fun j_ y_ q_ => ⟨(fc_ _ _ (by omega)).trans (T.2 j_ y_ q_).1, (fc_ _ _ (by omega)).trans (T.2 j_ y_ q_).2⟩, fun j_ hj => ?_⟩
          rcases (show j_ = 0 ∨ j_ = 1 ∨ j_ = 2 ∨ j_ = 3 by omega) with rfl | rfl | rfl | rfl
          · exact g0
          · exact g1
          · rw [← hll]
            exact g2
          · exact g3_
        obtain ⟨s_, es2, ns⟩ := K_ hn (nm4 x_ (Int32.ofNat i_) (Int32.ofNat l.length) m_)
        obtain ⟨h2, F2, r2⟩ := workedM (u_ := 0) (by omega) hlen hp hl X1 es2 ns
        have er : s_.getLastD 0 = evr (nm4 x_ (Int32.ofNat i_) (Int32.ofNat l.length) m_) xs := by
          unfold evr
          rw [es2]
          rfl
        rw [er] at r2
        have T1 := bcq_of (n_ := 338) (z_ := (12, 26)) m1_.1 rfl
        have B1 := m1_.2 _ _ _ R1
        have c2_ := ycv (mi := 150) (pc := 57) (cm := 187) (lo_ := [(3, .int (Int32.ofNat (i_ + 1))), (0, .index 338), (1, .index b_), (2, .int m_)]) (st_ := [.int 0, .index 338]) (as_ := [.int 0]) (s' := []) rfl rfl T1 rfl (xcc_l (List.forall_mem_cons.mpr ⟨rfl, List.forall_mem_cons.mpr ⟨xidx_i (bcq_lt T1), List.forall_mem_cons.mpr ⟨xidx_i (bcq_lt B1), List.forall_mem_cons.mpr ⟨rfl, fun q_ hq => absurd hq List.not_mem_nil⟩⟩⟩⟩) (fun t_ ht => absurd ht List.not_mem_nil) (by decide)) r2
        obtain ⟨h3, m3_, E3⟩ := as2_v0 (v2 := m_) F2.1.1 (F2.1.2 _ _ _ B1) bi (pmS (evr (nm4 x_ (Int32.ofNat i_) (Int32.ofNat l.length) m_) xs))
        rw [i32t (by omega), i32s] at E3
        have mm := ysm_tr m1_ (ysm_tr F2.1 m3_)
        have fin_ : ∀ lo', bpat h3 b_ (i_ + 1) = some (.int (tdf xs (Int32.ofNat l.length) m_ i_ x_)) → (∀ c_ j_, ¬ (c_ = b_ ∧ j_ = i_ + 1) → bpat h3 c_ j_ = bpat h2 c_ j_) → asH b_ m_ (Int32.ofNat (i_ + 1 + 1)) lo' → bldD 60 150 60 [(3, .int (Int32.ofNat (i_ + 1))), (0, .index 338), (1, .index b_), (2, .int m_)] [.int (evr (nm4 x_ (Int32.ofNat i_) (Int32.ofNat l.length) m_) xs)] h2 2 lo' [] h3 → ∃ h1 lo', (rM b_ h1 (l'.set i_ (tdf xs (Int32.ofNat l.length) m_ i_ x_)) ∧ (txc h1 ys ∧ (l'.set i_ (tdf xs (Int32.ofNat l.length) m_ i_ x_)).length = l.length)) ∧ frs b_ h_ h1 ∧ (i_ + 1 ≤ 14 ∧ asH b_ m_ (Int32.ofNat (i_ + 1 + 1)) lo') ∧ bldD 62 150 2 [(3, .int (Int32.ofNat (i_ + 1))), (0, .index 338), (1, .index b_), (2, .int m_)] [] h_ 2 lo' [] h1 := by
          intro lo' e3_ f3_ H' ld3
          have all : ∀ c_ j_, ¬ c_ = 346 → ¬ c_ = 347 → ¬ (c_ = b_ ∧ j_ = i_ + 1) → bpat h3 c_ j_ = bpat h_ c_ j_ := fun c_ j_ q1_ q2_ q3_ => (f3_ c_ j_ q3_).trans ((F2.2 c_ j_ q2_).trans (fc_ c_ j_ q1_))
          have RW3 : rwm h3 b_ 0 13 (l'.set i_ (tdf xs (Int32.ofNat l.length) m_ i_ x_)) := rwm_set2 ⟨R1, R2, R3⟩ mm hi_ (by rw [show 0 + 1 + i_ = i_ + 1 by omega]; exact e3_) (fun j_ nj => all b_ j_ n1_ n2_ (fun z_ => nj (by omega)))
          have T3 : txc h3 ys := ⟨(all _ _ (by omega) (by omega) (fun z_ => n3_ z_.1.symm)).trans T.1, fun j_ y_ q_ => ⟨(all _ _ (by omega) (by omega) (fun z_ => n3_ z_.1.symm)).trans (T.2 j_ y_ q_).1, (all _ _ (by omega) (by omega) (fun z_ => n3_ z_.1.symm)).trans (T.2 j_ y_ q_).2⟩⟩
          exact ⟨h3, lo', ⟨⟨m3_.1, RW3, by rw [List.length_set]; exact R7⟩, T3, by rw [List.length_set]; exact hll⟩, ⟨mm, fun c_ j_ q1_ q2_ q3_ => all c_ j_ q2_ q3_ (fun z_ => q1_ z_.1)⟩, ⟨by omega, H'⟩, fun D_ hD o z_ => ld1 D_ (by omega) o (c2_ D_ (by omega) o (ld3 D_ (by omega) o z_))⟩
        have ez := puZ_m (evr (nm4 x_ (Int32.ofNat i_) (Int32.ofNat l.length) m_) xs)
        rcases E3 with ⟨g5_, e3_, f3_, ld3⟩ | ⟨g5_, e3_, f3_, ld3⟩
        · refine fin_ _ ?_ f3_ (Or.inr ⟨_, rfl⟩) ld3
          rw [show tdf xs (Int32.ofNat l.length) m_ i_ x_ = 60 from ez.trans (if_pos g5_)]
          exact e3_
        · refine fin_ _ ?_ f3_ (Or.inr ⟨_, rfl⟩) ld3
          rw [show tdf xs (Int32.ofNat l.length) m_ i_ x_ = evr (nm4 x_ (Int32.ofNat i_) (Int32.ofNat l.length) m_) xs from ez.trans (if_neg g5_)]
          exact e3_
      · obtain ⟨h1, m1_, g3_, g2, g1, g0, f1_, ld1⟩ := as1_v1 (v2 := m_) (v904 := y9) Rs_ R1 R2 T.1 e6_ bi c0_ c1_
        rw [es] at g1
        have fc_ : ∀ c_ j_, ¬ c_ = 346 → bpat h1 c_ j_ = bpat h_ c_ j_ := fun c_ j_ n_ => f1_ c_ j_ (fun q_ => n_ q_.1) (fun q_ => n_ q_.1) (fun q_ => n_ q_.1) (fun q_ => n_ q_.1)
        have X1 : txm h1 0 434 (nm4 x_ (Int32.ofNat i_) (Int32.ofNat l.length) m_) ys := by
          refine ⟨m1_.1, (fc_ _ _ (by omega)).trans T.1, fun j_ y_ q_ => ⟨(fc_ _ _ (by omega)).trans (T.2 j_ y_ q_).1, (fc_ _ _ (by omega)).trans (T.2 j_ y_ q_).2⟩, fun j_ hj => ?_⟩
          rcases (show j_ = 0 ∨ j_ = 1 ∨ j_ = 2 ∨ j_ = 3 by omega) with rfl | rfl | rfl | rfl
          · exact g0
          · exact g1
          · rw [← hll]
            exact g2
          · exact g3_
        obtain ⟨s_, es2, ns⟩ := K_ hn (nm4 x_ (Int32.ofNat i_) (Int32.ofNat l.length) m_)
        obtain ⟨h2, F2, r2⟩ := workedM (u_ := 0) (by omega) hlen hp hl X1 es2 ns
        have er : s_.getLastD 0 = evr (nm4 x_ (Int32.ofNat i_) (Int32.ofNat l.length) m_) xs := by
          unfold evr
          rw [es2]
          rfl
        rw [er] at r2
        have T1 := bcq_of (n_ := 338) (z_ := (12, 26)) m1_.1 rfl
        have B1 := m1_.2 _ _ _ R1
        have c2_ := ycv (mi := 150) (pc := 57) (cm := 187) (lo_ := [(3, .int (Int32.ofNat (i_ + 1))), (4, .int y9), (0, .index 338), (1, .index b_), (2, .int m_)]) (st_ := [.int 0, .index 338]) (as_ := [.int 0]) (s' := []) rfl rfl T1 rfl (xcc_l (List.forall_mem_cons.mpr ⟨rfl, List.forall_mem_cons.mpr ⟨rfl, List.forall_mem_cons.mpr ⟨xidx_i (bcq_lt T1), List.forall_mem_cons.mpr ⟨xidx_i (bcq_lt B1), List.forall_mem_cons.mpr ⟨rfl, fun q_ hq => absurd hq List.not_mem_nil⟩⟩⟩⟩⟩) (fun t_ ht => absurd ht List.not_mem_nil) (by decide)) r2
        obtain ⟨h3, m3_, E3⟩ := as2_v1 (v2 := m_) (v904 := y9) F2.1.1 (F2.1.2 _ _ _ B1) bi (pmS (evr (nm4 x_ (Int32.ofNat i_) (Int32.ofNat l.length) m_) xs))
        rw [i32t (by omega), i32s] at E3
        have mm := ysm_tr m1_ (ysm_tr F2.1 m3_)
        have fin_ : ∀ lo', bpat h3 b_ (i_ + 1) = some (.int (tdf xs (Int32.ofNat l.length) m_ i_ x_)) → (∀ c_ j_, ¬ (c_ = b_ ∧ j_ = i_ + 1) → bpat h3 c_ j_ = bpat h2 c_ j_) → asH b_ m_ (Int32.ofNat (i_ + 1 + 1)) lo' → bldD 60 150 60 [(3, .int (Int32.ofNat (i_ + 1))), (4, .int y9), (0, .index 338), (1, .index b_), (2, .int m_)] [.int (evr (nm4 x_ (Int32.ofNat i_) (Int32.ofNat l.length) m_) xs)] h2 2 lo' [] h3 → ∃ h1 lo', (rM b_ h1 (l'.set i_ (tdf xs (Int32.ofNat l.length) m_ i_ x_)) ∧ (txc h1 ys ∧ (l'.set i_ (tdf xs (Int32.ofNat l.length) m_ i_ x_)).length = l.length)) ∧ frs b_ h_ h1 ∧ (i_ + 1 ≤ 14 ∧ asH b_ m_ (Int32.ofNat (i_ + 1 + 1)) lo') ∧ bldD 62 150 2 [(3, .int (Int32.ofNat (i_ + 1))), (4, .int y9), (0, .index 338), (1, .index b_), (2, .int m_)] [] h_ 2 lo' [] h1 := by
          intro lo' e3_ f3_ H' ld3
          have all : ∀ c_ j_, ¬ c_ = 346 → ¬ c_ = 347 → ¬ (c_ = b_ ∧ j_ = i_ + 1) → bpat h3 c_ j_ = bpat h_ c_ j_ := fun c_ j_ q1_ q2_ q3_ => (f3_ c_ j_ q3_).trans ((F2.2 c_ j_ q2_).trans (fc_ c_ j_ q1_))
          have RW3 : rwm h3 b_ 0 13 (l'.set i_ (tdf xs (Int32.ofNat l.length) m_ i_ x_)) := rwm_set2 ⟨R1, R2, R3⟩ mm hi_ (by rw [show 0 + 1 + i_ = i_ + 1 by omega]; exact e3_) (fun j_ nj => all b_ j_ n1_ n2_ (fun z_ => nj (by omega)))
          have T3 : txc h3 ys := ⟨(all _ _ (by omega) (by omega) (fun z_ => n3_ z_.1.symm)).trans T.1, fun j_ y_ q_ => ⟨(all _ _ (by omega) (by omega) (fun z_ => n3_ z_.1.symm)).trans (T.2 j_ y_ q_).1, (all _ _ (by omega) (by omega) (fun z_ => n3_ z_.1.symm)).trans (T.2 j_ y_ q_).2⟩⟩
          exact ⟨h3, lo', ⟨⟨m3_.1, RW3, by rw [List.length_set]; exact R7⟩, T3, by rw [List.length_set]; exact hll⟩, ⟨mm, fun c_ j_ q1_ q2_ q3_ => all c_ j_ q2_ q3_ (fun z_ => q1_ z_.1)⟩, ⟨by omega, H'⟩, fun D_ hD o z_ => ld1 D_ (by omega) o (c2_ D_ (by omega) o (ld3 D_ (by omega) o z_))⟩
        have ez := puZ_m (evr (nm4 x_ (Int32.ofNat i_) (Int32.ofNat l.length) m_) xs)
        rcases E3 with ⟨g5_, e3_, f3_, ld3⟩ | ⟨g5_, e3_, f3_, ld3⟩
        · refine fin_ _ ?_ f3_ (Or.inr ⟨_, rfl⟩) ld3
          rw [show tdf xs (Int32.ofNat l.length) m_ i_ x_ = 60 from ez.trans (if_pos g5_)]
          exact e3_
        · refine fin_ _ ?_ f3_ (Or.inr ⟨_, rfl⟩) ld3
          rw [show tdf xs (Int32.ofNat l.length) m_ i_ x_ = evr (nm4 x_ (Int32.ofNat i_) (Int32.ofNat l.length) m_) xs from ez.trans (if_neg g5_)]
          exact e3_) (by
      intro i_ l' h_ lo_ R_ hl' H_
      obtain ⟨hb_, H_⟩ := H_
      obtain ⟨R_, T, hll⟩ := R_
      have c0_ : (Int32.ofNat l'.length).toInt < (Int32.ofNat (i_ + 1)).toInt := by
        rw [i32n (by omega), i32n (by omega)]
        omega
      rcases H_ with rfl | ⟨y9, rfl⟩
      · obtain ⟨h1, m1_, f1_, r1_⟩ := asX_v0 (v2 := m_) R_.1 R_.2.1.1 R_.2.1.2.1 c0_
        exact ⟨h1, ⟨rM_all R_ m1_ f1_, ⟨(f1_ _ _).trans T.1, fun j_ y_ q_ => ⟨(f1_ _ _).trans (T.2 j_ y_ q_).1, (f1_ _ _).trans (T.2 j_ y_ q_).2⟩⟩, hll⟩, ⟨m1_, fun c_ j_ _ _ _ => f1_ c_ j_⟩, fun D_ hD => r1_ D_ (by omega)⟩
      · obtain ⟨h1, m1_, f1_, r1_⟩ := asX_v1 (v2 := m_) (v904 := y9) R_.1 R_.2.1.1 R_.2.1.2.1 c0_
        exact ⟨h1, ⟨rM_all R_ m1_ f1_, ⟨(f1_ _ _).trans T.1, fun j_ y_ q_ => ⟨(f1_ _ _).trans (T.2 j_ y_ q_).1, (f1_ _ _).trans (T.2 j_ y_ q_).2⟩⟩, hll⟩, ⟨m1_, fun c_ j_ _ _ _ => f1_ c_ j_⟩, fun D_ hD => r1_ D_ (by omega)⟩) l.length 0 l h0 _ (by omega) ⟨R0_, T0_, rfl⟩ ⟨by omega, Or.inl rfl⟩
    exact ⟨h', R', frs_tr _ _ _ ⟨m0_, fun c_ j_ _ _ _ => f0_ c_ j_⟩ F', fun D_ hD => ld0 D_ (by omega) _ (E'_ D_ hD)⟩
