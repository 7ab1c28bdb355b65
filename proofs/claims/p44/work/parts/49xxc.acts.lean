-- ===== takes
-- xtkE: 5 steps, 1 ends, 0 returns
def xtkE_L : List (Nat × Nat × Nat) := []
def xtkE_O : yO := [(0, .int 0, .index 1), (0, .int 8, .index 314)]
def xtkE_A : yA := (yZ xtkE_L, [], [], [], [])
def xtkE_C : List xB := []
def xtkE_ss : List yS := [(9, [(0, .index 0), (1, .arg 1)], [.index 314, .arg 1, .index 1], [(0, .int 0, .index 1), (0, .int 8, .index 314)], [], [])]
def xtkE_rs : List yR := []
theorem xtkE_w : ywa xtkE_A xtkE_ss xtkE_rs = true := by decide +kernel
theorem xtkE_k : yis (yev xtkE_A 3000 60 89 [9] (0, [(0, .index 0), (1, .arg 1)], [], xtkE_O, xtkE_C, [])) xtkE_ss xtkE_rs = true := by decide +kernel
def xtkE_r (v1_ : Int32) (k_ : Nat) : Value := bif Nat.beq k_ 1 then .int v1_ else (.int 0)
def xtkE_s (n_ : Nat) : Nat := 0
theorem xtkE {h_ : xH} {v1_ : Int32} (hs : sHp h_) : ∃ h', ysm h_ h' ∧ (((∀ a_ j_ : Nat, bpat h' a_ j_ = bpat h_ a_ j_) ∧ (bldD 60 89 0 [(0, .index 0), (1, .int v1_)] [] h_ 9 [(0, .index 0), (1, .int v1_)] [.index 314, .int v1_, .index 1] h'))) := by
  have hA : yas xtkE_A (xtkE_r v1_) (yg xtkE_s) := ⟨fun q_ hq => absurd hq List.not_mem_nil, fun q_ hq => absurd hq List.not_mem_nil, fun q_ hq => absurd hq List.not_mem_nil, fun n_ hn => yg_lo hn, fun q_ hq => absurd hq List.not_mem_nil⟩
  have Hs : ysh xtkE_A.1 (yg xtkE_s) h_ := ysh_of2 hs (fun q_ hq => absurd hq List.not_mem_nil)
  have Ho : ymem (xtkE_r v1_) (yg xtkE_s) xtkE_O h_ := List.forall_mem_cons.mpr ⟨bpat_some (fxr_at hs.2 (show fxk fxl 0 0 = some 1 by decide +kernel)), List.forall_mem_cons.mpr ⟨bpat_some (fxr_at hs.2 (show fxk fxl 0 8 = some 314 by decide +kernel)), fun q_ hq => absurd hq List.not_mem_nil⟩⟩
  have HC : ∀ q_ ∈ xtkE_C, xhold (xtkE_r v1_) q_ := fun q_ hq => absurd hq List.not_mem_nil
  rcases yrun (yis_ok xtkE_k) hA Hs Ho HC with ⟨q_, hq, h', K_, G_⟩ | ⟨q_, hq, h', K_, G_⟩
  · have e_ := List.mem_singleton.mp hq
    subst e_
    exact ⟨h', yfr_sm K_.2.2.2 hs K_.1 (ywa_s xtkE_w List.mem_cons_self), ⟨fun a_ j_ => yfr_bp K_.2.2.2 (fun q_ hq => absurd hq List.not_mem_nil), G_⟩⟩
  · cases hq
-- xtkF: 17 steps, 0 ends, 1 returns
def xtkF_L : List (Nat × Nat × Nat) := []
def xtkF_O : yO := [(0, .int 13, .index 323), (323, .int 1, .arg 400)]
def xtkF_A : yA := (yZ xtkF_L, [], [], [], [])
def xtkF_C : List xB := []
def xtkF_ss : List yS := []
def xtkF_rs : List yR := [(some (.int (Int32.ofInt (-1000001))), [(323, .int 1, .add (.arg 400) (.int 1)), (0, .int 13, .index 323)], [], [(323, .int 1)])]
theorem xtkF_w : ywa xtkF_A xtkF_ss xtkF_rs = true := by decide +kernel
theorem xtkF_k : yis (yev xtkF_A 3000 60 89 [] (12, [(0, .index 0), (1, .arg 1)], [.int 0], xtkF_O, xtkF_C, [])) xtkF_ss xtkF_rs = true := by decide +kernel
def xtkF_r (v1_ v400 : Int32) (k_ : Nat) : Value := bif Nat.beq k_ 1 then .int v1_ else (bif Nat.beq k_ 400 then .int v400 else (.int 0))
def xtkF_s (n_ : Nat) : Nat := 0
theorem xtkF {h_ : xH} {v1_ v400 : Int32} (hs : sHp h_) (o0_ : bpat h_ 323 1 = some (.int v400)) : ∃ h', ysm h_ h' ∧ (((bpat h' 323 1 = some (.int (v400 + (1 : Int32)))) ∧ (∀ a_ j_ : Nat, ¬ (a_ = 323 ∧ j_ = 1) → bpat h' a_ j_ = bpat h_ a_ j_) ∧ (∀ D_, 60 ≤ D_ → xrun D_ 89 12 [(0, .index 0), (1, .int v1_)] [.int (0 : Int32)] h_ (some (.int (Int32.ofInt (-1000001))), h', [])))) := by
  have hA : yas xtkF_A (xtkF_r v1_ v400) (yg xtkF_s) := ⟨fun q_ hq => absurd hq List.not_mem_nil, fun q_ hq => absurd hq List.not_mem_nil, fun q_ hq => absurd hq List.not_mem_nil, fun n_ hn => yg_lo hn, fun q_ hq => absurd hq List.not_mem_nil⟩
  have Hs : ysh xtkF_A.1 (yg xtkF_s) h_ := ysh_of2 hs (fun q_ hq => absurd hq List.not_mem_nil)
  have Ho : ymem (xtkF_r v1_ v400) (yg xtkF_s) xtkF_O h_ := List.forall_mem_cons.mpr ⟨bpat_some (fxr_at hs.2 (show fxk fxl 0 13 = some 323 by decide +kernel)), List.forall_mem_cons.mpr ⟨bpat_some o0_, fun q_ hq => absurd hq List.not_mem_nil⟩⟩
  have HC : ∀ q_ ∈ xtkF_C, xhold (xtkF_r v1_ v400) q_ := fun q_ hq => absurd hq List.not_mem_nil
  rcases yrun (yis_ok xtkF_k) hA Hs Ho HC with ⟨q_, hq, h', K_, G_⟩ | ⟨q_, hq, h', K_, G_⟩
  · cases hq
  · have e_ := List.mem_singleton.mp hq
    subst e_
    exact ⟨h', yfr_sm K_.2.2.2 hs K_.1 (ywa_r xtkF_w List.mem_cons_self), ⟨bpat_of (K_.2.1 _ List.mem_cons_self), fun a_ j_ n0_ => yfr_bp K_.2.2.2 (List.forall_mem_cons.mpr ⟨fun e_ => n0_ ⟨e_.1.symm, e_.2.symm⟩, fun q_ hq => absurd hq List.not_mem_nil⟩), G_⟩⟩
-- xtkG: 5 steps, 1 ends, 0 returns
def xtkG_L : List (Nat × Nat × Nat) := []
def xtkG_O : yO := []
def xtkG_A : yA := (yZ xtkG_L, [], [], [], [])
def xtkG_C : List xB := []
def xtkG_ss : List yS := [(25, [(3, .int 0), (2, .int 0), (0, .index 0), (1, .arg 1)], [], [], [], [])]
def xtkG_rs : List yR := []
theorem xtkG_w : ywa xtkG_A xtkG_ss xtkG_rs = true := by decide +kernel
theorem xtkG_k : yis (yev xtkG_A 3000 60 89 [25] (12, [(0, .index 0), (1, .arg 1)], [.int 1], xtkG_O, xtkG_C, [])) xtkG_ss xtkG_rs = true := by decide +kernel
def xtkG_r (v1_ : Int32) (k_ : Nat) : Value := bif Nat.beq k_ 1 then .int v1_ else (.int 0)
def xtkG_s (n_ : Nat) : Nat := 0
theorem xtkG {h_ : xH} {v1_ : Int32} (hs : sHp h_) : ∃ h', ysm h_ h' ∧ (((∀ a_ j_ : Nat, bpat h' a_ j_ = bpat h_ a_ j_) ∧ (bldD 60 89 12 [(0, .index 0), (1, .int v1_)] [.int (1 : Int32)] h_ 25 [(3, .int (0 : Int32)), (2, .int (0 : Int32)), (0, .index 0), (1, .int v1_)] [] h'))) := by
  have hA : yas xtkG_A (xtkG_r v1_) (yg xtkG_s) := ⟨fun q_ hq => absurd hq List.not_mem_nil, fun q_ hq => absurd hq List.not_mem_nil, fun q_ hq => absurd hq List.not_mem_nil, fun n_ hn => yg_lo hn, fun q_ hq => absurd hq List.not_mem_nil⟩
  have Hs : ysh xtkG_A.1 (yg xtkG_s) h_ := ysh_of2 hs (fun q_ hq => absurd hq List.not_mem_nil)
  have Ho : ymem (xtkG_r v1_) (yg xtkG_s) xtkG_O h_ := fun q_ hq => absurd hq List.not_mem_nil
  have HC : ∀ q_ ∈ xtkG_C, xhold (xtkG_r v1_) q_ := fun q_ hq => absurd hq List.not_mem_nil
  rcases yrun (yis_ok xtkG_k) hA Hs Ho HC with ⟨q_, hq, h', K_, G_⟩ | ⟨q_, hq, h', K_, G_⟩
  · have e_ := List.mem_singleton.mp hq
    subst e_
    exact ⟨h', yfr_sm K_.2.2.2 hs K_.1 (ywa_s xtkG_w List.mem_cons_self), ⟨fun a_ j_ => yfr_bp K_.2.2.2 (fun q_ hq => absurd hq List.not_mem_nil), G_⟩⟩
  · cases hq
-- xtkT: 20 steps, 1 ends, 0 returns
def xtkT_L : List (Nat × Nat × Nat) := [(1000, 5, 3)]
def xtkT_O : yO := [(0, .int 8, .index 314), (314, .int 1, .arg 300), (0, .int 0, .index 1), (1, .int 1, .index 3), (314, .int 0, .index 315), (315, .arg 3, .arg 301), (3, .arg 301, .index 1000), (1000, .int 2, .arg 302)]
def xtkT_A : yA := (yZ xtkT_L, [(.arg 3, 4), (.arg 301, 8)], [], [], [])
def xtkT_C : List xB := [(.lt, .arg 3, .arg 300, true)]
def xtkT_ss : List yS := [(25, [(3, .add (.arg 3) (.int 1)), (2, .add (.arg 2) (.arg 302)), (0, .index 0), (1, .arg 1)], [], [(0, .int 8, .index 314), (314, .int 1, .arg 300), (0, .int 0, .index 1), (1, .int 1, .index 3), (314, .int 0, .index 315), (315, .arg 3, .arg 301), (3, .arg 301, .index 1000), (1000, .int 2, .arg 302)], [(.lt, .arg 3, .arg 300, true)], [])]
def xtkT_rs : List yR := []
theorem xtkT_w : ywa xtkT_A xtkT_ss xtkT_rs = true := by decide +kernel
theorem xtkT_k : yis (yev xtkT_A 3000 60 89 [25] (25, [(3, .arg 3), (2, .arg 2), (0, .index 0), (1, .arg 1)], [], xtkT_O, xtkT_C, [])) xtkT_ss xtkT_rs = true := by decide +kernel
def xtkT_r (v1_ v2 v3 v300 v301 v302 : Int32) (k_ : Nat) : Value := bif Nat.beq k_ 1 then .int v1_ else (bif Nat.beq k_ 2 then .int v2 else (bif Nat.beq k_ 3 then .int v3 else (bif Nat.beq k_ 300 then .int v300 else (bif Nat.beq k_ 301 then .int v301 else (bif Nat.beq k_ 302 then .int v302 else (.int 0))))))
def xtkT_s (a1000 : Nat) (n_ : Nat) : Nat := bif Nat.beq n_ 1000 then a1000 else (0)
theorem xtkT {h_ : xH} {a1000 : Nat} {v1_ v2 v3 v300 v301 v302 : Int32} (hs : sHp h_) (k1000 : bcq h_ a1000 5 3) (o0_ : bpat h_ 314 1 = some (.int v300)) (o1 : bpat h_ 315 (v3).toInt.toNat = some (.int v301)) (o2 : bpat h_ 3 (v301).toInt.toNat = some (.index a1000)) (o3_ : bpat h_ a1000 2 = some (.int v302)) (b0 : 0 ≤ (v3).toInt ∧ (v3).toInt < 4) (b1 : 0 ≤ (v301).toInt ∧ (v301).toInt < 8) (c0_ : v3.toInt < v300.toInt) : ∃ h', ysm h_ h' ∧ (((∀ a_ j_ : Nat, bpat h' a_ j_ = bpat h_ a_ j_) ∧ (bldD 60 89 25 [(3, .int v3), (2, .int v2), (0, .index 0), (1, .int v1_)] [] h_ 25 [(3, .int (v3 + (1 : Int32))), (2, .int (v2 + v302)), (0, .index 0), (1, .int v1_)] [] h'))) := by
  have hA : yas xtkT_A (xtkT_r v1_ v2 v3 v300 v301 v302) (yg (xtkT_s a1000)) := ⟨List.forall_mem_cons.mpr ⟨b0, List.forall_mem_cons.mpr ⟨b1, fun q_ hq => absurd hq List.not_mem_nil⟩⟩, fun q_ hq => absurd hq List.not_mem_nil, fun q_ hq => absurd hq List.not_mem_nil, fun n_ hn => yg_lo hn, fun q_ hq => absurd hq List.not_mem_nil⟩
  have Hs : ysh xtkT_A.1 (yg (xtkT_s a1000)) h_ := ysh_of2 hs (List.forall_mem_cons.mpr ⟨⟨by decide, k1000⟩, fun q_ hq => absurd hq List.not_mem_nil⟩)
  have Ho : ymem (xtkT_r v1_ v2 v3 v300 v301 v302) (yg (xtkT_s a1000)) xtkT_O h_ := List.forall_mem_cons.mpr ⟨bpat_some (fxr_at hs.2 (show fxk fxl 0 8 = some 314 by decide +kernel)), List.forall_mem_cons.mpr ⟨bpat_some o0_, List.forall_mem_cons.mpr ⟨bpat_some (fxr_at hs.2 (show fxk fxl 0 0 = some 1 by decide +kernel)), List.forall_mem_cons.mpr ⟨bpat_some (fxr_at hs.2 (show fxk fxl 1 1 = some 3 by decide +kernel)), List.forall_mem_cons.mpr ⟨bpat_some (fxr_at hs.2 (show fxk fxl 314 0 = some 315 by decide +kernel)), List.forall_mem_cons.mpr ⟨bpat_some o1, List.forall_mem_cons.mpr ⟨bpat_some o2, List.forall_mem_cons.mpr ⟨bpat_some o3_, fun q_ hq => absurd hq List.not_mem_nil⟩⟩⟩⟩⟩⟩⟩⟩
  have HC : ∀ q_ ∈ xtkT_C, xhold (xtkT_r v1_ v2 v3 v300 v301 v302) q_ := List.forall_mem_cons.mpr ⟨xh_ltT c0_, fun q_ hq => absurd hq List.not_mem_nil⟩
  rcases yrun (yis_ok xtkT_k) hA Hs Ho HC with ⟨q_, hq, h', K_, G_⟩ | ⟨q_, hq, h', K_, G_⟩
  · have e_ := List.mem_singleton.mp hq
    subst e_
    exact ⟨h', yfr_sm K_.2.2.2 hs K_.1 (ywa_s xtkT_w List.mem_cons_self), ⟨fun a_ j_ => yfr_bp K_.2.2.2 (fun q_ hq => absurd hq List.not_mem_nil), G_⟩⟩
  · cases hq
-- xtkX: 7 steps, 0 ends, 1 returns
def xtkX_L : List (Nat × Nat × Nat) := []
def xtkX_O : yO := [(0, .int 8, .index 314), (314, .int 1, .arg 300)]
def xtkX_A : yA := (yZ xtkX_L, [], [], [], [])
def xtkX_C : List xB := [(.lt, .arg 3, .arg 300, false)]
def xtkX_ss : List yS := []
def xtkX_rs : List yR := [(some (.arg 2), [(0, .int 8, .index 314), (314, .int 1, .arg 300)], [(.lt, .arg 3, .arg 300, false)], [])]
theorem xtkX_w : ywa xtkX_A xtkX_ss xtkX_rs = true := by decide +kernel
theorem xtkX_k : yis (yev xtkX_A 3000 60 89 [] (25, [(3, .arg 3), (2, .arg 2), (0, .index 0), (1, .arg 1)], [], xtkX_O, xtkX_C, [])) xtkX_ss xtkX_rs = true := by decide +kernel
def xtkX_r (v1_ v2 v3 v300 : Int32) (k_ : Nat) : Value := bif Nat.beq k_ 1 then .int v1_ else (bif Nat.beq k_ 2 then .int v2 else (bif Nat.beq k_ 3 then .int v3 else (bif Nat.beq k_ 300 then .int v300 else (.int 0))))
def xtkX_s (n_ : Nat) : Nat := 0
theorem xtkX {h_ : xH} {v1_ v2 v3 v300 : Int32} (hs : sHp h_) (o0_ : bpat h_ 314 1 = some (.int v300)) (c0_ : v300.toInt ≤ v3.toInt) : ∃ h', ysm h_ h' ∧ (((∀ a_ j_ : Nat, bpat h' a_ j_ = bpat h_ a_ j_) ∧ (∀ D_, 60 ≤ D_ → xrun D_ 89 25 [(3, .int v3), (2, .int v2), (0, .index 0), (1, .int v1_)] [] h_ (some (.int v2), h', [])))) := by
  have hA : yas xtkX_A (xtkX_r v1_ v2 v3 v300) (yg xtkX_s) := ⟨fun q_ hq => absurd hq List.not_mem_nil, fun q_ hq => absurd hq List.not_mem_nil, fun q_ hq => absurd hq List.not_mem_nil, fun n_ hn => yg_lo hn, fun q_ hq => absurd hq List.not_mem_nil⟩
  have Hs : ysh xtkX_A.1 (yg xtkX_s) h_ := ysh_of2 hs (fun q_ hq => absurd hq List.not_mem_nil)
  have Ho : ymem (xtkX_r v1_ v2 v3 v300) (yg xtkX_s) xtkX_O h_ := List.forall_mem_cons.mpr ⟨bpat_some (fxr_at hs.2 (show fxk fxl 0 8 = some 314 by decide +kernel)), List.forall_mem_cons.mpr ⟨bpat_some o0_, fun q_ hq => absurd hq List.not_mem_nil⟩⟩
  have HC : ∀ q_ ∈ xtkX_C, xhold (xtkX_r v1_ v2 v3 v300) q_ := List.forall_mem_cons.mpr ⟨xh_ltF c0_, fun q_ hq => absurd hq List.not_mem_nil⟩
  rcases yrun (yis_ok xtkX_k) hA Hs Ho HC with ⟨q_, hq, h', K_, G_⟩ | ⟨q_, hq, h', K_, G_⟩
  · cases hq
  · have e_ := List.mem_singleton.mp hq
    subst e_
    exact ⟨h', yfr_sm K_.2.2.2 hs K_.1 (ywa_r xtkX_w List.mem_cons_self), ⟨fun a_ j_ => yfr_bp K_.2.2.2 (fun q_ hq => absurd hq List.not_mem_nil), G_⟩⟩
-- mtkE: 2 steps, 1 ends, 0 returns
def mtkE_L : List (Nat × Nat × Nat) := []
def mtkE_O : yO := []
def mtkE_A : yA := (yZ mtkE_L, [], [], [], [])
def mtkE_C : List xB := []
def mtkE_ss : List yS := [(2, [(0, .index 338), (1, .arg 1)], [.arg 1, .index 338], [], [], [])]
def mtkE_rs : List yR := []
theorem mtkE_w : ywa mtkE_A mtkE_ss mtkE_rs = true := by decide +kernel
theorem mtkE_k : yis (yev mtkE_A 3000 60 190 [2] (0, [(0, .index 338), (1, .arg 1)], [], mtkE_O, mtkE_C, [])) mtkE_ss mtkE_rs = true := by decide +kernel
def mtkE_r (v1_ : Int32) (k_ : Nat) : Value := bif Nat.beq k_ 1 then .int v1_ else (.int 0)
def mtkE_s (n_ : Nat) : Nat := 0
theorem mtkE {h_ : xH} {v1_ : Int32} (hs : sHp h_) : ∃ h', ysm h_ h' ∧ (((∀ a_ j_ : Nat, bpat h' a_ j_ = bpat h_ a_ j_) ∧ (bldD 60 190 0 [(0, .index 338), (1, .int v1_)] [] h_ 2 [(0, .index 338), (1, .int v1_)] [.int v1_, .index 338] h'))) := by
  have hA : yas mtkE_A (mtkE_r v1_) (yg mtkE_s) := ⟨fun q_ hq => absurd hq List.not_mem_nil, fun q_ hq => absurd hq List.not_mem_nil, fun q_ hq => absurd hq List.not_mem_nil, fun n_ hn => yg_lo hn, fun q_ hq => absurd hq List.not_mem_nil⟩
  have Hs : ysh mtkE_A.1 (yg mtkE_s) h_ := ysh_of2 hs (fun q_ hq => absurd hq List.not_mem_nil)
  have Ho : ymem (mtkE_r v1_) (yg mtkE_s) mtkE_O h_ := fun q_ hq => absurd hq List.not_mem_nil
  have HC : ∀ q_ ∈ mtkE_C, xhold (mtkE_r v1_) q_ := fun q_ hq => absurd hq List.not_mem_nil
  rcases yrun (yis_ok mtkE_k) hA Hs Ho HC with ⟨q_, hq, h', K_, G_⟩ | ⟨q_, hq, h', K_, G_⟩
  · have e_ := List.mem_singleton.mp hq
    subst e_
    exact ⟨h', yfr_sm K_.2.2.2 hs K_.1 (ywa_s mtkE_w List.mem_cons_self), ⟨fun a_ j_ => yfr_bp K_.2.2.2 (fun q_ hq => absurd hq List.not_mem_nil), G_⟩⟩
  · cases hq
-- mtkF: 17 steps, 0 ends, 1 returns
def mtkF_L : List (Nat × Nat × Nat) := []
def mtkF_O : yO := [(338, .int 3, .index 341), (341, .int 1, .arg 400)]
def mtkF_A : yA := (yZ mtkF_L, [], [], [], [])
def mtkF_C : List xB := []
def mtkF_ss : List yS := []
def mtkF_rs : List yR := [(some (.int (Int32.ofInt (-1000001))), [(341, .int 1, .add (.arg 400) (.int 1)), (338, .int 3, .index 341)], [], [(341, .int 1)])]
theorem mtkF_w : ywa mtkF_A mtkF_ss mtkF_rs = true := by decide +kernel
theorem mtkF_k : yis (yev mtkF_A 3000 60 190 [] (5, [(0, .index 338), (1, .arg 1)], [.int 0], mtkF_O, mtkF_C, [])) mtkF_ss mtkF_rs = true := by decide +kernel
def mtkF_r (v1_ v400 : Int32) (k_ : Nat) : Value := bif Nat.beq k_ 1 then .int v1_ else (bif Nat.beq k_ 400 then .int v400 else (.int 0))
def mtkF_s (n_ : Nat) : Nat := 0
theorem mtkF {h_ : xH} {v1_ v400 : Int32} (hs : sHp h_) (o0_ : bpat h_ 341 1 = some (.int v400)) : ∃ h', ysm h_ h' ∧ (((bpat h' 341 1 = some (.int (v400 + (1 : Int32)))) ∧ (∀ a_ j_ : Nat, ¬ (a_ = 341 ∧ j_ = 1) → bpat h' a_ j_ = bpat h_ a_ j_) ∧ (∀ D_, 60 ≤ D_ → xrun D_ 190 5 [(0, .index 338), (1, .int v1_)] [.int (0 : Int32)] h_ (some (.int (Int32.ofInt (-1000001))), h', [])))) := by
  have hA : yas mtkF_A (mtkF_r v1_ v400) (yg mtkF_s) := ⟨fun q_ hq => absurd hq List.not_mem_nil, fun q_ hq => absurd hq List.not_mem_nil, fun q_ hq => absurd hq List.not_mem_nil, fun n_ hn => yg_lo hn, fun q_ hq => absurd hq List.not_mem_nil⟩
  have Hs : ysh mtkF_A.1 (yg mtkF_s) h_ := ysh_of2 hs (fun q_ hq => absurd hq List.not_mem_nil)
  have Ho : ymem (mtkF_r v1_ v400) (yg mtkF_s) mtkF_O h_ := List.forall_mem_cons.mpr ⟨bpat_some (fxr_at hs.2 (show fxk fxl 338 3 = some 341 by decide +kernel)), List.forall_mem_cons.mpr ⟨bpat_some o0_, fun q_ hq => absurd hq List.not_mem_nil⟩⟩
  have HC : ∀ q_ ∈ mtkF_C, xhold (mtkF_r v1_ v400) q_ := fun q_ hq => absurd hq List.not_mem_nil
  rcases yrun (yis_ok mtkF_k) hA Hs Ho HC with ⟨q_, hq, h', K_, G_⟩ | ⟨q_, hq, h', K_, G_⟩
  · cases hq
  · have e_ := List.mem_singleton.mp hq
    subst e_
    exact ⟨h', yfr_sm K_.2.2.2 hs K_.1 (ywa_r mtkF_w List.mem_cons_self), ⟨bpat_of (K_.2.1 _ List.mem_cons_self), fun a_ j_ n0_ => yfr_bp K_.2.2.2 (List.forall_mem_cons.mpr ⟨fun e_ => n0_ ⟨e_.1.symm, e_.2.symm⟩, fun q_ hq => absurd hq List.not_mem_nil⟩), G_⟩⟩
-- mtkG: 5 steps, 1 ends, 0 returns
def mtkG_L : List (Nat × Nat × Nat) := []
def mtkG_O : yO := []
def mtkG_A : yA := (yZ mtkG_L, [], [], [], [])
def mtkG_C : List xB := []
def mtkG_ss : List yS := [(18, [(3, .arg 1), (2, .int 0), (0, .index 338), (1, .arg 1)], [], [], [], [])]
def mtkG_rs : List yR := []
theorem mtkG_w : ywa mtkG_A mtkG_ss mtkG_rs = true := by decide +kernel
theorem mtkG_k : yis (yev mtkG_A 3000 60 190 [18] (5, [(0, .index 338), (1, .arg 1)], [.int 1], mtkG_O, mtkG_C, [])) mtkG_ss mtkG_rs = true := by decide +kernel
def mtkG_r (v1_ : Int32) (k_ : Nat) : Value := bif Nat.beq k_ 1 then .int v1_ else (.int 0)
def mtkG_s (n_ : Nat) : Nat := 0
theorem mtkG {h_ : xH} {v1_ : Int32} (hs : sHp h_) : ∃ h', ysm h_ h' ∧ (((∀ a_ j_ : Nat, bpat h' a_ j_ = bpat h_ a_ j_) ∧ (bldD 60 190 5 [(0, .index 338), (1, .int v1_)] [.int (1 : Int32)] h_ 18 [(3, .int v1_), (2, .int (0 : Int32)), (0, .index 338), (1, .int v1_)] [] h'))) := by
  have hA : yas mtkG_A (mtkG_r v1_) (yg mtkG_s) := ⟨fun q_ hq => absurd hq List.not_mem_nil, fun q_ hq => absurd hq List.not_mem_nil, fun q_ hq => absurd hq List.not_mem_nil, fun n_ hn => yg_lo hn, fun q_ hq => absurd hq List.not_mem_nil⟩
  have Hs : ysh mtkG_A.1 (yg mtkG_s) h_ := ysh_of2 hs (fun q_ hq => absurd hq List.not_mem_nil)
  have Ho : ymem (mtkG_r v1_) (yg mtkG_s) mtkG_O h_ := fun q_ hq => absurd hq List.not_mem_nil
  have HC : ∀ q_ ∈ mtkG_C, xhold (mtkG_r v1_) q_ := fun q_ hq => absurd hq List.not_mem_nil
  rcases yrun (yis_ok mtkG_k) hA Hs Ho HC with ⟨q_, hq, h', K_, G_⟩ | ⟨q_, hq, h', K_, G_⟩
  · have e_ := List.mem_singleton.mp hq
    subst e_
    exact ⟨h', yfr_sm K_.2.2.2 hs K_.1 (ywa_s mtkG_w List.mem_cons_self), ⟨fun a_ j_ => yfr_bp K_.2.2.2 (fun q_ hq => absurd hq List.not_mem_nil), G_⟩⟩
  · cases hq
-- mtkT: 29 steps, 1 ends, 0 returns
def mtkT_L : List (Nat × Nat × Nat) := []
def mtkT_O : yO := [(338, .int 0, .index 339), (339, .add (.add (.int 10) (.mul (.int 3) (.sub (.rem (.arg 3) (.int 10)) (.int 1)))) (.int 2), .arg 302)]
def mtkT_A : yA := (yZ mtkT_L, [(.add (.add (.int 10) (.mul (.int 3) (.sub (.rem (.arg 3) (.int 10)) (.int 1)))) (.int 2), 768)], [], [], [])
def mtkT_C : List xB := [(.le, .arg 3, .int 0, false)]
def mtkT_ss : List yS := [(18, [(3, .div (.arg 3) (.int 10)), (2, .add (.arg 2) (.arg 302)), (0, .index 338), (1, .arg 1)], [], [(338, .int 0, .index 339), (339, .add (.add (.int 10) (.mul (.int 3) (.sub (.rem (.arg 3) (.int 10)) (.int 1)))) (.int 2), .arg 302)], [(.le, .arg 3, .int 0, false)], [])]
def mtkT_rs : List yR := []
theorem mtkT_w : ywa mtkT_A mtkT_ss mtkT_rs = true := by decide +kernel
theorem mtkT_k : yis (yev mtkT_A 3000 60 190 [18] (18, [(3, .arg 3), (2, .arg 2), (0, .index 338), (1, .arg 1)], [], mtkT_O, mtkT_C, [])) mtkT_ss mtkT_rs = true := by decide +kernel
def mtkT_r (v1_ v2 v3 v302 : Int32) (k_ : Nat) : Value := bif Nat.beq k_ 1 then .int v1_ else (bif Nat.beq k_ 2 then .int v2 else (bif Nat.beq k_ 3 then .int v3 else (bif Nat.beq k_ 302 then .int v302 else (.int 0))))
def mtkT_s (n_ : Nat) : Nat := 0
theorem mtkT {h_ : xH} {v1_ v2 v3 v302 : Int32} (hs : sHp h_) (o0_ : bpat h_ 339 ((((10 : Int32) + ((3 : Int32) * ((v3 - v3 / (10 : Int32) * (10 : Int32)) - (1 : Int32)))) + (2 : Int32))).toInt.toNat = some (.int v302)) (b0 : 0 ≤ ((((10 : Int32) + ((3 : Int32) * ((v3 - v3 / (10 : Int32) * (10 : Int32)) - (1 : Int32)))) + (2 : Int32))).toInt ∧ ((((10 : Int32) + ((3 : Int32) * ((v3 - v3 / (10 : Int32) * (10 : Int32)) - (1 : Int32)))) + (2 : Int32))).toInt < 768) (c0_ : (0 : Int32).toInt < v3.toInt) : ∃ h', ysm h_ h' ∧ (((∀ a_ j_ : Nat, bpat h' a_ j_ = bpat h_ a_ j_) ∧ (bldD 60 190 18 [(3, .int v3), (2, .int v2), (0, .index 338), (1, .int v1_)] [] h_ 18 [(3, .int (v3 / (10 : Int32))), (2, .int (v2 + v302)), (0, .index 338), (1, .int v1_)] [] h'))) := by
  have hA : yas mtkT_A (mtkT_r v1_ v2 v3 v302) (yg mtkT_s) := ⟨List.forall_mem_cons.mpr ⟨b0, fun q_ hq => absurd hq List.not_mem_nil⟩, fun q_ hq => absurd hq List.not_mem_nil, fun q_ hq => absurd hq List.not_mem_nil, fun n_ hn => yg_lo hn, fun q_ hq => absurd hq List.not_mem_nil⟩
  have Hs : ysh mtkT_A.1 (yg mtkT_s) h_ := ysh_of2 hs (fun q_ hq => absurd hq List.not_mem_nil)
  have Ho : ymem (mtkT_r v1_ v2 v3 v302) (yg mtkT_s) mtkT_O h_ := List.forall_mem_cons.mpr ⟨bpat_some (fxr_at hs.2 (show fxk fxl 338 0 = some 339 by decide +kernel)), List.forall_mem_cons.mpr ⟨bpat_some o0_, fun q_ hq => absurd hq List.not_mem_nil⟩⟩
  have HC : ∀ q_ ∈ mtkT_C, xhold (mtkT_r v1_ v2 v3 v302) q_ := List.forall_mem_cons.mpr ⟨xh_leF c0_, fun q_ hq => absurd hq List.not_mem_nil⟩
  rcases yrun (yis_ok mtkT_k) hA Hs Ho HC with ⟨q_, hq, h', K_, G_⟩ | ⟨q_, hq, h', K_, G_⟩
  · have e_ := List.mem_singleton.mp hq
    subst e_
    exact ⟨h', yfr_sm K_.2.2.2 hs K_.1 (ywa_s mtkT_w List.mem_cons_self), ⟨fun a_ j_ => yfr_bp K_.2.2.2 (fun q_ hq => absurd hq List.not_mem_nil), G_⟩⟩
  · cases hq
-- mtkX: 4 steps, 0 ends, 1 returns
def mtkX_L : List (Nat × Nat × Nat) := []
def mtkX_O : yO := []
def mtkX_A : yA := (yZ mtkX_L, [], [], [], [])
def mtkX_C : List xB := [(.le, .arg 3, .int 0, true)]
def mtkX_ss : List yS := []
def mtkX_rs : List yR := [(some (.arg 2), [], [(.le, .arg 3, .int 0, true)], [])]
theorem mtkX_w : ywa mtkX_A mtkX_ss mtkX_rs = true := by decide +kernel
theorem mtkX_k : yis (yev mtkX_A 3000 60 190 [] (18, [(3, .arg 3), (2, .arg 2), (0, .index 338), (1, .arg 1)], [], mtkX_O, mtkX_C, [])) mtkX_ss mtkX_rs = true := by decide +kernel
def mtkX_r (v1_ v2 v3 : Int32) (k_ : Nat) : Value := bif Nat.beq k_ 1 then .int v1_ else (bif Nat.beq k_ 2 then .int v2 else (bif Nat.beq k_ 3 then .int v3 else (.int 0)))
def mtkX_s (n_ : Nat) : Nat := 0
theorem mtkX {h_ : xH} {v1_ v2 v3 : Int32} (hs : sHp h_) (c0_ : v3.toInt ≤ (0 : Int32).toInt) : ∃ h', ysm h_ h' ∧ (((∀ a_ j_ : Nat, bpat h' a_ j_ = bpat h_ a_ j_) ∧ (∀ D_, 60 ≤ D_ → xrun D_ 190 18 [(3, .int v3), (2, .int v2), (0, .index 338), (1, .int v1_)] [] h_ (some (.int v2), h', [])))) := by
  have hA : yas mtkX_A (mtkX_r v1_ v2 v3) (yg mtkX_s) := ⟨fun q_ hq => absurd hq List.not_mem_nil, fun q_ hq => absurd hq List.not_mem_nil, fun q_ hq => absurd hq List.not_mem_nil, fun n_ hn => yg_lo hn, fun q_ hq => absurd hq List.not_mem_nil⟩
  have Hs : ysh mtkX_A.1 (yg mtkX_s) h_ := ysh_of2 hs (fun q_ hq => absurd hq List.not_mem_nil)
  have Ho : ymem (mtkX_r v1_ v2 v3) (yg mtkX_s) mtkX_O h_ := fun q_ hq => absurd hq List.not_mem_nil
  have HC : ∀ q_ ∈ mtkX_C, xhold (mtkX_r v1_ v2 v3) q_ := List.forall_mem_cons.mpr ⟨xh_leT c0_, fun q_ hq => absurd hq List.not_mem_nil⟩
  rcases yrun (yis_ok mtkX_k) hA Hs Ho HC with ⟨q_, hq, h', K_, G_⟩ | ⟨q_, hq, h', K_, G_⟩
  · cases hq
  · have e_ := List.mem_singleton.mp hq
    subst e_
    exact ⟨h', yfr_sm K_.2.2.2 hs K_.1 (ywa_r mtkX_w List.mem_cons_self), ⟨fun a_ j_ => yfr_bp K_.2.2.2 (fun q_ hq => absurd hq List.not_mem_nil), G_⟩⟩
section
variable {W_ : Nat → List Int32} {V : Nat → Int32} {h_ : xH}
def tkS (V : Nat → Int32) (l : List Int32) : Int32 := match l with
  | [] => 0
  | x_ :: t_ => V (12 + 3 * x_.toInt.toNat) + tkS V t_
theorem tkS_sn {x_ : Int32} : ∀ {l : List Int32}, tkS V (l ++ [x_]) = tkS V l + V (12 + 3 * x_.toInt.toNat) := by
  intro l
  induction l with
  | nil =>
    show V (12 + 3 * x_.toInt.toNat) + 0 = 0 + V (12 + 3 * x_.toInt.toNat)
    exact Int32.add_comm _ _
  | cons y_ t_ ih_ =>
    show V (12 + 3 * y_.toInt.toNat) + tkS V (t_ ++ [x_]) = V (12 + 3 * y_.toInt.toNat) + tkS V t_ + V (12 + 3 * x_.toInt.toNat)
    rw [ih_, Int32.add_assoc]
theorem dgl_lo {m_ : Nat} : ∀ s_, dgl m_ (s_ + 1) = dgl (m_ / 10) s_ ++ [Int32.ofNat (m_ % 10) - 1] := by
  intro s_
  induction s_ with
  | zero =>
    show (Int32.ofNat (m_ / 10 ^ 0 % 10) - 1) :: [] = [Int32.ofNat (m_ % 10) - 1]
    rw [Nat.pow_zero, Nat.div_one]
  | succ s_ ih_ =>
    show (Int32.ofNat (m_ / 10 ^ (s_ + 1) % 10) - 1) :: dgl m_ (s_ + 1) = ((Int32.ofNat (m_ / 10 / 10 ^ s_ % 10) - 1) :: dgl (m_ / 10) s_) ++ [Int32.ofNat (m_ % 10) - 1]
    rw [ih_, List.cons_append, Nat.div_div_eq_div_mul, Nat.pow_succ, Nat.mul_comm (10 ^ s_) 10]
theorem wlf_s {f_ m_ : Nat} (z_ : ¬ m_ = 0) : wlf (f_ + 1) m_ = wlf f_ (m_ / 10) + 1 := if_neg z_
theorem wlf_0 {f_ : Nat} : wlf f_ 0 = 0 := by
  cases f_ with
  | zero => rfl
  | succ f_ => exact if_pos rfl
theorem dig_k {N_ m_ s_ : Nat} (hN_ : N_ ≤ 8) (hm_ : m_ ≤ 9999) (a_ : aok N_ m_ (s_ + 1)) : (m_ % 10 - 1 < 8 ∧ Int32.ofNat m_ - Int32.ofNat m_ / (10 : Int32) * (10 : Int32) - 1 = Int32.ofNat (m_ % 10 - 1)) ∧ ((Int32.ofNat (m_ % 10) - 1 = Int32.ofNat (m_ % 10 - 1) ∧ (Int32.ofNat (m_ % 10) - 1).toInt.toNat = m_ % 10 - 1) ∧ (m_ % 10 - 1 < N_ ∧ (Int32.ofNat m_ / (10 : Int32) = Int32.ofNat (m_ / 10) ∧ aok N_ (m_ / 10) s_))) := by
  obtain ⟨⟨k1_, k2_⟩, k3_⟩ := aok_l.mp a_
  have eg : Int32.ofNat m_ - Int32.ofNat m_ / (10 : Int32) * (10 : Int32) = Int32.ofNat (m_ % 10) := i32r (k_ := 10) (by omega) (by omega) (by omega)
  have ed : Int32.ofNat m_ / (10 : Int32) = Int32.ofNat (m_ / 10) := i32d (k_ := 10) (by omega) (by omega) (by omega)
  have e1_ : Int32.ofNat (m_ % 10) - 1 = Int32.ofNat (m_ % 10 - 1) := i32w (k_ := 1) (by omega) (by omega)
  refine ⟨⟨by omega, by rw [eg, e1_]⟩, ⟨e1_, by rw [e1_]; exact i32t (by omega)⟩, by omega, ed, k3_⟩
theorem tk_x {z_ : Int32} {L_ : List Int32} (hL : ∀ x_ ∈ L_, 0 ≤ x_.toInt ∧ x_.toInt < 8) : ∀ (n_ i_ : Nat) (t_ : Int32) (h_ : xH), i_ + n_ = L_.length → SX W_ V h_ → rwx h_ 314 315 4 L_ → ∃ h', ysm h_ h' ∧ ((∀ c_ j_, bpat h' c_ j_ = bpat h_ c_ j_) ∧ ∀ D_, 60 ≤ D_ → xrun D_ 89 25 [(3, .int (Int32.ofNat i_)), (2, .int t_), (0, .index 0), (1, .int z_)] [] h_ (some (.int (t_ + tkS V (L_.drop i_))), h', [])) := by
  intro n_
  induction n_ with
  | zero =>
    intro i_ t_ h_ hi_ H_ R_
    have l4 := R_.2.2.1
    obtain ⟨h1, m1_, f1_, r1_⟩ := xtkX (v1_ := z_) (v2 := t_) (v3 := Int32.ofNat i_) (v300 := Int32.ofNat L_.length) H_.1 R_.2.1.2 (by rw [i32n (by omega), i32n (by omega)]; omega)
    rw [List.drop_eq_nil_of_le (by omega)]
    show ∃ h', ysm h_ h' ∧ ((∀ c_ j_, bpat h' c_ j_ = bpat h_ c_ j_) ∧ ∀ D_, 60 ≤ D_ → xrun D_ 89 25 _ [] h_ (some (.int (t_ + 0)), h', []))
    rw [Int32.add_zero]
    exact ⟨h1, m1_, f1_, r1_⟩
  | succ n_ ih_ =>
    intro i_ t_ h_ hi_ H_ R_
    have l4 := R_.2.2.1
    have lt_ : i_ < L_.length := by omega
    obtain ⟨w1_, w2_⟩ := hL _ (List.getElem_mem lt_)
    obtain ⟨p1_, p2_⟩ := rck_ok (k_ := L_[i_].toInt.toNat) H_.1 (by omega)
    have ie := rk_in (k_ := L_[i_].toInt.toNat) (j_ := 2) (by omega) (by omega)
    obtain ⟨h1, m1_, f1_, ld1⟩ := xtkT (v1_ := z_) (v2 := t_) (v3 := Int32.ofNat i_) (v300 := Int32.ofNat L_.length) (v301 := L_[i_]) H_.1 p2_ R_.2.1.2 (by rw [i32t (by omega)]; exact R_.2.2.2 i_ _ (List.getElem?_eq_getElem lt_)) p1_ (SX_v H_ ie.1) ⟨by rw [i32n (by omega)]; omega, by rw [i32n (by omega)]; omega⟩ ⟨w1_, by omega⟩ (by rw [i32n (by omega), i32n (by omega)]; omega)
    rw [i32s] at ld1
    obtain ⟨h2, m2_, f2_, r2⟩ := ih_ (i_ + 1) (t_ + V (10 + 3 * L_[i_].toInt.toNat + 2)) h1 (by omega) (SX_fr H_ m1_ (fun c_ j_ _ => f1_ c_ j_)) (rwx_keep R_ m1_ (fun c_ j_ _ => f1_ c_ j_))
    rw [List.drop_eq_getElem_cons lt_]
    have es : t_ + tkS V (L_[i_] :: L_.drop (i_ + 1)) = t_ + V (10 + 3 * L_[i_].toInt.toNat + 2) + tkS V (L_.drop (i_ + 1)) := by
      show t_ + (V (12 + 3 * L_[i_].toInt.toNat) + tkS V (L_.drop (i_ + 1))) = _
      rw [Int32.add_assoc, show 12 + 3 * L_[i_].toInt.toNat = 10 + 3 * L_[i_].toInt.toNat + 2 by omega]
    rw [es]
    exact ⟨h2, ysm_tr m1_ m2_, fun c_ j_ => (f2_ c_ j_).trans (f1_ c_ j_), fun D_ hD => ld1 D_ hD _ (r2 D_ hD)⟩
theorem tk_m {N_ : Nat} (hN_ : N_ ≤ 8) {u_ : Int32} : ∀ (f_ m_ : Nat) (t_ : Int32) (h_ : xH), m_ < 10 ^ f_ → m_ ≤ 9999 → aok N_ m_ (wlf f_ m_) → SM W_ V h_ → ∃ h', ysm h_ h' ∧ ((∀ c_ j_, bpat h' c_ j_ = bpat h_ c_ j_) ∧ ∀ D_, 60 ≤ D_ → xrun D_ 190 18 [(3, .int (Int32.ofNat m_)), (2, .int t_), (0, .index 338), (1, .int u_)] [] h_ (some (.int (t_ + tkS V (dgl m_ (wlf f_ m_)))), h', [])) := by
  intro f_
  have z0 := z0_
  have stop_ : ∀ (f_ : Nat) (t_ : Int32) (h_ : xH), SM W_ V h_ → ∃ h', ysm h_ h' ∧ ((∀ c_ j_, bpat h' c_ j_ = bpat h_ c_ j_) ∧ ∀ D_, 60 ≤ D_ → xrun D_ 190 18 [(3, .int (Int32.ofNat 0)), (2, .int t_), (0, .index 338), (1, .int u_)] [] h_ (some (.int (t_ + tkS V (dgl 0 (wlf f_ 0)))), h', [])) := by
    intro f_ t_ h_ H_
    obtain ⟨h1, m1_, f1_, r1_⟩ := mtkX (v1_ := u_) (v2 := t_) (v3 := Int32.ofNat 0) H_.1 (by decide)
    rw [wlf_0]
    show ∃ h', ysm h_ h' ∧ ((∀ c_ j_, bpat h' c_ j_ = bpat h_ c_ j_) ∧ ∀ D_, 60 ≤ D_ → xrun D_ 190 18 _ [] h_ (some (.int (t_ + 0)), h', []))
    rw [Int32.add_zero]
    exact ⟨h1, m1_, f1_, r1_⟩
  induction f_ with
  | zero =>
    intro m_ t_ h_ hm_ hm2 a_ H_
    have e_ : m_ = 0 := by simpa using hm_
    subst e_
    exact stop_ 0 t_ h_ H_
  | succ f_ ih_ =>
    intro m_ t_ h_ hm_ hm2 a_ H_
    by_cases z_ : m_ = 0
    · subst z_
      exact stop_ (f_ + 1) t_ h_ H_
    rw [wlf_s z_] at a_ ⊢
    obtain ⟨⟨k8_, ek⟩, ⟨e1_, e2_⟩, kN_, ed, a'⟩ := dig_k hN_ hm2 a_
    have ie := rk_in (k_ := m_ % 10 - 1) (j_ := 2) k8_ (by omega)
    obtain ⟨i0_, b0⟩ := ik2_ (k_ := m_ % 10 - 1) (j_ := 2) k8_ (by omega)
    have i0_ : ((10 : Int32) + 3 * Int32.ofNat (m_ % 10 - 1) + 2).toInt.toNat = 10 + 3 * (m_ % 10 - 1) + 2 := i0_
    have b0 : 0 ≤ ((10 : Int32) + 3 * Int32.ofNat (m_ % 10 - 1) + 2).toInt ∧ ((10 : Int32) + 3 * Int32.ofNat (m_ % 10 - 1) + 2).toInt < 768 := b0
    obtain ⟨h1, m1_, f1_, ld1⟩ := mtkT (v1_ := u_) (v2 := t_) (v3 := Int32.ofNat m_) H_.1 (by rw [ek, i0_]; exact SM_v H_ ie.2) (by rw [ek]; exact b0) (by rw [i32n (by omega)]; omega)
    rw [ed] at ld1
    obtain ⟨h2, m2_, f2_, r2⟩ := ih_ (m_ / 10) (t_ + V (10 + 3 * (m_ % 10 - 1) + 2)) h1 (by rw [Nat.pow_succ] at hm_; omega) (by omega) a' (SM_fr H_ m1_ (fun c_ j_ _ => f1_ c_ j_))
    have es : t_ + tkS V (dgl m_ (wlf f_ (m_ / 10) + 1)) = t_ + V (10 + 3 * (m_ % 10 - 1) + 2) + tkS V (dgl (m_ / 10) (wlf f_ (m_ / 10))) := by
      rw [dgl_lo, tkS_sn, e2_, Int32.add_comm (tkS V _) _, ← Int32.add_assoc, show 12 + 3 * (m_ % 10 - 1) = 10 + 3 * (m_ % 10 - 1) + 2 by omega]
    rw [es]
    exact ⟨h2, ysm_tr m1_ m2_, fun c_ j_ => (f2_ c_ j_).trans (f1_ c_ j_), fun D_ hD => ld1 D_ hD _ (r2 D_ hD)⟩
noncomputable def takesF (W_ : Nat → List Int32) (V : Nat → Int32) (d_ : Int32) : (Nat → List Int32) × (Nat → Int32) × Int32 := pif (isW (nR V) d_) (W_, V, tkS V (wyl d_)) (W_, V, Int32.ofInt (-1000001))
theorem ok_takes (K_ : okS W_ V) (d_ : Int32) : okS (takesF W_ V d_).1 (takesF W_ V d_).2.1 := by
  unfold takesF pif
  split <;> exact K_
end
theorem x_takes {W_ : Nat → List Int32} {V : Nat → Int32} {h_ : xH} {d_ : Int32} (B_ : bInv bZ bIj h_) (K_ : okS W_ V) (H_ : SX W_ V h_) : ∃ h', ysm h_ h' ∧ (SX (takesF W_ V d_).1 (takesF W_ V d_).2.1 h' ∧ ∀ D_, 64 ≤ D_ → xrun D_ 89 0 [(0, .index 0), (1, .int d_)] [] h_ (some (.int (takesF W_ V d_).2.2), h', [])) := by
  obtain ⟨y_, oy⟩ := xerr (k_ := 1) B_ (by omega)
  unfold takesF
  obtain ⟨h0, m0_, f_, r_⟩ := xtkE (v1_ := d_) H_.1
  have H0 := SX_fr H_ m0_ (fun c_ j_ _ => f_ c_ j_)
  obtain ⟨h1, ⟨H1_, F1_⟩, e1_⟩ := c_rdw (mi := 89) (pc := 9) (lo_ := [(0, .index 0), (1, .int d_)]) (z_ := d_) (s' := []) rfl (xcc_l (List.forall_mem_cons.mpr ⟨xidx_i (bcq_lt (bcq_of (n_ := 0) (z_ := (11, 15)) H0.1 rfl)), List.forall_mem_cons.mpr ⟨rfl, fun q_ hq => absurd hq List.not_mem_nil⟩⟩) (fun t_ ht => absurd ht List.not_mem_nil) (Nat.le_of_ble_eq_true rfl)) K_ H0 (Or.inl ⟨rfl, rfl⟩)
  have fy : bpat h1 323 1 = some (.int y_) := (F1_.2 _ _ (by omega) (by omega)).trans ((f_ _ _).trans oy)
  rcases e1_ with ⟨gw, RW, ld1⟩ | ⟨gw, ld1⟩
  · rw [pif_t gw]
    obtain ⟨h2, m2_, f2_, ld2⟩ := xtkG (v1_ := d_) H1_.1
    have H2_ := SX_fr H1_ m2_ (fun c_ j_ _ => f2_ c_ j_)
    have n8 := (nR_le K_).1
    obtain ⟨h3, m3_, f3_, r3⟩ := tk_x (z_ := d_) (L_ := wyl d_) (fun x_ hx => ⟨(isW_l gw n8 x_ hx).1, by have := (isW_l gw n8 x_ hx).2; omega⟩) (wyl d_).length 0 0 h2 (by omega) H2_ (rwx_keep RW m2_ (fun c_ j_ _ => f2_ c_ j_))
    rw [List.drop_zero, Int32.zero_add] at r3
    exact ⟨h3, ysm_tr m0_ (ysm_tr F1_.1 (ysm_tr m2_ m3_)), SX_fr H2_ m3_ (fun c_ j_ _ => f3_ c_ j_), fun D_ hD => r_ D_ (by omega) _ (ld1 D_ (by omega) _ (ld2 D_ (by omega) _ (r3 D_ (by omega))))⟩
  · rw [pif_f gw]
    obtain ⟨h2, m2_, w0_, f2_, r2⟩ := xtkF (v1_ := d_) H1_.1 fy
    exact ⟨h2, ysm_tr m0_ (ysm_tr F1_.1 m2_), SX_e H1_ m2_ f2_, fun D_ hD => r_ D_ (by omega) _ (ld1 D_ (by omega) _ (r2 D_ (by omega)))⟩
theorem m_takes {W_ : Nat → List Int32} {V : Nat → Int32} {h_ : xH} {d_ : Int32} (B_ : bInv bZ bIj h_) (K_ : okS W_ V) (H_ : SM W_ V h_) : ∃ h', ysm h_ h' ∧ (SM (takesF W_ V d_).1 (takesF W_ V d_).2.1 h' ∧ ∀ D_, 64 ≤ D_ → xrun D_ 190 0 [(0, .index 338), (1, .int d_)] [] h_ (some (.int (takesF W_ V d_).2.2), h', [])) := by
  obtain ⟨y_, oy⟩ := merr (k_ := 1) B_ (by omega)
  unfold takesF
  obtain ⟨h0, m0_, f_, r_⟩ := mtkE (v1_ := d_) H_.1
  have H0 := SM_fr H_ m0_ (fun c_ j_ _ => f_ c_ j_)
  obtain ⟨h1, ⟨H1_, F1_⟩, e1_⟩ := c_isw (mi := 190) (pc := 2) (lo_ := [(0, .index 338), (1, .int d_)]) (z_ := d_) (s' := []) rfl (xcc_l (List.forall_mem_cons.mpr ⟨xidx_i (bcq_lt (bcq_of (n_ := 338) (z_ := (12, 26)) H0.1 rfl)), List.forall_mem_cons.mpr ⟨rfl, fun q_ hq => absurd hq List.not_mem_nil⟩⟩) (fun t_ ht => absurd ht List.not_mem_nil) (Nat.le_of_ble_eq_true rfl)) K_ H0
  have fy : bpat h1 341 1 = some (.int y_) := (F1_.2 _ _).trans ((f_ _ _).trans oy)
  rcases e1_ with ⟨gw, ld1⟩ | ⟨gw, ld1⟩
  · rw [pif_t gw]
    obtain ⟨h2, m2_, f2_, ld2⟩ := mtkG (v1_ := d_) H1_.1
    have H2_ := SM_fr H1_ m2_ (fun c_ j_ _ => f2_ c_ j_)
    have g9 := gw.1.2
    have ed : d_ = Int32.ofNat d_.toInt.toNat := Int32.toInt_inj.mp (by have := gw.1.1; rw [i32n (by omega)]; omega)
    obtain ⟨h3, m3_, f3_, r3⟩ := tk_m (u_ := d_) (nR_le K_).1 5 d_.toInt.toNat 0 h2 (by omega) (by omega) gw.2 H2_
    rw [← ed, Int32.zero_add] at r3
    exact ⟨h3, ysm_tr m0_ (ysm_tr F1_.1 (ysm_tr m2_ m3_)), SM_fr H2_ m3_ (fun c_ j_ _ => f3_ c_ j_), fun D_ hD => r_ D_ (by omega) _ (ld1 D_ (by omega) _ (ld2 D_ (by omega) _ (r3 D_ (by omega))))⟩
  · rw [pif_f gw]
    obtain ⟨h2, m2_, w0_, f2_, r2⟩ := mtkF (v1_ := d_) H1_.1 fy
    exact ⟨h2, ysm_tr m0_ (ysm_tr F1_.1 m2_), SM_e H1_ m2_ f2_, fun D_ hD => r_ D_ (by omega) _ (ld1 D_ (by omega) _ (r2 D_ (by omega)))⟩
