-- ===== meant, the class
-- xaiA: 2 steps, 1 ends, 0 returns
def xaiA_L : List (Nat × Nat × Nat) := [(1000, 6, 2)]
def xaiA_O : yO := []
def xaiA_A : yA := (yZ xaiA_L, [], [], [], [])
def xaiA_C : List xB := []
def xaiA_ss : List yS := [(2, [(2, .int 0), (0, .index 155), (1, .index 1000)], [], [], [], [])]
def xaiA_rs : List yR := []
theorem xaiA_w : ywa xaiA_A xaiA_ss xaiA_rs = true := by decide +kernel
theorem xaiA_k : yis (yev xaiA_A 3000 60 18 [2] (0, [(0, .index 155), (1, .index 1000)], [], xaiA_O, xaiA_C, [])) xaiA_ss xaiA_rs = true := by decide +kernel
def xaiA_r (k_ : Nat) : Value := .int 0
def xaiA_s (a1000 : Nat) (n_ : Nat) : Nat := bif Nat.beq n_ 1000 then a1000 else (0)
theorem xaiA {h_ : xH} {a1000 : Nat} (hs : sHp h_) (k1000 : bcq h_ a1000 6 2) : ∃ h', ysm h_ h' ∧ (((∀ a_ j_ : Nat, bpat h' a_ j_ = bpat h_ a_ j_) ∧ (bldD 60 18 0 [(0, .index 155), (1, .index a1000)] [] h_ 2 [(2, .int (0 : Int32)), (0, .index 155), (1, .index a1000)] [] h'))) := by
  have hA : yas xaiA_A xaiA_r (yg (xaiA_s a1000)) := ⟨fun q_ hq => absurd hq List.not_mem_nil, fun q_ hq => absurd hq List.not_mem_nil, fun q_ hq => absurd hq List.not_mem_nil, fun n_ hn => yg_lo hn, fun q_ hq => absurd hq List.not_mem_nil⟩
  have Hs : ysh xaiA_A.1 (yg (xaiA_s a1000)) h_ := ysh_of2 hs (List.forall_mem_cons.mpr ⟨⟨by decide, k1000⟩, fun q_ hq => absurd hq List.not_mem_nil⟩)
  have Ho : ymem xaiA_r (yg (xaiA_s a1000)) xaiA_O h_ := fun q_ hq => absurd hq List.not_mem_nil
  have HC : ∀ q_ ∈ xaiA_C, xhold xaiA_r q_ := fun q_ hq => absurd hq List.not_mem_nil
  rcases yrun (yis_ok xaiA_k) hA Hs Ho HC with ⟨q_, hq, h', K_, G_⟩ | ⟨q_, hq, h', K_, G_⟩
  · have e_ := List.mem_singleton.mp hq
    subst e_
    exact ⟨h', yfr_sm K_.2.2.2 hs K_.1 (ywa_s xaiA_w List.mem_cons_self), ⟨fun a_ j_ => yfr_bp K_.2.2.2 (fun q_ hq => absurd hq List.not_mem_nil), G_⟩⟩
  · cases hq
-- xaiT: 9 steps, 1 ends, 0 returns
def xaiT_L : List (Nat × Nat × Nat) := [(1000, 6, 2), (1001, 6, 2)]
def xaiT_O : yO := [(155, .int 2, .arg 300), (155, .int 0, .index 156), (156, .arg 2, .index 1001)]
def xaiT_A : yA := (yZ xaiT_L, [(.arg 2, 73)], [], [], [])
def xaiT_C : List xB := [(.lt, .arg 2, .arg 300, true)]
def xaiT_ss : List yS := [(17, [(2, .arg 2), (0, .index 155), (1, .index 1000)], [.index 1000, .index 1001], [(155, .int 2, .arg 300), (155, .int 0, .index 156), (156, .arg 2, .index 1001)], [(.lt, .arg 2, .arg 300, true)], [])]
def xaiT_rs : List yR := []
theorem xaiT_w : ywa xaiT_A xaiT_ss xaiT_rs = true := by decide +kernel
theorem xaiT_k : yis (yev xaiT_A 3000 60 18 [17] (2, [(2, .arg 2), (0, .index 155), (1, .index 1000)], [], xaiT_O, xaiT_C, [])) xaiT_ss xaiT_rs = true := by decide +kernel
def xaiT_r (v2 v300 : Int32) (k_ : Nat) : Value := bif Nat.beq k_ 2 then .int v2 else (bif Nat.beq k_ 300 then .int v300 else (.int 0))
def xaiT_s (a1000 a1001 : Nat) (n_ : Nat) : Nat := bif Nat.beq n_ 1000 then a1000 else (bif Nat.beq n_ 1001 then a1001 else (0))
theorem xaiT {h_ : xH} {a1000 a1001 : Nat} {v2 v300 : Int32} (hs : sHp h_) (k1000 : bcq h_ a1000 6 2) (k1001 : bcq h_ a1001 6 2) (o0_ : bpat h_ 155 2 = some (.int v300)) (o1 : bpat h_ 156 (v2).toInt.toNat = some (.index a1001)) (b0 : 0 ≤ (v2).toInt ∧ (v2).toInt < 73) (c0_ : v2.toInt < v300.toInt) : ∃ h', ysm h_ h' ∧ (((∀ a_ j_ : Nat, bpat h' a_ j_ = bpat h_ a_ j_) ∧ (bldD 60 18 2 [(2, .int v2), (0, .index 155), (1, .index a1000)] [] h_ 17 [(2, .int v2), (0, .index 155), (1, .index a1000)] [.index a1000, .index a1001] h'))) := by
  have hA : yas xaiT_A (xaiT_r v2 v300) (yg (xaiT_s a1000 a1001)) := ⟨List.forall_mem_cons.mpr ⟨b0, fun q_ hq => absurd hq List.not_mem_nil⟩, fun q_ hq => absurd hq List.not_mem_nil, fun q_ hq => absurd hq List.not_mem_nil, fun n_ hn => yg_lo hn, fun q_ hq => absurd hq List.not_mem_nil⟩
  have Hs : ysh xaiT_A.1 (yg (xaiT_s a1000 a1001)) h_ := ysh_of2 hs (List.forall_mem_cons.mpr ⟨⟨by decide, k1000⟩, List.forall_mem_cons.mpr ⟨⟨by decide, k1001⟩, fun q_ hq => absurd hq List.not_mem_nil⟩⟩)
  have Ho : ymem (xaiT_r v2 v300) (yg (xaiT_s a1000 a1001)) xaiT_O h_ := List.forall_mem_cons.mpr ⟨bpat_some o0_, List.forall_mem_cons.mpr ⟨bpat_some (fxr_at hs.2 (show fxk fxl 155 0 = some 156 by decide +kernel)), List.forall_mem_cons.mpr ⟨bpat_some o1, fun q_ hq => absurd hq List.not_mem_nil⟩⟩⟩
  have HC : ∀ q_ ∈ xaiT_C, xhold (xaiT_r v2 v300) q_ := List.forall_mem_cons.mpr ⟨xh_ltT c0_, fun q_ hq => absurd hq List.not_mem_nil⟩
  rcases yrun (yis_ok xaiT_k) hA Hs Ho HC with ⟨q_, hq, h', K_, G_⟩ | ⟨q_, hq, h', K_, G_⟩
  · have e_ := List.mem_singleton.mp hq
    subst e_
    exact ⟨h', yfr_sm K_.2.2.2 hs K_.1 (ywa_s xaiT_w List.mem_cons_self), ⟨fun a_ j_ => yfr_bp K_.2.2.2 (fun q_ hq => absurd hq List.not_mem_nil), G_⟩⟩
  · cases hq
-- xaiR1: 2 steps, 0 ends, 1 returns
def xaiR1_L : List (Nat × Nat × Nat) := [(1000, 6, 2)]
def xaiR1_O : yO := []
def xaiR1_A : yA := (yZ xaiR1_L, [], [], [], [])
def xaiR1_C : List xB := []
def xaiR1_ss : List yS := []
def xaiR1_rs : List yR := [(none, [], [], [])]
theorem xaiR1_w : ywa xaiR1_A xaiR1_ss xaiR1_rs = true := by decide +kernel
theorem xaiR1_k : yis (yev xaiR1_A 3000 60 18 [] (20, [(2, .arg 2), (0, .index 155), (1, .index 1000)], [.int 1], xaiR1_O, xaiR1_C, [])) xaiR1_ss xaiR1_rs = true := by decide +kernel
def xaiR1_r (v2 : Int32) (k_ : Nat) : Value := bif Nat.beq k_ 2 then .int v2 else (.int 0)
def xaiR1_s (a1000 : Nat) (n_ : Nat) : Nat := bif Nat.beq n_ 1000 then a1000 else (0)
theorem xaiR1 {h_ : xH} {a1000 : Nat} {v2 : Int32} (hs : sHp h_) (k1000 : bcq h_ a1000 6 2) : ∃ h', ysm h_ h' ∧ (((∀ a_ j_ : Nat, bpat h' a_ j_ = bpat h_ a_ j_) ∧ (∀ D_, 60 ≤ D_ → xrun D_ 18 20 [(2, .int v2), (0, .index 155), (1, .index a1000)] [.int (1 : Int32)] h_ (none, h', [])))) := by
  have hA : yas xaiR1_A (xaiR1_r v2) (yg (xaiR1_s a1000)) := ⟨fun q_ hq => absurd hq List.not_mem_nil, fun q_ hq => absurd hq List.not_mem_nil, fun q_ hq => absurd hq List.not_mem_nil, fun n_ hn => yg_lo hn, fun q_ hq => absurd hq List.not_mem_nil⟩
  have Hs : ysh xaiR1_A.1 (yg (xaiR1_s a1000)) h_ := ysh_of2 hs (List.forall_mem_cons.mpr ⟨⟨by decide, k1000⟩, fun q_ hq => absurd hq List.not_mem_nil⟩)
  have Ho : ymem (xaiR1_r v2) (yg (xaiR1_s a1000)) xaiR1_O h_ := fun q_ hq => absurd hq List.not_mem_nil
  have HC : ∀ q_ ∈ xaiR1_C, xhold (xaiR1_r v2) q_ := fun q_ hq => absurd hq List.not_mem_nil
  rcases yrun (yis_ok xaiR1_k) hA Hs Ho HC with ⟨q_, hq, h', K_, G_⟩ | ⟨q_, hq, h', K_, G_⟩
  · cases hq
  · have e_ := List.mem_singleton.mp hq
    subst e_
    exact ⟨h', yfr_sm K_.2.2.2 hs K_.1 (ywa_r xaiR1_w List.mem_cons_self), ⟨fun a_ j_ => yfr_bp K_.2.2.2 (fun q_ hq => absurd hq List.not_mem_nil), G_⟩⟩
-- xaiR0: 3 steps, 1 ends, 0 returns
def xaiR0_L : List (Nat × Nat × Nat) := [(1000, 6, 2)]
def xaiR0_O : yO := []
def xaiR0_A : yA := (yZ xaiR0_L, [], [], [], [])
def xaiR0_C : List xB := []
def xaiR0_ss : List yS := [(2, [(2, .add (.arg 2) (.int 1)), (0, .index 155), (1, .index 1000)], [], [], [], [])]
def xaiR0_rs : List yR := []
theorem xaiR0_w : ywa xaiR0_A xaiR0_ss xaiR0_rs = true := by decide +kernel
theorem xaiR0_k : yis (yev xaiR0_A 3000 60 18 [2] (20, [(2, .arg 2), (0, .index 155), (1, .index 1000)], [.int 0], xaiR0_O, xaiR0_C, [])) xaiR0_ss xaiR0_rs = true := by decide +kernel
def xaiR0_r (v2 : Int32) (k_ : Nat) : Value := bif Nat.beq k_ 2 then .int v2 else (.int 0)
def xaiR0_s (a1000 : Nat) (n_ : Nat) : Nat := bif Nat.beq n_ 1000 then a1000 else (0)
theorem xaiR0 {h_ : xH} {a1000 : Nat} {v2 : Int32} (hs : sHp h_) (k1000 : bcq h_ a1000 6 2) : ∃ h', ysm h_ h' ∧ (((∀ a_ j_ : Nat, bpat h' a_ j_ = bpat h_ a_ j_) ∧ (bldD 60 18 20 [(2, .int v2), (0, .index 155), (1, .index a1000)] [.int (0 : Int32)] h_ 2 [(2, .int (v2 + (1 : Int32))), (0, .index 155), (1, .index a1000)] [] h'))) := by
  have hA : yas xaiR0_A (xaiR0_r v2) (yg (xaiR0_s a1000)) := ⟨fun q_ hq => absurd hq List.not_mem_nil, fun q_ hq => absurd hq List.not_mem_nil, fun q_ hq => absurd hq List.not_mem_nil, fun n_ hn => yg_lo hn, fun q_ hq => absurd hq List.not_mem_nil⟩
  have Hs : ysh xaiR0_A.1 (yg (xaiR0_s a1000)) h_ := ysh_of2 hs (List.forall_mem_cons.mpr ⟨⟨by decide, k1000⟩, fun q_ hq => absurd hq List.not_mem_nil⟩)
  have Ho : ymem (xaiR0_r v2) (yg (xaiR0_s a1000)) xaiR0_O h_ := fun q_ hq => absurd hq List.not_mem_nil
  have HC : ∀ q_ ∈ xaiR0_C, xhold (xaiR0_r v2) q_ := fun q_ hq => absurd hq List.not_mem_nil
  rcases yrun (yis_ok xaiR0_k) hA Hs Ho HC with ⟨q_, hq, h', K_, G_⟩ | ⟨q_, hq, h', K_, G_⟩
  · have e_ := List.mem_singleton.mp hq
    subst e_
    exact ⟨h', yfr_sm K_.2.2.2 hs K_.1 (ywa_s xaiR0_w List.mem_cons_self), ⟨fun a_ j_ => yfr_bp K_.2.2.2 (fun q_ hq => absurd hq List.not_mem_nil), G_⟩⟩
  · cases hq
-- xaiF: 14 steps, 1 ends, 0 returns
def xaiF_L : List (Nat × Nat × Nat) := [(1000, 6, 2), (1001, 6, 2)]
def xaiF_O : yO := [(155, .int 2, .arg 300), (155, .int 0, .index 156), (156, .arg 300, .index 1001)]
def xaiF_A : yA := (yZ xaiF_L, [(.arg 300, 73)], [], [], [])
def xaiF_C : List xB := [(.lt, .arg 300, .int 73, true), (.lt, .arg 2, .arg 300, false)]
def xaiF_ss : List yS := [(49, [(2, .arg 2), (0, .index 155), (1, .index 1000)], [.index 1000, .index 1001], [(155, .int 2, .arg 300), (155, .int 0, .index 156), (156, .arg 300, .index 1001)], [(.lt, .arg 300, .int 73, true), (.lt, .arg 2, .arg 300, false)], [])]
def xaiF_rs : List yR := []
theorem xaiF_w : ywa xaiF_A xaiF_ss xaiF_rs = true := by decide +kernel
theorem xaiF_k : yis (yev xaiF_A 3000 60 18 [49] (2, [(2, .arg 2), (0, .index 155), (1, .index 1000)], [], xaiF_O, xaiF_C, [])) xaiF_ss xaiF_rs = true := by decide +kernel
def xaiF_r (v2 v300 : Int32) (k_ : Nat) : Value := bif Nat.beq k_ 2 then .int v2 else (bif Nat.beq k_ 300 then .int v300 else (.int 0))
def xaiF_s (a1000 a1001 : Nat) (n_ : Nat) : Nat := bif Nat.beq n_ 1000 then a1000 else (bif Nat.beq n_ 1001 then a1001 else (0))
theorem xaiF {h_ : xH} {a1000 a1001 : Nat} {v2 v300 : Int32} (hs : sHp h_) (k1000 : bcq h_ a1000 6 2) (k1001 : bcq h_ a1001 6 2) (o0_ : bpat h_ 155 2 = some (.int v300)) (o1 : bpat h_ 156 (v300).toInt.toNat = some (.index a1001)) (b0 : 0 ≤ (v300).toInt ∧ (v300).toInt < 73) (c0_ : v300.toInt < (73 : Int32).toInt) (c1_ : v300.toInt ≤ v2.toInt) : ∃ h', ysm h_ h' ∧ (((∀ a_ j_ : Nat, bpat h' a_ j_ = bpat h_ a_ j_) ∧ (bldD 60 18 2 [(2, .int v2), (0, .index 155), (1, .index a1000)] [] h_ 49 [(2, .int v2), (0, .index 155), (1, .index a1000)] [.index a1000, .index a1001] h'))) := by
  have hA : yas xaiF_A (xaiF_r v2 v300) (yg (xaiF_s a1000 a1001)) := ⟨List.forall_mem_cons.mpr ⟨b0, fun q_ hq => absurd hq List.not_mem_nil⟩, fun q_ hq => absurd hq List.not_mem_nil, fun q_ hq => absurd hq List.not_mem_nil, fun n_ hn => yg_lo hn, fun q_ hq => absurd hq List.not_mem_nil⟩
  have Hs : ysh xaiF_A.1 (yg (xaiF_s a1000 a1001)) h_ := ysh_of2 hs (List.forall_mem_cons.mpr ⟨⟨by decide, k1000⟩, List.forall_mem_cons.mpr ⟨⟨by decide, k1001⟩, fun q_ hq => absurd hq List.not_mem_nil⟩⟩)
  have Ho : ymem (xaiF_r v2 v300) (yg (xaiF_s a1000 a1001)) xaiF_O h_ := List.forall_mem_cons.mpr ⟨bpat_some o0_, List.forall_mem_cons.mpr ⟨bpat_some (fxr_at hs.2 (show fxk fxl 155 0 = some 156 by decide +kernel)), List.forall_mem_cons.mpr ⟨bpat_some o1, fun q_ hq => absurd hq List.not_mem_nil⟩⟩⟩
  have HC : ∀ q_ ∈ xaiF_C, xhold (xaiF_r v2 v300) q_ := List.forall_mem_cons.mpr ⟨xh_ltT c0_, List.forall_mem_cons.mpr ⟨xh_ltF c1_, fun q_ hq => absurd hq List.not_mem_nil⟩⟩
  rcases yrun (yis_ok xaiF_k) hA Hs Ho HC with ⟨q_, hq, h', K_, G_⟩ | ⟨q_, hq, h', K_, G_⟩
  · have e_ := List.mem_singleton.mp hq
    subst e_
    exact ⟨h', yfr_sm K_.2.2.2 hs K_.1 (ywa_s xaiF_w List.mem_cons_self), ⟨fun a_ j_ => yfr_bp K_.2.2.2 (fun q_ hq => absurd hq List.not_mem_nil), G_⟩⟩
  · cases hq
-- xaiG: 7 steps, 0 ends, 1 returns
def xaiG_L : List (Nat × Nat × Nat) := [(1000, 6, 2)]
def xaiG_O : yO := [(155, .int 2, .arg 300)]
def xaiG_A : yA := (yZ xaiG_L, [], [], [], [])
def xaiG_C : List xB := []
def xaiG_ss : List yS := []
def xaiG_rs : List yR := [(none, [(155, .int 2, .add (.arg 300) (.int 1))], [], [(155, .int 2)])]
theorem xaiG_w : ywa xaiG_A xaiG_ss xaiG_rs = true := by decide +kernel
theorem xaiG_k : yis (yev xaiG_A 3000 60 18 [] (52, [(2, .arg 2), (0, .index 155), (1, .index 1000)], [], xaiG_O, xaiG_C, [])) xaiG_ss xaiG_rs = true := by decide +kernel
def xaiG_r (v2 v300 : Int32) (k_ : Nat) : Value := bif Nat.beq k_ 2 then .int v2 else (bif Nat.beq k_ 300 then .int v300 else (.int 0))
def xaiG_s (a1000 : Nat) (n_ : Nat) : Nat := bif Nat.beq n_ 1000 then a1000 else (0)
theorem xaiG {h_ : xH} {a1000 : Nat} {v2 v300 : Int32} (hs : sHp h_) (k1000 : bcq h_ a1000 6 2) (o0_ : bpat h_ 155 2 = some (.int v300)) : ∃ h', ysm h_ h' ∧ (((bpat h' 155 2 = some (.int (v300 + (1 : Int32)))) ∧ (∀ a_ j_ : Nat, ¬ (a_ = 155 ∧ j_ = 2) → bpat h' a_ j_ = bpat h_ a_ j_) ∧ (∀ D_, 60 ≤ D_ → xrun D_ 18 52 [(2, .int v2), (0, .index 155), (1, .index a1000)] [] h_ (none, h', [])))) := by
  have hA : yas xaiG_A (xaiG_r v2 v300) (yg (xaiG_s a1000)) := ⟨fun q_ hq => absurd hq List.not_mem_nil, fun q_ hq => absurd hq List.not_mem_nil, fun q_ hq => absurd hq List.not_mem_nil, fun n_ hn => yg_lo hn, fun q_ hq => absurd hq List.not_mem_nil⟩
  have Hs : ysh xaiG_A.1 (yg (xaiG_s a1000)) h_ := ysh_of2 hs (List.forall_mem_cons.mpr ⟨⟨by decide, k1000⟩, fun q_ hq => absurd hq List.not_mem_nil⟩)
  have Ho : ymem (xaiG_r v2 v300) (yg (xaiG_s a1000)) xaiG_O h_ := List.forall_mem_cons.mpr ⟨bpat_some o0_, fun q_ hq => absurd hq List.not_mem_nil⟩
  have HC : ∀ q_ ∈ xaiG_C, xhold (xaiG_r v2 v300) q_ := fun q_ hq => absurd hq List.not_mem_nil
  rcases yrun (yis_ok xaiG_k) hA Hs Ho HC with ⟨q_, hq, h', K_, G_⟩ | ⟨q_, hq, h', K_, G_⟩
  · cases hq
  · have e_ := List.mem_singleton.mp hq
    subst e_
    exact ⟨h', yfr_sm K_.2.2.2 hs K_.1 (ywa_r xaiG_w List.mem_cons_self), ⟨bpat_of (K_.2.1 _ List.mem_cons_self), fun a_ j_ n0_ => yfr_bp K_.2.2.2 (List.forall_mem_cons.mpr ⟨fun e_ => n0_ ⟨e_.1.symm, e_.2.symm⟩, fun q_ hq => absurd hq List.not_mem_nil⟩), G_⟩⟩
-- xauA: 2 steps, 1 ends, 0 returns
def xauA_L : List (Nat × Nat × Nat) := [(1000, 6, 2)]
def xauA_O : yO := []
def xauA_A : yA := (yZ xauA_L, [], [], [], [])
def xauA_C : List xB := []
def xauA_ss : List yS := [(2, [(3, .int 0), (0, .index 155), (1, .index 1), (2, .index 1000)], [], [], [], [])]
def xauA_rs : List yR := []
theorem xauA_w : ywa xauA_A xauA_ss xauA_rs = true := by decide +kernel
theorem xauA_k : yis (yev xauA_A 3000 60 17 [2] (0, [(0, .index 155), (1, .index 1), (2, .index 1000)], [], xauA_O, xauA_C, [])) xauA_ss xauA_rs = true := by decide +kernel
def xauA_r (k_ : Nat) : Value := .int 0
def xauA_s (a1000 : Nat) (n_ : Nat) : Nat := bif Nat.beq n_ 1000 then a1000 else (0)
theorem xauA {h_ : xH} {a1000 : Nat} (hs : sHp h_) (k1000 : bcq h_ a1000 6 2) : ∃ h', ysm h_ h' ∧ (((∀ a_ j_ : Nat, bpat h' a_ j_ = bpat h_ a_ j_) ∧ (bldD 60 17 0 [(0, .index 155), (1, .index 1), (2, .index a1000)] [] h_ 2 [(3, .int (0 : Int32)), (0, .index 155), (1, .index 1), (2, .index a1000)] [] h'))) := by
  have hA : yas xauA_A xauA_r (yg (xauA_s a1000)) := ⟨fun q_ hq => absurd hq List.not_mem_nil, fun q_ hq => absurd hq List.not_mem_nil, fun q_ hq => absurd hq List.not_mem_nil, fun n_ hn => yg_lo hn, fun q_ hq => absurd hq List.not_mem_nil⟩
  have Hs : ysh xauA_A.1 (yg (xauA_s a1000)) h_ := ysh_of2 hs (List.forall_mem_cons.mpr ⟨⟨by decide, k1000⟩, fun q_ hq => absurd hq List.not_mem_nil⟩)
  have Ho : ymem xauA_r (yg (xauA_s a1000)) xauA_O h_ := fun q_ hq => absurd hq List.not_mem_nil
  have HC : ∀ q_ ∈ xauA_C, xhold xauA_r q_ := fun q_ hq => absurd hq List.not_mem_nil
  rcases yrun (yis_ok xauA_k) hA Hs Ho HC with ⟨q_, hq, h', K_, G_⟩ | ⟨q_, hq, h', K_, G_⟩
  · have e_ := List.mem_singleton.mp hq
    subst e_
    exact ⟨h', yfr_sm K_.2.2.2 hs K_.1 (ywa_s xauA_w List.mem_cons_self), ⟨fun a_ j_ => yfr_bp K_.2.2.2 (fun q_ hq => absurd hq List.not_mem_nil), G_⟩⟩
  · cases hq
-- xauX: 5 steps, 0 ends, 1 returns
def xauX_L : List (Nat × Nat × Nat) := [(1000, 6, 2)]
def xauX_O : yO := [(1, .int 10, .arg 300)]
def xauX_A : yA := (yZ xauX_L, [], [], [], [])
def xauX_C : List xB := [(.lt, .arg 3, .arg 300, false)]
def xauX_ss : List yS := []
def xauX_rs : List yR := [(none, [(1, .int 10, .arg 300)], [(.lt, .arg 3, .arg 300, false)], [])]
theorem xauX_w : ywa xauX_A xauX_ss xauX_rs = true := by decide +kernel
theorem xauX_k : yis (yev xauX_A 3000 60 17 [] (2, [(3, .arg 3), (0, .index 155), (1, .index 1), (2, .index 1000)], [], xauX_O, xauX_C, [])) xauX_ss xauX_rs = true := by decide +kernel
def xauX_r (v3 v300 : Int32) (k_ : Nat) : Value := bif Nat.beq k_ 3 then .int v3 else (bif Nat.beq k_ 300 then .int v300 else (.int 0))
def xauX_s (a1000 : Nat) (n_ : Nat) : Nat := bif Nat.beq n_ 1000 then a1000 else (0)
theorem xauX {h_ : xH} {a1000 : Nat} {v3 v300 : Int32} (hs : sHp h_) (k1000 : bcq h_ a1000 6 2) (o0_ : bpat h_ 1 10 = some (.int v300)) (c0_ : v300.toInt ≤ v3.toInt) : ∃ h', ysm h_ h' ∧ (((∀ a_ j_ : Nat, bpat h' a_ j_ = bpat h_ a_ j_) ∧ (∀ D_, 60 ≤ D_ → xrun D_ 17 2 [(3, .int v3), (0, .index 155), (1, .index 1), (2, .index a1000)] [] h_ (none, h', [])))) := by
  have hA : yas xauX_A (xauX_r v3 v300) (yg (xauX_s a1000)) := ⟨fun q_ hq => absurd hq List.not_mem_nil, fun q_ hq => absurd hq List.not_mem_nil, fun q_ hq => absurd hq List.not_mem_nil, fun n_ hn => yg_lo hn, fun q_ hq => absurd hq List.not_mem_nil⟩
  have Hs : ysh xauX_A.1 (yg (xauX_s a1000)) h_ := ysh_of2 hs (List.forall_mem_cons.mpr ⟨⟨by decide, k1000⟩, fun q_ hq => absurd hq List.not_mem_nil⟩)
  have Ho : ymem (xauX_r v3 v300) (yg (xauX_s a1000)) xauX_O h_ := List.forall_mem_cons.mpr ⟨bpat_some o0_, fun q_ hq => absurd hq List.not_mem_nil⟩
  have HC : ∀ q_ ∈ xauX_C, xhold (xauX_r v3 v300) q_ := List.forall_mem_cons.mpr ⟨xh_ltF c0_, fun q_ hq => absurd hq List.not_mem_nil⟩
  rcases yrun (yis_ok xauX_k) hA Hs Ho HC with ⟨q_, hq, h', K_, G_⟩ | ⟨q_, hq, h', K_, G_⟩
  · cases hq
  · have e_ := List.mem_singleton.mp hq
    subst e_
    exact ⟨h', yfr_sm K_.2.2.2 hs K_.1 (ywa_r xauX_w List.mem_cons_self), ⟨fun a_ j_ => yfr_bp K_.2.2.2 (fun q_ hq => absurd hq List.not_mem_nil), G_⟩⟩
-- xauT: 24 steps, 1 ends, 0 returns
def xauT_L : List (Nat × Nat × Nat) := [(1000, 6, 2), (1001, 5, 3)]
def xauT_O : yO := [(1, .int 10, .arg 300), (1, .int 1, .index 3), (3, .arg 3, .index 1001), (1001, .int 0, .arg 301), (155, .int 1, .index 157)]
def xauT_A : yA := (yZ xauT_L, [(.arg 3, 8)], [], [], [])
def xauT_C : List xB := [(.eq, .arg 301, .int 6, false), (.eq, .arg 301, .int 5, false), (.lt, .arg 3, .arg 300, true)]
def xauT_ss : List yS := [(27, [(3, .arg 3), (0, .index 155), (1, .index 1), (2, .index 1000)], [.index 1000, .index 157], [(1, .int 10, .arg 300), (1, .int 1, .index 3), (3, .arg 3, .index 1001), (1001, .int 0, .arg 301), (155, .int 1, .index 157)], [(.eq, .arg 301, .int 6, false), (.eq, .arg 301, .int 5, false), (.lt, .arg 3, .arg 300, true)], [])]
def xauT_rs : List yR := []
theorem xauT_w : ywa xauT_A xauT_ss xauT_rs = true := by decide +kernel
theorem xauT_k : yis (yev xauT_A 3000 60 17 [27] (2, [(3, .arg 3), (0, .index 155), (1, .index 1), (2, .index 1000)], [], xauT_O, xauT_C, [])) xauT_ss xauT_rs = true := by decide +kernel
def xauT_r (v3 v300 v301 : Int32) (k_ : Nat) : Value := bif Nat.beq k_ 3 then .int v3 else (bif Nat.beq k_ 300 then .int v300 else (bif Nat.beq k_ 301 then .int v301 else (.int 0)))
def xauT_s (a1000 a1001 : Nat) (n_ : Nat) : Nat := bif Nat.beq n_ 1000 then a1000 else (bif Nat.beq n_ 1001 then a1001 else (0))
theorem xauT {h_ : xH} {a1000 a1001 : Nat} {v3 v300 v301 : Int32} (hs : sHp h_) (k1000 : bcq h_ a1000 6 2) (k1001 : bcq h_ a1001 5 3) (o0_ : bpat h_ 1 10 = some (.int v300)) (o1 : bpat h_ 3 (v3).toInt.toNat = some (.index a1001)) (o2 : bpat h_ a1001 0 = some (.int v301)) (b0 : 0 ≤ (v3).toInt ∧ (v3).toInt < 8) (c0_ : ¬ v301 = (6 : Int32)) (c1_ : ¬ v301 = (5 : Int32)) (c2_ : v3.toInt < v300.toInt) : ∃ h', ysm h_ h' ∧ (((∀ a_ j_ : Nat, bpat h' a_ j_ = bpat h_ a_ j_) ∧ (bldD 60 17 2 [(3, .int v3), (0, .index 155), (1, .index 1), (2, .index a1000)] [] h_ 27 [(3, .int v3), (0, .index 155), (1, .index 1), (2, .index a1000)] [.index a1000, .index 157] h'))) := by
  have hA : yas xauT_A (xauT_r v3 v300 v301) (yg (xauT_s a1000 a1001)) := ⟨List.forall_mem_cons.mpr ⟨b0, fun q_ hq => absurd hq List.not_mem_nil⟩, fun q_ hq => absurd hq List.not_mem_nil, fun q_ hq => absurd hq List.not_mem_nil, fun n_ hn => yg_lo hn, fun q_ hq => absurd hq List.not_mem_nil⟩
  have Hs : ysh xauT_A.1 (yg (xauT_s a1000 a1001)) h_ := ysh_of2 hs (List.forall_mem_cons.mpr ⟨⟨by decide, k1000⟩, List.forall_mem_cons.mpr ⟨⟨by decide, k1001⟩, fun q_ hq => absurd hq List.not_mem_nil⟩⟩)
  have Ho : ymem (xauT_r v3 v300 v301) (yg (xauT_s a1000 a1001)) xauT_O h_ := List.forall_mem_cons.mpr ⟨bpat_some o0_, List.forall_mem_cons.mpr ⟨bpat_some (fxr_at hs.2 (show fxk fxl 1 1 = some 3 by decide +kernel)), List.forall_mem_cons.mpr ⟨bpat_some o1, List.forall_mem_cons.mpr ⟨bpat_some o2, List.forall_mem_cons.mpr ⟨bpat_some (fxr_at hs.2 (show fxk fxl 155 1 = some 157 by decide +kernel)), fun q_ hq => absurd hq List.not_mem_nil⟩⟩⟩⟩⟩
  have HC : ∀ q_ ∈ xauT_C, xhold (xauT_r v3 v300 v301) q_ := List.forall_mem_cons.mpr ⟨xh_eqF2 c0_, List.forall_mem_cons.mpr ⟨xh_eqF2 c1_, List.forall_mem_cons.mpr ⟨xh_ltT c2_, fun q_ hq => absurd hq List.not_mem_nil⟩⟩⟩
  rcases yrun (yis_ok xauT_k) hA Hs Ho HC with ⟨q_, hq, h', K_, G_⟩ | ⟨q_, hq, h', K_, G_⟩
  · have e_ := List.mem_singleton.mp hq
    subst e_
    exact ⟨h', yfr_sm K_.2.2.2 hs K_.1 (ywa_s xauT_w List.mem_cons_self), ⟨fun a_ j_ => yfr_bp K_.2.2.2 (fun q_ hq => absurd hq List.not_mem_nil), G_⟩⟩
  · cases hq
-- xauN5: 18 steps, 1 ends, 0 returns
def xauN5_L : List (Nat × Nat × Nat) := [(1000, 6, 2), (1001, 5, 3)]
def xauN5_O : yO := [(1, .int 10, .arg 300), (1, .int 1, .index 3), (3, .arg 3, .index 1001), (1001, .int 0, .arg 301)]
def xauN5_A : yA := (yZ xauN5_L, [(.arg 3, 8)], [], [], [])
def xauN5_C : List xB := [(.eq, .arg 301, .int 5, true), (.lt, .arg 3, .arg 300, true)]
def xauN5_ss : List yS := [(2, [(3, .add (.arg 3) (.int 1)), (0, .index 155), (1, .index 1), (2, .index 1000)], [], [(1, .int 10, .arg 300), (1, .int 1, .index 3), (3, .arg 3, .index 1001), (1001, .int 0, .arg 301)], [(.eq, .arg 301, .int 5, true), (.lt, .arg 3, .arg 300, true)], [])]
def xauN5_rs : List yR := []
theorem xauN5_w : ywa xauN5_A xauN5_ss xauN5_rs = true := by decide +kernel
theorem xauN5_k : yis (yev xauN5_A 3000 60 17 [2] (2, [(3, .arg 3), (0, .index 155), (1, .index 1), (2, .index 1000)], [], xauN5_O, xauN5_C, [])) xauN5_ss xauN5_rs = true := by decide +kernel
def xauN5_r (v3 v300 v301 : Int32) (k_ : Nat) : Value := bif Nat.beq k_ 3 then .int v3 else (bif Nat.beq k_ 300 then .int v300 else (bif Nat.beq k_ 301 then .int v301 else (.int 0)))
def xauN5_s (a1000 a1001 : Nat) (n_ : Nat) : Nat := bif Nat.beq n_ 1000 then a1000 else (bif Nat.beq n_ 1001 then a1001 else (0))
theorem xauN5 {h_ : xH} {a1000 a1001 : Nat} {v3 v300 v301 : Int32} (hs : sHp h_) (k1000 : bcq h_ a1000 6 2) (k1001 : bcq h_ a1001 5 3) (o0_ : bpat h_ 1 10 = some (.int v300)) (o1 : bpat h_ 3 (v3).toInt.toNat = some (.index a1001)) (o2 : bpat h_ a1001 0 = some (.int v301)) (b0 : 0 ≤ (v3).toInt ∧ (v3).toInt < 8) (c0_ : v301 = (5 : Int32)) (c1_ : v3.toInt < v300.toInt) : ∃ h', ysm h_ h' ∧ (((∀ a_ j_ : Nat, bpat h' a_ j_ = bpat h_ a_ j_) ∧ (bldD 60 17 2 [(3, .int v3), (0, .index 155), (1, .index 1), (2, .index a1000)] [] h_ 2 [(3, .int (v3 + (1 : Int32))), (0, .index 155), (1, .index 1), (2, .index a1000)] [] h'))) := by
  have hA : yas xauN5_A (xauN5_r v3 v300 v301) (yg (xauN5_s a1000 a1001)) := ⟨List.forall_mem_cons.mpr ⟨b0, fun q_ hq => absurd hq List.not_mem_nil⟩, fun q_ hq => absurd hq List.not_mem_nil, fun q_ hq => absurd hq List.not_mem_nil, fun n_ hn => yg_lo hn, fun q_ hq => absurd hq List.not_mem_nil⟩
  have Hs : ysh xauN5_A.1 (yg (xauN5_s a1000 a1001)) h_ := ysh_of2 hs (List.forall_mem_cons.mpr ⟨⟨by decide, k1000⟩, List.forall_mem_cons.mpr ⟨⟨by decide, k1001⟩, fun q_ hq => absurd hq List.not_mem_nil⟩⟩)
  have Ho : ymem (xauN5_r v3 v300 v301) (yg (xauN5_s a1000 a1001)) xauN5_O h_ := List.forall_mem_cons.mpr ⟨bpat_some o0_, List.forall_mem_cons.mpr ⟨bpat_some (fxr_at hs.2 (show fxk fxl 1 1 = some 3 by decide +kernel)), List.forall_mem_cons.mpr ⟨bpat_some o1, List.forall_mem_cons.mpr ⟨bpat_some o2, fun q_ hq => absurd hq List.not_mem_nil⟩⟩⟩⟩
  have HC : ∀ q_ ∈ xauN5_C, xhold (xauN5_r v3 v300 v301) q_ := List.forall_mem_cons.mpr ⟨xh_eqT2 c0_, List.forall_mem_cons.mpr ⟨xh_ltT c1_, fun q_ hq => absurd hq List.not_mem_nil⟩⟩
  rcases yrun (yis_ok xauN5_k) hA Hs Ho HC with ⟨q_, hq, h', K_, G_⟩ | ⟨q_, hq, h', K_, G_⟩
  · have e_ := List.mem_singleton.mp hq
    subst e_
    exact ⟨h', yfr_sm K_.2.2.2 hs K_.1 (ywa_s xauN5_w List.mem_cons_self), ⟨fun a_ j_ => yfr_bp K_.2.2.2 (fun q_ hq => absurd hq List.not_mem_nil), G_⟩⟩
  · cases hq
-- xauN6: 22 steps, 1 ends, 0 returns
def xauN6_L : List (Nat × Nat × Nat) := [(1000, 6, 2), (1001, 5, 3)]
def xauN6_O : yO := [(1, .int 10, .arg 300), (1, .int 1, .index 3), (3, .arg 3, .index 1001), (1001, .int 0, .arg 301)]
def xauN6_A : yA := (yZ xauN6_L, [(.arg 3, 8)], [], [], [])
def xauN6_C : List xB := [(.eq, .arg 301, .int 6, true), (.eq, .arg 301, .int 5, false), (.lt, .arg 3, .arg 300, true)]
def xauN6_ss : List yS := [(2, [(3, .add (.arg 3) (.int 1)), (0, .index 155), (1, .index 1), (2, .index 1000)], [], [(1, .int 10, .arg 300), (1, .int 1, .index 3), (3, .arg 3, .index 1001), (1001, .int 0, .arg 301)], [(.eq, .arg 301, .int 6, true), (.eq, .arg 301, .int 5, false), (.lt, .arg 3, .arg 300, true)], [])]
def xauN6_rs : List yR := []
theorem xauN6_w : ywa xauN6_A xauN6_ss xauN6_rs = true := by decide +kernel
theorem xauN6_k : yis (yev xauN6_A 3000 60 17 [2] (2, [(3, .arg 3), (0, .index 155), (1, .index 1), (2, .index 1000)], [], xauN6_O, xauN6_C, [])) xauN6_ss xauN6_rs = true := by decide +kernel
def xauN6_r (v3 v300 v301 : Int32) (k_ : Nat) : Value := bif Nat.beq k_ 3 then .int v3 else (bif Nat.beq k_ 300 then .int v300 else (bif Nat.beq k_ 301 then .int v301 else (.int 0)))
def xauN6_s (a1000 a1001 : Nat) (n_ : Nat) : Nat := bif Nat.beq n_ 1000 then a1000 else (bif Nat.beq n_ 1001 then a1001 else (0))
theorem xauN6 {h_ : xH} {a1000 a1001 : Nat} {v3 v300 v301 : Int32} (hs : sHp h_) (k1000 : bcq h_ a1000 6 2) (k1001 : bcq h_ a1001 5 3) (o0_ : bpat h_ 1 10 = some (.int v300)) (o1 : bpat h_ 3 (v3).toInt.toNat = some (.index a1001)) (o2 : bpat h_ a1001 0 = some (.int v301)) (b0 : 0 ≤ (v3).toInt ∧ (v3).toInt < 8) (c0_ : v301 = (6 : Int32)) (c1_ : ¬ v301 = (5 : Int32)) (c2_ : v3.toInt < v300.toInt) : ∃ h', ysm h_ h' ∧ (((∀ a_ j_ : Nat, bpat h' a_ j_ = bpat h_ a_ j_) ∧ (bldD 60 17 2 [(3, .int v3), (0, .index 155), (1, .index 1), (2, .index a1000)] [] h_ 2 [(3, .int (v3 + (1 : Int32))), (0, .index 155), (1, .index 1), (2, .index a1000)] [] h'))) := by
  have hA : yas xauN6_A (xauN6_r v3 v300 v301) (yg (xauN6_s a1000 a1001)) := ⟨List.forall_mem_cons.mpr ⟨b0, fun q_ hq => absurd hq List.not_mem_nil⟩, fun q_ hq => absurd hq List.not_mem_nil, fun q_ hq => absurd hq List.not_mem_nil, fun n_ hn => yg_lo hn, fun q_ hq => absurd hq List.not_mem_nil⟩
  have Hs : ysh xauN6_A.1 (yg (xauN6_s a1000 a1001)) h_ := ysh_of2 hs (List.forall_mem_cons.mpr ⟨⟨by decide, k1000⟩, List.forall_mem_cons.mpr ⟨⟨by decide, k1001⟩, fun q_ hq => absurd hq List.not_mem_nil⟩⟩)
  have Ho : ymem (xauN6_r v3 v300 v301) (yg (xauN6_s a1000 a1001)) xauN6_O h_ := List.forall_mem_cons.mpr ⟨bpat_some o0_, List.forall_mem_cons.mpr ⟨bpat_some (fxr_at hs.2 (show fxk fxl 1 1 = some 3 by decide +kernel)), List.forall_mem_cons.mpr ⟨bpat_some o1, List.forall_mem_cons.mpr ⟨bpat_some o2, fun q_ hq => absurd hq List.not_mem_nil⟩⟩⟩⟩
  have HC : ∀ q_ ∈ xauN6_C, xhold (xauN6_r v3 v300 v301) q_ := List.forall_mem_cons.mpr ⟨xh_eqT2 c0_, List.forall_mem_cons.mpr ⟨xh_eqF2 c1_, List.forall_mem_cons.mpr ⟨xh_ltT c2_, fun q_ hq => absurd hq List.not_mem_nil⟩⟩⟩
  rcases yrun (yis_ok xauN6_k) hA Hs Ho HC with ⟨q_, hq, h', K_, G_⟩ | ⟨q_, hq, h', K_, G_⟩
  · have e_ := List.mem_singleton.mp hq
    subst e_
    exact ⟨h', yfr_sm K_.2.2.2 hs K_.1 (ywa_s xauN6_w List.mem_cons_self), ⟨fun a_ j_ => yfr_bp K_.2.2.2 (fun q_ hq => absurd hq List.not_mem_nil), G_⟩⟩
  · cases hq
-- xauC: 7 steps, 1 ends, 0 returns
def xauC_L : List (Nat × Nat × Nat) := [(1000, 6, 2), (1001, 5, 3)]
def xauC_O : yO := [(1, .int 1, .index 3), (3, .arg 3, .index 1001), (155, .int 1, .index 157)]
def xauC_A : yA := (yZ xauC_L, [(.arg 3, 8)], [], [], [])
def xauC_C : List xB := []
def xauC_ss : List yS := [(41, [(3, .arg 3), (0, .index 155), (1, .index 1), (2, .index 1000)], [.index 157, .index 1001, .index 1], [(1, .int 1, .index 3), (3, .arg 3, .index 1001), (155, .int 1, .index 157)], [], [])]
def xauC_rs : List yR := []
theorem xauC_w : ywa xauC_A xauC_ss xauC_rs = true := by decide +kernel
theorem xauC_k : yis (yev xauC_A 3000 60 17 [41] (30, [(3, .arg 3), (0, .index 155), (1, .index 1), (2, .index 1000)], [], xauC_O, xauC_C, [])) xauC_ss xauC_rs = true := by decide +kernel
def xauC_r (v3 : Int32) (k_ : Nat) : Value := bif Nat.beq k_ 3 then .int v3 else (.int 0)
def xauC_s (a1000 a1001 : Nat) (n_ : Nat) : Nat := bif Nat.beq n_ 1000 then a1000 else (bif Nat.beq n_ 1001 then a1001 else (0))
theorem xauC {h_ : xH} {a1000 a1001 : Nat} {v3 : Int32} (hs : sHp h_) (k1000 : bcq h_ a1000 6 2) (k1001 : bcq h_ a1001 5 3) (o0_ : bpat h_ 3 (v3).toInt.toNat = some (.index a1001)) (b0 : 0 ≤ (v3).toInt ∧ (v3).toInt < 8) : ∃ h', ysm h_ h' ∧ (((∀ a_ j_ : Nat, bpat h' a_ j_ = bpat h_ a_ j_) ∧ (bldD 60 17 30 [(3, .int v3), (0, .index 155), (1, .index 1), (2, .index a1000)] [] h_ 41 [(3, .int v3), (0, .index 155), (1, .index 1), (2, .index a1000)] [.index 157, .index a1001, .index 1] h'))) := by
  have hA : yas xauC_A (xauC_r v3) (yg (xauC_s a1000 a1001)) := ⟨List.forall_mem_cons.mpr ⟨b0, fun q_ hq => absurd hq List.not_mem_nil⟩, fun q_ hq => absurd hq List.not_mem_nil, fun q_ hq => absurd hq List.not_mem_nil, fun n_ hn => yg_lo hn, fun q_ hq => absurd hq List.not_mem_nil⟩
  have Hs : ysh xauC_A.1 (yg (xauC_s a1000 a1001)) h_ := ysh_of2 hs (List.forall_mem_cons.mpr ⟨⟨by decide, k1000⟩, List.forall_mem_cons.mpr ⟨⟨by decide, k1001⟩, fun q_ hq => absurd hq List.not_mem_nil⟩⟩)
  have Ho : ymem (xauC_r v3) (yg (xauC_s a1000 a1001)) xauC_O h_ := List.forall_mem_cons.mpr ⟨bpat_some (fxr_at hs.2 (show fxk fxl 1 1 = some 3 by decide +kernel)), List.forall_mem_cons.mpr ⟨bpat_some o0_, List.forall_mem_cons.mpr ⟨bpat_some (fxr_at hs.2 (show fxk fxl 155 1 = some 157 by decide +kernel)), fun q_ hq => absurd hq List.not_mem_nil⟩⟩⟩
  have HC : ∀ q_ ∈ xauC_C, xhold (xauC_r v3) q_ := fun q_ hq => absurd hq List.not_mem_nil
  rcases yrun (yis_ok xauC_k) hA Hs Ho HC with ⟨q_, hq, h', K_, G_⟩ | ⟨q_, hq, h', K_, G_⟩
  · have e_ := List.mem_singleton.mp hq
    subst e_
    exact ⟨h', yfr_sm K_.2.2.2 hs K_.1 (ywa_s xauC_w List.mem_cons_self), ⟨fun a_ j_ => yfr_bp K_.2.2.2 (fun q_ hq => absurd hq List.not_mem_nil), G_⟩⟩
  · cases hq
-- xauD: 3 steps, 1 ends, 0 returns
def xauD_L : List (Nat × Nat × Nat) := [(1000, 6, 2)]
def xauD_O : yO := [(155, .int 1, .index 157)]
def xauD_A : yA := (yZ xauD_L, [], [], [], [])
def xauD_C : List xB := []
def xauD_ss : List yS := [(49, [(3, .arg 3), (0, .index 155), (1, .index 1), (2, .index 1000)], [.index 157, .index 155], [(155, .int 1, .index 157)], [], [])]
def xauD_rs : List yR := []
theorem xauD_w : ywa xauD_A xauD_ss xauD_rs = true := by decide +kernel
theorem xauD_k : yis (yev xauD_A 3000 60 17 [49] (44, [(3, .arg 3), (0, .index 155), (1, .index 1), (2, .index 1000)], [], xauD_O, xauD_C, [])) xauD_ss xauD_rs = true := by decide +kernel
def xauD_r (v3 : Int32) (k_ : Nat) : Value := bif Nat.beq k_ 3 then .int v3 else (.int 0)
def xauD_s (a1000 : Nat) (n_ : Nat) : Nat := bif Nat.beq n_ 1000 then a1000 else (0)
theorem xauD {h_ : xH} {a1000 : Nat} {v3 : Int32} (hs : sHp h_) (k1000 : bcq h_ a1000 6 2) : ∃ h', ysm h_ h' ∧ (((∀ a_ j_ : Nat, bpat h' a_ j_ = bpat h_ a_ j_) ∧ (bldD 60 17 44 [(3, .int v3), (0, .index 155), (1, .index 1), (2, .index a1000)] [] h_ 49 [(3, .int v3), (0, .index 155), (1, .index 1), (2, .index a1000)] [.index 157, .index 155] h'))) := by
  have hA : yas xauD_A (xauD_r v3) (yg (xauD_s a1000)) := ⟨fun q_ hq => absurd hq List.not_mem_nil, fun q_ hq => absurd hq List.not_mem_nil, fun q_ hq => absurd hq List.not_mem_nil, fun n_ hn => yg_lo hn, fun q_ hq => absurd hq List.not_mem_nil⟩
  have Hs : ysh xauD_A.1 (yg (xauD_s a1000)) h_ := ysh_of2 hs (List.forall_mem_cons.mpr ⟨⟨by decide, k1000⟩, fun q_ hq => absurd hq List.not_mem_nil⟩)
  have Ho : ymem (xauD_r v3) (yg (xauD_s a1000)) xauD_O h_ := List.forall_mem_cons.mpr ⟨bpat_some (fxr_at hs.2 (show fxk fxl 155 1 = some 157 by decide +kernel)), fun q_ hq => absurd hq List.not_mem_nil⟩
  have HC : ∀ q_ ∈ xauD_C, xhold (xauD_r v3) q_ := fun q_ hq => absurd hq List.not_mem_nil
  rcases yrun (yis_ok xauD_k) hA Hs Ho HC with ⟨q_, hq, h', K_, G_⟩ | ⟨q_, hq, h', K_, G_⟩
  · have e_ := List.mem_singleton.mp hq
    subst e_
    exact ⟨h', yfr_sm K_.2.2.2 hs K_.1 (ywa_s xauD_w List.mem_cons_self), ⟨fun a_ j_ => yfr_bp K_.2.2.2 (fun q_ hq => absurd hq List.not_mem_nil), G_⟩⟩
  · cases hq
-- xauE: 2 steps, 1 ends, 0 returns
def xauE_L : List (Nat × Nat × Nat) := [(1000, 6, 2)]
def xauE_O : yO := []
def xauE_A : yA := (yZ xauE_L, [], [], [], [])
def xauE_C : List xB := []
def xauE_ss : List yS := [(2, [(3, .add (.arg 3) (.int 1)), (0, .index 155), (1, .index 1), (2, .index 1000)], [], [], [], [])]
def xauE_rs : List yR := []
theorem xauE_w : ywa xauE_A xauE_ss xauE_rs = true := by decide +kernel
theorem xauE_k : yis (yev xauE_A 3000 60 17 [2] (52, [(3, .arg 3), (0, .index 155), (1, .index 1), (2, .index 1000)], [], xauE_O, xauE_C, [])) xauE_ss xauE_rs = true := by decide +kernel
def xauE_r (v3 : Int32) (k_ : Nat) : Value := bif Nat.beq k_ 3 then .int v3 else (.int 0)
def xauE_s (a1000 : Nat) (n_ : Nat) : Nat := bif Nat.beq n_ 1000 then a1000 else (0)
theorem xauE {h_ : xH} {a1000 : Nat} {v3 : Int32} (hs : sHp h_) (k1000 : bcq h_ a1000 6 2) : ∃ h', ysm h_ h' ∧ (((∀ a_ j_ : Nat, bpat h' a_ j_ = bpat h_ a_ j_) ∧ (bldD 60 17 52 [(3, .int v3), (0, .index 155), (1, .index 1), (2, .index a1000)] [] h_ 2 [(3, .int (v3 + (1 : Int32))), (0, .index 155), (1, .index 1), (2, .index a1000)] [] h'))) := by
  have hA : yas xauE_A (xauE_r v3) (yg (xauE_s a1000)) := ⟨fun q_ hq => absurd hq List.not_mem_nil, fun q_ hq => absurd hq List.not_mem_nil, fun q_ hq => absurd hq List.not_mem_nil, fun n_ hn => yg_lo hn, fun q_ hq => absurd hq List.not_mem_nil⟩
  have Hs : ysh xauE_A.1 (yg (xauE_s a1000)) h_ := ysh_of2 hs (List.forall_mem_cons.mpr ⟨⟨by decide, k1000⟩, fun q_ hq => absurd hq List.not_mem_nil⟩)
  have Ho : ymem (xauE_r v3) (yg (xauE_s a1000)) xauE_O h_ := fun q_ hq => absurd hq List.not_mem_nil
  have HC : ∀ q_ ∈ xauE_C, xhold (xauE_r v3) q_ := fun q_ hq => absurd hq List.not_mem_nil
  rcases yrun (yis_ok xauE_k) hA Hs Ho HC with ⟨q_, hq, h', K_, G_⟩ | ⟨q_, hq, h', K_, G_⟩
  · have e_ := List.mem_singleton.mp hq
    subst e_
    exact ⟨h', yfr_sm K_.2.2.2 hs K_.1 (ywa_s xauE_w List.mem_cons_self), ⟨fun a_ j_ => yfr_bp K_.2.2.2 (fun q_ hq => absurd hq List.not_mem_nil), G_⟩⟩
  · cases hq
-- xgaA: 5 steps, 1 ends, 0 returns
def xgaA_L : List (Nat × Nat × Nat) := [(1000, 6, 2)]
def xgaA_O : yO := []
def xgaA_A : yA := (yZ xgaA_L, [], [], [], [])
def xgaA_C : List xB := []
def xgaA_ss : List yS := [(7, [(0, .index 155), (1, .index 1), (2, .index 1000), (3, .arg 3)], [.index 1000, .index 155], [(155, .int 2, .int 0)], [], [(155, .int 2)])]
def xgaA_rs : List yR := []
theorem xgaA_w : ywa xgaA_A xgaA_ss xgaA_rs = true := by decide +kernel
theorem xgaA_k : yis (yev xgaA_A 3000 60 16 [7] (0, [(0, .index 155), (1, .index 1), (2, .index 1000), (3, .arg 3)], [], xgaA_O, xgaA_C, [])) xgaA_ss xgaA_rs = true := by decide +kernel
def xgaA_r (v3 : Int32) (k_ : Nat) : Value := bif Nat.beq k_ 3 then .int v3 else (.int 0)
def xgaA_s (a1000 : Nat) (n_ : Nat) : Nat := bif Nat.beq n_ 1000 then a1000 else (0)
theorem xgaA {h_ : xH} {a1000 : Nat} {v3 : Int32} (hs : sHp h_) (k1000 : bcq h_ a1000 6 2) : ∃ h', ysm h_ h' ∧ (((bpat h' 155 2 = some (.int (0 : Int32))) ∧ (∀ a_ j_ : Nat, ¬ (a_ = 155 ∧ j_ = 2) → bpat h' a_ j_ = bpat h_ a_ j_) ∧ (bldD 60 16 0 [(0, .index 155), (1, .index 1), (2, .index a1000), (3, .int v3)] [] h_ 7 [(0, .index 155), (1, .index 1), (2, .index a1000), (3, .int v3)] [.index a1000, .index 155] h'))) := by
  have hA : yas xgaA_A (xgaA_r v3) (yg (xgaA_s a1000)) := ⟨fun q_ hq => absurd hq List.not_mem_nil, fun q_ hq => absurd hq List.not_mem_nil, fun q_ hq => absurd hq List.not_mem_nil, fun n_ hn => yg_lo hn, fun q_ hq => absurd hq List.not_mem_nil⟩
  have Hs : ysh xgaA_A.1 (yg (xgaA_s a1000)) h_ := ysh_of2 hs (List.forall_mem_cons.mpr ⟨⟨by decide, k1000⟩, fun q_ hq => absurd hq List.not_mem_nil⟩)
  have Ho : ymem (xgaA_r v3) (yg (xgaA_s a1000)) xgaA_O h_ := fun q_ hq => absurd hq List.not_mem_nil
  have HC : ∀ q_ ∈ xgaA_C, xhold (xgaA_r v3) q_ := fun q_ hq => absurd hq List.not_mem_nil
  rcases yrun (yis_ok xgaA_k) hA Hs Ho HC with ⟨q_, hq, h', K_, G_⟩ | ⟨q_, hq, h', K_, G_⟩
  · have e_ := List.mem_singleton.mp hq
    subst e_
    exact ⟨h', yfr_sm K_.2.2.2 hs K_.1 (ywa_s xgaA_w List.mem_cons_self), ⟨bpat_of (K_.2.1 _ List.mem_cons_self), fun a_ j_ n0_ => yfr_bp K_.2.2.2 (List.forall_mem_cons.mpr ⟨fun e_ => n0_ ⟨e_.1.symm, e_.2.symm⟩, fun q_ hq => absurd hq List.not_mem_nil⟩), G_⟩⟩
  · cases hq
-- xgaB: 2 steps, 1 ends, 0 returns
def xgaB_L : List (Nat × Nat × Nat) := [(1000, 6, 2)]
def xgaB_O : yO := []
def xgaB_A : yA := (yZ xgaB_L, [], [], [], [])
def xgaB_C : List xB := []
def xgaB_ss : List yS := [(13, [(4, .int 0), (0, .index 155), (1, .index 1), (2, .index 1000), (3, .arg 3)], [], [], [], [])]
def xgaB_rs : List yR := []
theorem xgaB_w : ywa xgaB_A xgaB_ss xgaB_rs = true := by decide +kernel
theorem xgaB_k : yis (yev xgaB_A 3000 60 16 [13] (10, [(0, .index 155), (1, .index 1), (2, .index 1000), (3, .arg 3)], [], xgaB_O, xgaB_C, [])) xgaB_ss xgaB_rs = true := by decide +kernel
def xgaB_r (v3 : Int32) (k_ : Nat) : Value := bif Nat.beq k_ 3 then .int v3 else (.int 0)
def xgaB_s (a1000 : Nat) (n_ : Nat) : Nat := bif Nat.beq n_ 1000 then a1000 else (0)
theorem xgaB {h_ : xH} {a1000 : Nat} {v3 : Int32} (hs : sHp h_) (k1000 : bcq h_ a1000 6 2) : ∃ h', ysm h_ h' ∧ (((∀ a_ j_ : Nat, bpat h' a_ j_ = bpat h_ a_ j_) ∧ (bldD 60 16 10 [(0, .index 155), (1, .index 1), (2, .index a1000), (3, .int v3)] [] h_ 13 [(4, .int (0 : Int32)), (0, .index 155), (1, .index 1), (2, .index a1000), (3, .int v3)] [] h'))) := by
  have hA : yas xgaB_A (xgaB_r v3) (yg (xgaB_s a1000)) := ⟨fun q_ hq => absurd hq List.not_mem_nil, fun q_ hq => absurd hq List.not_mem_nil, fun q_ hq => absurd hq List.not_mem_nil, fun n_ hn => yg_lo hn, fun q_ hq => absurd hq List.not_mem_nil⟩
  have Hs : ysh xgaB_A.1 (yg (xgaB_s a1000)) h_ := ysh_of2 hs (List.forall_mem_cons.mpr ⟨⟨by decide, k1000⟩, fun q_ hq => absurd hq List.not_mem_nil⟩)
  have Ho : ymem (xgaB_r v3) (yg (xgaB_s a1000)) xgaB_O h_ := fun q_ hq => absurd hq List.not_mem_nil
  have HC : ∀ q_ ∈ xgaB_C, xhold (xgaB_r v3) q_ := fun q_ hq => absurd hq List.not_mem_nil
  rcases yrun (yis_ok xgaB_k) hA Hs Ho HC with ⟨q_, hq, h', K_, G_⟩ | ⟨q_, hq, h', K_, G_⟩
  · have e_ := List.mem_singleton.mp hq
    subst e_
    exact ⟨h', yfr_sm K_.2.2.2 hs K_.1 (ywa_s xgaB_w List.mem_cons_self), ⟨fun a_ j_ => yfr_bp K_.2.2.2 (fun q_ hq => absurd hq List.not_mem_nil), G_⟩⟩
  · cases hq
-- xgaXA: 4 steps, 0 ends, 1 returns
def xgaXA_L : List (Nat × Nat × Nat) := [(1000, 6, 2)]
def xgaXA_O : yO := []
def xgaXA_A : yA := (yZ xgaXA_L, [], [], [], [])
def xgaXA_C : List xB := [(.lt, .arg 4, .arg 3, false)]
def xgaXA_ss : List yS := []
def xgaXA_rs : List yR := [(none, [], [(.lt, .arg 4, .arg 3, false)], [])]
theorem xgaXA_w : ywa xgaXA_A xgaXA_ss xgaXA_rs = true := by decide +kernel
theorem xgaXA_k : yis (yev xgaXA_A 3000 60 16 [] (13, [(4, .arg 4), (0, .index 155), (1, .index 1), (2, .index 1000), (3, .arg 3)], [], xgaXA_O, xgaXA_C, [])) xgaXA_ss xgaXA_rs = true := by decide +kernel
def xgaXA_r (v3 v4_ : Int32) (k_ : Nat) : Value := bif Nat.beq k_ 3 then .int v3 else (bif Nat.beq k_ 4 then .int v4_ else (.int 0))
def xgaXA_s (a1000 : Nat) (n_ : Nat) : Nat := bif Nat.beq n_ 1000 then a1000 else (0)
theorem xgaXA {h_ : xH} {a1000 : Nat} {v3 v4_ : Int32} (hs : sHp h_) (k1000 : bcq h_ a1000 6 2) (c0_ : v3.toInt ≤ v4_.toInt) : ∃ h', ysm h_ h' ∧ (((∀ a_ j_ : Nat, bpat h' a_ j_ = bpat h_ a_ j_) ∧ (∀ D_, 60 ≤ D_ → xrun D_ 16 13 [(4, .int v4_), (0, .index 155), (1, .index 1), (2, .index a1000), (3, .int v3)] [] h_ (none, h', [])))) := by
  have hA : yas xgaXA_A (xgaXA_r v3 v4_) (yg (xgaXA_s a1000)) := ⟨fun q_ hq => absurd hq List.not_mem_nil, fun q_ hq => absurd hq List.not_mem_nil, fun q_ hq => absurd hq List.not_mem_nil, fun n_ hn => yg_lo hn, fun q_ hq => absurd hq List.not_mem_nil⟩
  have Hs : ysh xgaXA_A.1 (yg (xgaXA_s a1000)) h_ := ysh_of2 hs (List.forall_mem_cons.mpr ⟨⟨by decide, k1000⟩, fun q_ hq => absurd hq List.not_mem_nil⟩)
  have Ho : ymem (xgaXA_r v3 v4_) (yg (xgaXA_s a1000)) xgaXA_O h_ := fun q_ hq => absurd hq List.not_mem_nil
  have HC : ∀ q_ ∈ xgaXA_C, xhold (xgaXA_r v3 v4_) q_ := List.forall_mem_cons.mpr ⟨xh_ltF c0_, fun q_ hq => absurd hq List.not_mem_nil⟩
  rcases yrun (yis_ok xgaXA_k) hA Hs Ho HC with ⟨q_, hq, h', K_, G_⟩ | ⟨q_, hq, h', K_, G_⟩
  · cases hq
  · have e_ := List.mem_singleton.mp hq
    subst e_
    exact ⟨h', yfr_sm K_.2.2.2 hs K_.1 (ywa_r xgaXA_w List.mem_cons_self), ⟨fun a_ j_ => yfr_bp K_.2.2.2 (fun q_ hq => absurd hq List.not_mem_nil), G_⟩⟩
-- xgaIA: 8 steps, 1 ends, 0 returns
def xgaIA_L : List (Nat × Nat × Nat) := [(1000, 6, 2)]
def xgaIA_O : yO := [(155, .int 2, .arg 300)]
def xgaIA_A : yA := (yZ xgaIA_L, [], [], [], [])
def xgaIA_C : List xB := [(.lt, .arg 4, .arg 3, true)]
def xgaIA_ss : List yS := [(28, [(6, .int 0), (5, .arg 300), (4, .arg 4), (0, .index 155), (1, .index 1), (2, .index 1000), (3, .arg 3)], [], [(155, .int 2, .arg 300)], [(.lt, .arg 4, .arg 3, true)], [])]
def xgaIA_rs : List yR := []
theorem xgaIA_w : ywa xgaIA_A xgaIA_ss xgaIA_rs = true := by decide +kernel
theorem xgaIA_k : yis (yev xgaIA_A 3000 60 16 [28] (13, [(4, .arg 4), (0, .index 155), (1, .index 1), (2, .index 1000), (3, .arg 3)], [], xgaIA_O, xgaIA_C, [])) xgaIA_ss xgaIA_rs = true := by decide +kernel
def xgaIA_r (v3 v4_ v300 : Int32) (k_ : Nat) : Value := bif Nat.beq k_ 3 then .int v3 else (bif Nat.beq k_ 4 then .int v4_ else (bif Nat.beq k_ 300 then .int v300 else (.int 0)))
def xgaIA_s (a1000 : Nat) (n_ : Nat) : Nat := bif Nat.beq n_ 1000 then a1000 else (0)
theorem xgaIA {h_ : xH} {a1000 : Nat} {v3 v4_ v300 : Int32} (hs : sHp h_) (k1000 : bcq h_ a1000 6 2) (o0_ : bpat h_ 155 2 = some (.int v300)) (c0_ : v4_.toInt < v3.toInt) : ∃ h', ysm h_ h' ∧ (((∀ a_ j_ : Nat, bpat h' a_ j_ = bpat h_ a_ j_) ∧ (bldD 60 16 13 [(4, .int v4_), (0, .index 155), (1, .index 1), (2, .index a1000), (3, .int v3)] [] h_ 28 [(6, .int (0 : Int32)), (5, .int v300), (4, .int v4_), (0, .index 155), (1, .index 1), (2, .index a1000), (3, .int v3)] [] h'))) := by
  have hA : yas xgaIA_A (xgaIA_r v3 v4_ v300) (yg (xgaIA_s a1000)) := ⟨fun q_ hq => absurd hq List.not_mem_nil, fun q_ hq => absurd hq List.not_mem_nil, fun q_ hq => absurd hq List.not_mem_nil, fun n_ hn => yg_lo hn, fun q_ hq => absurd hq List.not_mem_nil⟩
  have Hs : ysh xgaIA_A.1 (yg (xgaIA_s a1000)) h_ := ysh_of2 hs (List.forall_mem_cons.mpr ⟨⟨by decide, k1000⟩, fun q_ hq => absurd hq List.not_mem_nil⟩)
  have Ho : ymem (xgaIA_r v3 v4_ v300) (yg (xgaIA_s a1000)) xgaIA_O h_ := List.forall_mem_cons.mpr ⟨bpat_some o0_, fun q_ hq => absurd hq List.not_mem_nil⟩
  have HC : ∀ q_ ∈ xgaIA_C, xhold (xgaIA_r v3 v4_ v300) q_ := List.forall_mem_cons.mpr ⟨xh_ltT c0_, fun q_ hq => absurd hq List.not_mem_nil⟩
  rcases yrun (yis_ok xgaIA_k) hA Hs Ho HC with ⟨q_, hq, h', K_, G_⟩ | ⟨q_, hq, h', K_, G_⟩
  · have e_ := List.mem_singleton.mp hq
    subst e_
    exact ⟨h', yfr_sm K_.2.2.2 hs K_.1 (ywa_s xgaIA_w List.mem_cons_self), ⟨fun a_ j_ => yfr_bp K_.2.2.2 (fun q_ hq => absurd hq List.not_mem_nil), G_⟩⟩
  · cases hq
-- xgaXB: 4 steps, 0 ends, 1 returns
def xgaXB_L : List (Nat × Nat × Nat) := [(1000, 6, 2)]
def xgaXB_O : yO := []
def xgaXB_A : yA := (yZ xgaXB_L, [], [], [], [])
def xgaXB_C : List xB := [(.lt, .arg 4, .arg 3, false)]
def xgaXB_ss : List yS := []
def xgaXB_rs : List yR := [(none, [], [(.lt, .arg 4, .arg 3, false)], [])]
theorem xgaXB_w : ywa xgaXB_A xgaXB_ss xgaXB_rs = true := by decide +kernel
theorem xgaXB_k : yis (yev xgaXB_A 3000 60 16 [] (13, [(4, .arg 4), (6, .arg 6), (5, .arg 5), (0, .index 155), (1, .index 1), (2, .index 1000), (3, .arg 3)], [], xgaXB_O, xgaXB_C, [])) xgaXB_ss xgaXB_rs = true := by decide +kernel
def xgaXB_r (v3 v4_ v5 v6 : Int32) (k_ : Nat) : Value := bif Nat.beq k_ 3 then .int v3 else (bif Nat.beq k_ 4 then .int v4_ else (bif Nat.beq k_ 5 then .int v5 else (bif Nat.beq k_ 6 then .int v6 else (.int 0))))
def xgaXB_s (a1000 : Nat) (n_ : Nat) : Nat := bif Nat.beq n_ 1000 then a1000 else (0)
theorem xgaXB {h_ : xH} {a1000 : Nat} {v3 v4_ v5 v6 : Int32} (hs : sHp h_) (k1000 : bcq h_ a1000 6 2) (c0_ : v3.toInt ≤ v4_.toInt) : ∃ h', ysm h_ h' ∧ (((∀ a_ j_ : Nat, bpat h' a_ j_ = bpat h_ a_ j_) ∧ (∀ D_, 60 ≤ D_ → xrun D_ 16 13 [(4, .int v4_), (6, .int v6), (5, .int v5), (0, .index 155), (1, .index 1), (2, .index a1000), (3, .int v3)] [] h_ (none, h', [])))) := by
  have hA : yas xgaXB_A (xgaXB_r v3 v4_ v5 v6) (yg (xgaXB_s a1000)) := ⟨fun q_ hq => absurd hq List.not_mem_nil, fun q_ hq => absurd hq List.not_mem_nil, fun q_ hq => absurd hq List.not_mem_nil, fun n_ hn => yg_lo hn, fun q_ hq => absurd hq List.not_mem_nil⟩
  have Hs : ysh xgaXB_A.1 (yg (xgaXB_s a1000)) h_ := ysh_of2 hs (List.forall_mem_cons.mpr ⟨⟨by decide, k1000⟩, fun q_ hq => absurd hq List.not_mem_nil⟩)
  have Ho : ymem (xgaXB_r v3 v4_ v5 v6) (yg (xgaXB_s a1000)) xgaXB_O h_ := fun q_ hq => absurd hq List.not_mem_nil
  have HC : ∀ q_ ∈ xgaXB_C, xhold (xgaXB_r v3 v4_ v5 v6) q_ := List.forall_mem_cons.mpr ⟨xh_ltF c0_, fun q_ hq => absurd hq List.not_mem_nil⟩
  rcases yrun (yis_ok xgaXB_k) hA Hs Ho HC with ⟨q_, hq, h', K_, G_⟩ | ⟨q_, hq, h', K_, G_⟩
  · cases hq
  · have e_ := List.mem_singleton.mp hq
    subst e_
    exact ⟨h', yfr_sm K_.2.2.2 hs K_.1 (ywa_r xgaXB_w List.mem_cons_self), ⟨fun a_ j_ => yfr_bp K_.2.2.2 (fun q_ hq => absurd hq List.not_mem_nil), G_⟩⟩
-- xgaIB: 8 steps, 1 ends, 0 returns
def xgaIB_L : List (Nat × Nat × Nat) := [(1000, 6, 2)]
def xgaIB_O : yO := [(155, .int 2, .arg 300)]
def xgaIB_A : yA := (yZ xgaIB_L, [], [], [], [])
def xgaIB_C : List xB := [(.lt, .arg 4, .arg 3, true)]
def xgaIB_ss : List yS := [(28, [(6, .int 0), (5, .arg 300), (4, .arg 4), (0, .index 155), (1, .index 1), (2, .index 1000), (3, .arg 3)], [], [(155, .int 2, .arg 300)], [(.lt, .arg 4, .arg 3, true)], [])]
def xgaIB_rs : List yR := []
theorem xgaIB_w : ywa xgaIB_A xgaIB_ss xgaIB_rs = true := by decide +kernel
theorem xgaIB_k : yis (yev xgaIB_A 3000 60 16 [28] (13, [(4, .arg 4), (6, .arg 6), (5, .arg 5), (0, .index 155), (1, .index 1), (2, .index 1000), (3, .arg 3)], [], xgaIB_O, xgaIB_C, [])) xgaIB_ss xgaIB_rs = true := by decide +kernel
def xgaIB_r (v3 v4_ v5 v6 v300 : Int32) (k_ : Nat) : Value := bif Nat.beq k_ 3 then .int v3 else (bif Nat.beq k_ 4 then .int v4_ else (bif Nat.beq k_ 5 then .int v5 else (bif Nat.beq k_ 6 then .int v6 else (bif Nat.beq k_ 300 then .int v300 else (.int 0)))))
def xgaIB_s (a1000 : Nat) (n_ : Nat) : Nat := bif Nat.beq n_ 1000 then a1000 else (0)
theorem xgaIB {h_ : xH} {a1000 : Nat} {v3 v4_ v5 v6 v300 : Int32} (hs : sHp h_) (k1000 : bcq h_ a1000 6 2) (o0_ : bpat h_ 155 2 = some (.int v300)) (c0_ : v4_.toInt < v3.toInt) : ∃ h', ysm h_ h' ∧ (((∀ a_ j_ : Nat, bpat h' a_ j_ = bpat h_ a_ j_) ∧ (bldD 60 16 13 [(4, .int v4_), (6, .int v6), (5, .int v5), (0, .index 155), (1, .index 1), (2, .index a1000), (3, .int v3)] [] h_ 28 [(6, .int (0 : Int32)), (5, .int v300), (4, .int v4_), (0, .index 155), (1, .index 1), (2, .index a1000), (3, .int v3)] [] h'))) := by
  have hA : yas xgaIB_A (xgaIB_r v3 v4_ v5 v6 v300) (yg (xgaIB_s a1000)) := ⟨fun q_ hq => absurd hq List.not_mem_nil, fun q_ hq => absurd hq List.not_mem_nil, fun q_ hq => absurd hq List.not_mem_nil, fun n_ hn => yg_lo hn, fun q_ hq => absurd hq List.not_mem_nil⟩
  have Hs : ysh xgaIB_A.1 (yg (xgaIB_s a1000)) h_ := ysh_of2 hs (List.forall_mem_cons.mpr ⟨⟨by decide, k1000⟩, fun q_ hq => absurd hq List.not_mem_nil⟩)
  have Ho : ymem (xgaIB_r v3 v4_ v5 v6 v300) (yg (xgaIB_s a1000)) xgaIB_O h_ := List.forall_mem_cons.mpr ⟨bpat_some o0_, fun q_ hq => absurd hq List.not_mem_nil⟩
  have HC : ∀ q_ ∈ xgaIB_C, xhold (xgaIB_r v3 v4_ v5 v6 v300) q_ := List.forall_mem_cons.mpr ⟨xh_ltT c0_, fun q_ hq => absurd hq List.not_mem_nil⟩
  rcases yrun (yis_ok xgaIB_k) hA Hs Ho HC with ⟨q_, hq, h', K_, G_⟩ | ⟨q_, hq, h', K_, G_⟩
  · have e_ := List.mem_singleton.mp hq
    subst e_
    exact ⟨h', yfr_sm K_.2.2.2 hs K_.1 (ywa_s xgaIB_w List.mem_cons_self), ⟨fun a_ j_ => yfr_bp K_.2.2.2 (fun q_ hq => absurd hq List.not_mem_nil), G_⟩⟩
  · cases hq
-- xgaT: 9 steps, 1 ends, 0 returns
def xgaT_L : List (Nat × Nat × Nat) := [(1000, 6, 2), (1001, 6, 2)]
def xgaT_O : yO := [(155, .int 0, .index 156), (156, .arg 6, .index 1001)]
def xgaT_A : yA := (yZ xgaT_L, [(.arg 6, 73)], [], [], [])
def xgaT_C : List xB := [(.lt, .arg 6, .arg 5, true)]
def xgaT_ss : List yS := [(44, [(6, .arg 6), (5, .arg 5), (4, .arg 4), (0, .index 155), (1, .index 1), (2, .index 1000), (3, .arg 3)], [.index 1001, .index 1, .index 155], [(155, .int 0, .index 156), (156, .arg 6, .index 1001)], [(.lt, .arg 6, .arg 5, true)], [])]
def xgaT_rs : List yR := []
theorem xgaT_w : ywa xgaT_A xgaT_ss xgaT_rs = true := by decide +kernel
theorem xgaT_k : yis (yev xgaT_A 3000 60 16 [44] (28, [(6, .arg 6), (5, .arg 5), (4, .arg 4), (0, .index 155), (1, .index 1), (2, .index 1000), (3, .arg 3)], [], xgaT_O, xgaT_C, [])) xgaT_ss xgaT_rs = true := by decide +kernel
def xgaT_r (v3 v4_ v5 v6 : Int32) (k_ : Nat) : Value := bif Nat.beq k_ 3 then .int v3 else (bif Nat.beq k_ 4 then .int v4_ else (bif Nat.beq k_ 5 then .int v5 else (bif Nat.beq k_ 6 then .int v6 else (.int 0))))
def xgaT_s (a1000 a1001 : Nat) (n_ : Nat) : Nat := bif Nat.beq n_ 1000 then a1000 else (bif Nat.beq n_ 1001 then a1001 else (0))
theorem xgaT {h_ : xH} {a1000 a1001 : Nat} {v3 v4_ v5 v6 : Int32} (hs : sHp h_) (k1000 : bcq h_ a1000 6 2) (k1001 : bcq h_ a1001 6 2) (o0_ : bpat h_ 156 (v6).toInt.toNat = some (.index a1001)) (b0 : 0 ≤ (v6).toInt ∧ (v6).toInt < 73) (c0_ : v6.toInt < v5.toInt) : ∃ h', ysm h_ h' ∧ (((∀ a_ j_ : Nat, bpat h' a_ j_ = bpat h_ a_ j_) ∧ (bldD 60 16 28 [(6, .int v6), (5, .int v5), (4, .int v4_), (0, .index 155), (1, .index 1), (2, .index a1000), (3, .int v3)] [] h_ 44 [(6, .int v6), (5, .int v5), (4, .int v4_), (0, .index 155), (1, .index 1), (2, .index a1000), (3, .int v3)] [.index a1001, .index 1, .index 155] h'))) := by
  have hA : yas xgaT_A (xgaT_r v3 v4_ v5 v6) (yg (xgaT_s a1000 a1001)) := ⟨List.forall_mem_cons.mpr ⟨b0, fun q_ hq => absurd hq List.not_mem_nil⟩, fun q_ hq => absurd hq List.not_mem_nil, fun q_ hq => absurd hq List.not_mem_nil, fun n_ hn => yg_lo hn, fun q_ hq => absurd hq List.not_mem_nil⟩
  have Hs : ysh xgaT_A.1 (yg (xgaT_s a1000 a1001)) h_ := ysh_of2 hs (List.forall_mem_cons.mpr ⟨⟨by decide, k1000⟩, List.forall_mem_cons.mpr ⟨⟨by decide, k1001⟩, fun q_ hq => absurd hq List.not_mem_nil⟩⟩)
  have Ho : ymem (xgaT_r v3 v4_ v5 v6) (yg (xgaT_s a1000 a1001)) xgaT_O h_ := List.forall_mem_cons.mpr ⟨bpat_some (fxr_at hs.2 (show fxk fxl 155 0 = some 156 by decide +kernel)), List.forall_mem_cons.mpr ⟨bpat_some o0_, fun q_ hq => absurd hq List.not_mem_nil⟩⟩
  have HC : ∀ q_ ∈ xgaT_C, xhold (xgaT_r v3 v4_ v5 v6) q_ := List.forall_mem_cons.mpr ⟨xh_ltT c0_, fun q_ hq => absurd hq List.not_mem_nil⟩
  rcases yrun (yis_ok xgaT_k) hA Hs Ho HC with ⟨q_, hq, h', K_, G_⟩ | ⟨q_, hq, h', K_, G_⟩
  · have e_ := List.mem_singleton.mp hq
    subst e_
    exact ⟨h', yfr_sm K_.2.2.2 hs K_.1 (ywa_s xgaT_w List.mem_cons_self), ⟨fun a_ j_ => yfr_bp K_.2.2.2 (fun q_ hq => absurd hq List.not_mem_nil), G_⟩⟩
  · cases hq
-- xgaU: 2 steps, 1 ends, 0 returns
def xgaU_L : List (Nat × Nat × Nat) := [(1000, 6, 2)]
def xgaU_O : yO := []
def xgaU_A : yA := (yZ xgaU_L, [], [], [], [])
def xgaU_C : List xB := []
def xgaU_ss : List yS := [(28, [(6, .add (.arg 6) (.int 1)), (5, .arg 5), (4, .arg 4), (0, .index 155), (1, .index 1), (2, .index 1000), (3, .arg 3)], [], [], [], [])]
def xgaU_rs : List yR := []
theorem xgaU_w : ywa xgaU_A xgaU_ss xgaU_rs = true := by decide +kernel
theorem xgaU_k : yis (yev xgaU_A 3000 60 16 [28] (47, [(6, .arg 6), (5, .arg 5), (4, .arg 4), (0, .index 155), (1, .index 1), (2, .index 1000), (3, .arg 3)], [], xgaU_O, xgaU_C, [])) xgaU_ss xgaU_rs = true := by decide +kernel
def xgaU_r (v3 v4_ v5 v6 : Int32) (k_ : Nat) : Value := bif Nat.beq k_ 3 then .int v3 else (bif Nat.beq k_ 4 then .int v4_ else (bif Nat.beq k_ 5 then .int v5 else (bif Nat.beq k_ 6 then .int v6 else (.int 0))))
def xgaU_s (a1000 : Nat) (n_ : Nat) : Nat := bif Nat.beq n_ 1000 then a1000 else (0)
theorem xgaU {h_ : xH} {a1000 : Nat} {v3 v4_ v5 v6 : Int32} (hs : sHp h_) (k1000 : bcq h_ a1000 6 2) : ∃ h', ysm h_ h' ∧ (((∀ a_ j_ : Nat, bpat h' a_ j_ = bpat h_ a_ j_) ∧ (bldD 60 16 47 [(6, .int v6), (5, .int v5), (4, .int v4_), (0, .index 155), (1, .index 1), (2, .index a1000), (3, .int v3)] [] h_ 28 [(6, .int (v6 + (1 : Int32))), (5, .int v5), (4, .int v4_), (0, .index 155), (1, .index 1), (2, .index a1000), (3, .int v3)] [] h'))) := by
  have hA : yas xgaU_A (xgaU_r v3 v4_ v5 v6) (yg (xgaU_s a1000)) := ⟨fun q_ hq => absurd hq List.not_mem_nil, fun q_ hq => absurd hq List.not_mem_nil, fun q_ hq => absurd hq List.not_mem_nil, fun n_ hn => yg_lo hn, fun q_ hq => absurd hq List.not_mem_nil⟩
  have Hs : ysh xgaU_A.1 (yg (xgaU_s a1000)) h_ := ysh_of2 hs (List.forall_mem_cons.mpr ⟨⟨by decide, k1000⟩, fun q_ hq => absurd hq List.not_mem_nil⟩)
  have Ho : ymem (xgaU_r v3 v4_ v5 v6) (yg (xgaU_s a1000)) xgaU_O h_ := fun q_ hq => absurd hq List.not_mem_nil
  have HC : ∀ q_ ∈ xgaU_C, xhold (xgaU_r v3 v4_ v5 v6) q_ := fun q_ hq => absurd hq List.not_mem_nil
  rcases yrun (yis_ok xgaU_k) hA Hs Ho HC with ⟨q_, hq, h', K_, G_⟩ | ⟨q_, hq, h', K_, G_⟩
  · have e_ := List.mem_singleton.mp hq
    subst e_
    exact ⟨h', yfr_sm K_.2.2.2 hs K_.1 (ywa_s xgaU_w List.mem_cons_self), ⟨fun a_ j_ => yfr_bp K_.2.2.2 (fun q_ hq => absurd hq List.not_mem_nil), G_⟩⟩
  · cases hq
-- xgaY: 5 steps, 1 ends, 0 returns
def xgaY_L : List (Nat × Nat × Nat) := [(1000, 6, 2)]
def xgaY_O : yO := []
def xgaY_A : yA := (yZ xgaY_L, [], [], [], [])
def xgaY_C : List xB := [(.lt, .arg 6, .arg 5, false)]
def xgaY_ss : List yS := [(13, [(4, .add (.arg 4) (.int 1)), (6, .arg 6), (5, .arg 5), (0, .index 155), (1, .index 1), (2, .index 1000), (3, .arg 3)], [], [], [(.lt, .arg 6, .arg 5, false)], [])]
def xgaY_rs : List yR := []
theorem xgaY_w : ywa xgaY_A xgaY_ss xgaY_rs = true := by decide +kernel
theorem xgaY_k : yis (yev xgaY_A 3000 60 16 [13] (28, [(6, .arg 6), (5, .arg 5), (4, .arg 4), (0, .index 155), (1, .index 1), (2, .index 1000), (3, .arg 3)], [], xgaY_O, xgaY_C, [])) xgaY_ss xgaY_rs = true := by decide +kernel
def xgaY_r (v3 v4_ v5 v6 : Int32) (k_ : Nat) : Value := bif Nat.beq k_ 3 then .int v3 else (bif Nat.beq k_ 4 then .int v4_ else (bif Nat.beq k_ 5 then .int v5 else (bif Nat.beq k_ 6 then .int v6 else (.int 0))))
def xgaY_s (a1000 : Nat) (n_ : Nat) : Nat := bif Nat.beq n_ 1000 then a1000 else (0)
theorem xgaY {h_ : xH} {a1000 : Nat} {v3 v4_ v5 v6 : Int32} (hs : sHp h_) (k1000 : bcq h_ a1000 6 2) (c0_ : v5.toInt ≤ v6.toInt) : ∃ h', ysm h_ h' ∧ (((∀ a_ j_ : Nat, bpat h' a_ j_ = bpat h_ a_ j_) ∧ (bldD 60 16 28 [(6, .int v6), (5, .int v5), (4, .int v4_), (0, .index 155), (1, .index 1), (2, .index a1000), (3, .int v3)] [] h_ 13 [(4, .int (v4_ + (1 : Int32))), (6, .int v6), (5, .int v5), (0, .index 155), (1, .index 1), (2, .index a1000), (3, .int v3)] [] h'))) := by
  have hA : yas xgaY_A (xgaY_r v3 v4_ v5 v6) (yg (xgaY_s a1000)) := ⟨fun q_ hq => absurd hq List.not_mem_nil, fun q_ hq => absurd hq List.not_mem_nil, fun q_ hq => absurd hq List.not_mem_nil, fun n_ hn => yg_lo hn, fun q_ hq => absurd hq List.not_mem_nil⟩
  have Hs : ysh xgaY_A.1 (yg (xgaY_s a1000)) h_ := ysh_of2 hs (List.forall_mem_cons.mpr ⟨⟨by decide, k1000⟩, fun q_ hq => absurd hq List.not_mem_nil⟩)
  have Ho : ymem (xgaY_r v3 v4_ v5 v6) (yg (xgaY_s a1000)) xgaY_O h_ := fun q_ hq => absurd hq List.not_mem_nil
  have HC : ∀ q_ ∈ xgaY_C, xhold (xgaY_r v3 v4_ v5 v6) q_ := List.forall_mem_cons.mpr ⟨xh_ltF c0_, fun q_ hq => absurd hq List.not_mem_nil⟩
  rcases yrun (yis_ok xgaY_k) hA Hs Ho HC with ⟨q_, hq, h', K_, G_⟩ | ⟨q_, hq, h', K_, G_⟩
  · have e_ := List.mem_singleton.mp hq
    subst e_
    exact ⟨h', yfr_sm K_.2.2.2 hs K_.1 (ywa_s xgaY_w List.mem_cons_self), ⟨fun a_ j_ => yfr_bp K_.2.2.2 (fun q_ hq => absurd hq List.not_mem_nil), G_⟩⟩
  · cases hq
-- xmnE: 89 steps, 1 ends, 4 returns
def xmnE_L : List (Nat × Nat × Nat) := []
def xmnE_O : yO := [(0, .int 0, .index 1), (1, .int 9, .arg 310), (0, .int 13, .index 323), (323, .int 1, .arg 400)]
def xmnE_A : yA := (yZ xmnE_L, [], [], [], [])
def xmnE_C : List xB := []
def xmnE_ss : List yS := [(23, [(0, .index 0), (1, .arg 1), (2, .arg 2)], [], [(0, .int 0, .index 1), (1, .int 9, .arg 310), (0, .int 13, .index 323), (323, .int 1, .arg 400)], [(.le, .arg 2, .int 2, true), (.lt, .arg 2, .int 0, false), (.lt, .arg 1, .arg 310, true), (.lt, .arg 1, .int 0, false)], [])]
def xmnE_rs : List yR := [(some (.int (Int32.ofInt (-1000001))), [(323, .int 1, .add (.arg 400) (.int 1)), (0, .int 0, .index 1), (1, .int 9, .arg 310), (0, .int 13, .index 323)], [(.lt, .arg 1, .int 0, true)], [(323, .int 1)]),
  (some (.int (Int32.ofInt (-1000001))), [(323, .int 1, .add (.arg 400) (.int 1)), (0, .int 0, .index 1), (1, .int 9, .arg 310), (0, .int 13, .index 323)], [(.lt, .arg 1, .arg 310, false), (.lt, .arg 1, .int 0, false)], [(323, .int 1)]),
  (some (.int (Int32.ofInt (-1000001))), [(323, .int 1, .add (.arg 400) (.int 1)), (0, .int 0, .index 1), (1, .int 9, .arg 310), (0, .int 13, .index 323)], [(.lt, .arg 2, .int 0, true), (.lt, .arg 1, .arg 310, true), (.lt, .arg 1, .int 0, false)], [(323, .int 1)]),
  (some (.int (Int32.ofInt (-1000001))), [(323, .int 1, .add (.arg 400) (.int 1)), (0, .int 0, .index 1), (1, .int 9, .arg 310), (0, .int 13, .index 323)], [(.le, .arg 2, .int 2, false), (.lt, .arg 2, .int 0, false), (.lt, .arg 1, .arg 310, true), (.lt, .arg 1, .int 0, false)], [(323, .int 1)])]
theorem xmnE_w : ywa xmnE_A xmnE_ss xmnE_rs = true := by decide +kernel
theorem xmnE_k : yis (yev xmnE_A 3000 60 94 [23] (0, [(0, .index 0), (1, .arg 1), (2, .arg 2)], [], xmnE_O, xmnE_C, [])) xmnE_ss xmnE_rs = true := by decide +kernel
def xmnE_r (v1_ v2 v310 v400 : Int32) (k_ : Nat) : Value := bif Nat.beq k_ 1 then .int v1_ else (bif Nat.beq k_ 2 then .int v2 else (bif Nat.beq k_ 310 then .int v310 else (bif Nat.beq k_ 400 then .int v400 else (.int 0))))
def xmnE_s (n_ : Nat) : Nat := 0
theorem xmnE {h_ : xH} {v1_ v2 v310 v400 : Int32} (hs : sHp h_) (o0_ : bpat h_ 1 9 = some (.int v310)) (o1 : bpat h_ 323 1 = some (.int v400)) : ∃ h', ysm h_ h' ∧ (((v2.toInt ≤ (2 : Int32).toInt) ∧ ((0 : Int32).toInt ≤ v2.toInt) ∧ (v1_.toInt < v310.toInt) ∧ ((0 : Int32).toInt ≤ v1_.toInt) ∧ (∀ a_ j_ : Nat, bpat h' a_ j_ = bpat h_ a_ j_) ∧ (bldD 60 94 0 [(0, .index 0), (1, .int v1_), (2, .int v2)] [] h_ 23 [(0, .index 0), (1, .int v1_), (2, .int v2)] [] h'))
  ∨ ((v1_.toInt < (0 : Int32).toInt) ∧ (bpat h' 323 1 = some (.int (v400 + (1 : Int32)))) ∧ (∀ a_ j_ : Nat, ¬ (a_ = 323 ∧ j_ = 1) → bpat h' a_ j_ = bpat h_ a_ j_) ∧ (∀ D_, 60 ≤ D_ → xrun D_ 94 0 [(0, .index 0), (1, .int v1_), (2, .int v2)] [] h_ (some (.int (Int32.ofInt (-1000001))), h', [])))
  ∨ ((v310.toInt ≤ v1_.toInt) ∧ ((0 : Int32).toInt ≤ v1_.toInt) ∧ (bpat h' 323 1 = some (.int (v400 + (1 : Int32)))) ∧ (∀ a_ j_ : Nat, ¬ (a_ = 323 ∧ j_ = 1) → bpat h' a_ j_ = bpat h_ a_ j_) ∧ (∀ D_, 60 ≤ D_ → xrun D_ 94 0 [(0, .index 0), (1, .int v1_), (2, .int v2)] [] h_ (some (.int (Int32.ofInt (-1000001))), h', [])))
  ∨ ((v2.toInt < (0 : Int32).toInt) ∧ (v1_.toInt < v310.toInt) ∧ ((0 : Int32).toInt ≤ v1_.toInt) ∧ (bpat h' 323 1 = some (.int (v400 + (1 : Int32)))) ∧ (∀ a_ j_ : Nat, ¬ (a_ = 323 ∧ j_ = 1) → bpat h' a_ j_ = bpat h_ a_ j_) ∧ (∀ D_, 60 ≤ D_ → xrun D_ 94 0 [(0, .index 0), (1, .int v1_), (2, .int v2)] [] h_ (some (.int (Int32.ofInt (-1000001))), h', [])))
  ∨ (((2 : Int32).toInt < v2.toInt) ∧ ((0 : Int32).toInt ≤ v2.toInt) ∧ (v1_.toInt < v310.toInt) ∧ ((0 : Int32).toInt ≤ v1_.toInt) ∧ (bpat h' 323 1 = some (.int (v400 + (1 : Int32)))) ∧ (∀ a_ j_ : Nat, ¬ (a_ = 323 ∧ j_ = 1) → bpat h' a_ j_ = bpat h_ a_ j_) ∧ (∀ D_, 60 ≤ D_ → xrun D_ 94 0 [(0, .index 0), (1, .int v1_), (2, .int v2)] [] h_ (some (.int (Int32.ofInt (-1000001))), h', [])))) := by
  have hA : yas xmnE_A (xmnE_r v1_ v2 v310 v400) (yg xmnE_s) := ⟨fun q_ hq => absurd hq List.not_mem_nil, fun q_ hq => absurd hq List.not_mem_nil, fun q_ hq => absurd hq List.not_mem_nil, fun n_ hn => yg_lo hn, fun q_ hq => absurd hq List.not_mem_nil⟩
  have Hs : ysh xmnE_A.1 (yg xmnE_s) h_ := ysh_of2 hs (fun q_ hq => absurd hq List.not_mem_nil)
  have Ho : ymem (xmnE_r v1_ v2 v310 v400) (yg xmnE_s) xmnE_O h_ := List.forall_mem_cons.mpr ⟨bpat_some (fxr_at hs.2 (show fxk fxl 0 0 = some 1 by decide +kernel)), List.forall_mem_cons.mpr ⟨bpat_some o0_, List.forall_mem_cons.mpr ⟨bpat_some (fxr_at hs.2 (show fxk fxl 0 13 = some 323 by decide +kernel)), List.forall_mem_cons.mpr ⟨bpat_some o1, fun q_ hq => absurd hq List.not_mem_nil⟩⟩⟩⟩
  have HC : ∀ q_ ∈ xmnE_C, xhold (xmnE_r v1_ v2 v310 v400) q_ := fun q_ hq => absurd hq List.not_mem_nil
  rcases yrun (yis_ok xmnE_k) hA Hs Ho HC with ⟨q_, hq, h', K_, G_⟩ | ⟨q_, hq, h', K_, G_⟩
  · have e_ := List.mem_singleton.mp hq
    subst e_
    exact ⟨h', yfr_sm K_.2.2.2 hs K_.1 (ywa_s xmnE_w List.mem_cons_self), Or.inl (⟨xq_leT rfl rfl (K_.2.2.1 _ List.mem_cons_self), xq_ltF rfl rfl (K_.2.2.1 _ (List.mem_cons_of_mem _ List.mem_cons_self)), xq_ltT rfl rfl (K_.2.2.1 _ (List.mem_cons_of_mem _ (List.mem_cons_of_mem _ List.mem_cons_self))), xq_ltF rfl rfl (K_.2.2.1 _ (List.mem_cons_of_mem _ (List.mem_cons_of_mem _ (List.mem_cons_of_mem _ List.mem_cons_self)))), fun a_ j_ => yfr_bp K_.2.2.2 (fun q_ hq => absurd hq List.not_mem_nil), G_⟩)⟩
  · rcases List.mem_cons.mp hq with e_ | hq
    · subst e_
      exact ⟨h', yfr_sm K_.2.2.2 hs K_.1 (ywa_r xmnE_w List.mem_cons_self), Or.inr (Or.inl (⟨xq_ltT rfl rfl (K_.2.2.1 _ List.mem_cons_self), bpat_of (K_.2.1 _ List.mem_cons_self), fun a_ j_ n0_ => yfr_bp K_.2.2.2 (List.forall_mem_cons.mpr ⟨fun e_ => n0_ ⟨e_.1.symm, e_.2.symm⟩, fun q_ hq => absurd hq List.not_mem_nil⟩), G_⟩))⟩
    rcases List.mem_cons.mp hq with e_ | hq
    · subst e_
      exact ⟨h', yfr_sm K_.2.2.2 hs K_.1 (ywa_r xmnE_w (List.mem_cons_of_mem _ List.mem_cons_self)), Or.inr (Or.inr (Or.inl (⟨xq_ltF rfl rfl (K_.2.2.1 _ List.mem_cons_self), xq_ltF rfl rfl (K_.2.2.1 _ (List.mem_cons_of_mem _ List.mem_cons_self)), bpat_of (K_.2.1 _ List.mem_cons_self), fun a_ j_ n0_ => yfr_bp K_.2.2.2 (List.forall_mem_cons.mpr ⟨fun e_ => n0_ ⟨e_.1.symm, e_.2.symm⟩, fun q_ hq => absurd hq List.not_mem_nil⟩), G_⟩)))⟩
    rcases List.mem_cons.mp hq with e_ | hq
    · subst e_
      exact ⟨h', yfr_sm K_.2.2.2 hs K_.1 (ywa_r xmnE_w (List.mem_cons_of_mem _ (List.mem_cons_of_mem _ List.mem_cons_self))), Or.inr (Or.inr (Or.inr (Or.inl (⟨xq_ltT rfl rfl (K_.2.2.1 _ List.mem_cons_self), xq_ltT rfl rfl (K_.2.2.1 _ (List.mem_cons_of_mem _ List.mem_cons_self)), xq_ltF rfl rfl (K_.2.2.1 _ (List.mem_cons_of_mem _ (List.mem_cons_of_mem _ List.mem_cons_self))), bpat_of (K_.2.1 _ List.mem_cons_self), fun a_ j_ n0_ => yfr_bp K_.2.2.2 (List.forall_mem_cons.mpr ⟨fun e_ => n0_ ⟨e_.1.symm, e_.2.symm⟩, fun q_ hq => absurd hq List.not_mem_nil⟩), G_⟩))))⟩
    have e_ := List.mem_singleton.mp hq
    subst e_
    exact ⟨h', yfr_sm K_.2.2.2 hs K_.1 (ywa_r xmnE_w (List.mem_cons_of_mem _ (List.mem_cons_of_mem _ (List.mem_cons_of_mem _ List.mem_cons_self)))), Or.inr (Or.inr (Or.inr (Or.inr (⟨xq_leF rfl rfl (K_.2.2.1 _ List.mem_cons_self), xq_ltF rfl rfl (K_.2.2.1 _ (List.mem_cons_of_mem _ List.mem_cons_self)), xq_ltT rfl rfl (K_.2.2.1 _ (List.mem_cons_of_mem _ (List.mem_cons_of_mem _ List.mem_cons_self))), xq_ltF rfl rfl (K_.2.2.1 _ (List.mem_cons_of_mem _ (List.mem_cons_of_mem _ (List.mem_cons_of_mem _ List.mem_cons_self)))), bpat_of (K_.2.1 _ List.mem_cons_self), fun a_ j_ n0_ => yfr_bp K_.2.2.2 (List.forall_mem_cons.mpr ⟨fun e_ => n0_ ⟨e_.1.symm, e_.2.symm⟩, fun q_ hq => absurd hq List.not_mem_nil⟩), G_⟩))))⟩
-- xmnG: 10 steps, 1 ends, 0 returns
def xmnG_L : List (Nat × Nat × Nat) := [(1000, 6, 2)]
def xmnG_O : yO := [(0, .int 4, .index 155), (0, .int 0, .index 1), (1, .int 0, .index 2), (2, .arg 1, .index 1000)]
def xmnG_A : yA := (yZ xmnG_L, [(.arg 1, 12)], [], [], [])
def xmnG_C : List xB := []
def xmnG_ss : List yS := [(41, [(0, .index 0), (1, .arg 1), (2, .arg 2)], [.arg 2, .index 1000, .index 1, .index 155], [(0, .int 4, .index 155), (0, .int 0, .index 1), (1, .int 0, .index 2), (2, .arg 1, .index 1000)], [], [])]
def xmnG_rs : List yR := []
theorem xmnG_w : ywa xmnG_A xmnG_ss xmnG_rs = true := by decide +kernel
theorem xmnG_k : yis (yev xmnG_A 3000 60 94 [41] (23, [(0, .index 0), (1, .arg 1), (2, .arg 2)], [], xmnG_O, xmnG_C, [])) xmnG_ss xmnG_rs = true := by decide +kernel
def xmnG_r (v1_ v2 : Int32) (k_ : Nat) : Value := bif Nat.beq k_ 1 then .int v1_ else (bif Nat.beq k_ 2 then .int v2 else (.int 0))
def xmnG_s (a1000 : Nat) (n_ : Nat) : Nat := bif Nat.beq n_ 1000 then a1000 else (0)
theorem xmnG {h_ : xH} {a1000 : Nat} {v1_ v2 : Int32} (hs : sHp h_) (k1000 : bcq h_ a1000 6 2) (o0_ : bpat h_ 2 (v1_).toInt.toNat = some (.index a1000)) (b0 : 0 ≤ (v1_).toInt ∧ (v1_).toInt < 12) : ∃ h', ysm h_ h' ∧ (((∀ a_ j_ : Nat, bpat h' a_ j_ = bpat h_ a_ j_) ∧ (bldD 60 94 23 [(0, .index 0), (1, .int v1_), (2, .int v2)] [] h_ 41 [(0, .index 0), (1, .int v1_), (2, .int v2)] [.int v2, .index a1000, .index 1, .index 155] h'))) := by
  have hA : yas xmnG_A (xmnG_r v1_ v2) (yg (xmnG_s a1000)) := ⟨List.forall_mem_cons.mpr ⟨b0, fun q_ hq => absurd hq List.not_mem_nil⟩, fun q_ hq => absurd hq List.not_mem_nil, fun q_ hq => absurd hq List.not_mem_nil, fun n_ hn => yg_lo hn, fun q_ hq => absurd hq List.not_mem_nil⟩
  have Hs : ysh xmnG_A.1 (yg (xmnG_s a1000)) h_ := ysh_of2 hs (List.forall_mem_cons.mpr ⟨⟨by decide, k1000⟩, fun q_ hq => absurd hq List.not_mem_nil⟩)
  have Ho : ymem (xmnG_r v1_ v2) (yg (xmnG_s a1000)) xmnG_O h_ := List.forall_mem_cons.mpr ⟨bpat_some (fxr_at hs.2 (show fxk fxl 0 4 = some 155 by decide +kernel)), List.forall_mem_cons.mpr ⟨bpat_some (fxr_at hs.2 (show fxk fxl 0 0 = some 1 by decide +kernel)), List.forall_mem_cons.mpr ⟨bpat_some (fxr_at hs.2 (show fxk fxl 1 0 = some 2 by decide +kernel)), List.forall_mem_cons.mpr ⟨bpat_some o0_, fun q_ hq => absurd hq List.not_mem_nil⟩⟩⟩⟩
  have HC : ∀ q_ ∈ xmnG_C, xhold (xmnG_r v1_ v2) q_ := fun q_ hq => absurd hq List.not_mem_nil
  rcases yrun (yis_ok xmnG_k) hA Hs Ho HC with ⟨q_, hq, h', K_, G_⟩ | ⟨q_, hq, h', K_, G_⟩
  · have e_ := List.mem_singleton.mp hq
    subst e_
    exact ⟨h', yfr_sm K_.2.2.2 hs K_.1 (ywa_s xmnG_w List.mem_cons_self), ⟨fun a_ j_ => yfr_bp K_.2.2.2 (fun q_ hq => absurd hq List.not_mem_nil), G_⟩⟩
  · cases hq
-- xmnR: 4 steps, 0 ends, 1 returns
def xmnR_L : List (Nat × Nat × Nat) := []
def xmnR_O : yO := [(0, .int 4, .index 155), (155, .int 2, .arg 300)]
def xmnR_A : yA := (yZ xmnR_L, [], [], [], [])
def xmnR_C : List xB := []
def xmnR_ss : List yS := []
def xmnR_rs : List yR := [(some (.arg 300), [(0, .int 4, .index 155), (155, .int 2, .arg 300)], [], [])]
theorem xmnR_w : ywa xmnR_A xmnR_ss xmnR_rs = true := by decide +kernel
theorem xmnR_k : yis (yev xmnR_A 3000 60 94 [] (44, [(0, .index 0), (1, .arg 1), (2, .arg 2)], [], xmnR_O, xmnR_C, [])) xmnR_ss xmnR_rs = true := by decide +kernel
def xmnR_r (v1_ v2 v300 : Int32) (k_ : Nat) : Value := bif Nat.beq k_ 1 then .int v1_ else (bif Nat.beq k_ 2 then .int v2 else (bif Nat.beq k_ 300 then .int v300 else (.int 0)))
def xmnR_s (n_ : Nat) : Nat := 0
theorem xmnR {h_ : xH} {v1_ v2 v300 : Int32} (hs : sHp h_) (o0_ : bpat h_ 155 2 = some (.int v300)) : ∃ h', ysm h_ h' ∧ (((∀ a_ j_ : Nat, bpat h' a_ j_ = bpat h_ a_ j_) ∧ (∀ D_, 60 ≤ D_ → xrun D_ 94 44 [(0, .index 0), (1, .int v1_), (2, .int v2)] [] h_ (some (.int v300), h', [])))) := by
  have hA : yas xmnR_A (xmnR_r v1_ v2 v300) (yg xmnR_s) := ⟨fun q_ hq => absurd hq List.not_mem_nil, fun q_ hq => absurd hq List.not_mem_nil, fun q_ hq => absurd hq List.not_mem_nil, fun n_ hn => yg_lo hn, fun q_ hq => absurd hq List.not_mem_nil⟩
  have Hs : ysh xmnR_A.1 (yg xmnR_s) h_ := ysh_of2 hs (fun q_ hq => absurd hq List.not_mem_nil)
  have Ho : ymem (xmnR_r v1_ v2 v300) (yg xmnR_s) xmnR_O h_ := List.forall_mem_cons.mpr ⟨bpat_some (fxr_at hs.2 (show fxk fxl 0 4 = some 155 by decide +kernel)), List.forall_mem_cons.mpr ⟨bpat_some o0_, fun q_ hq => absurd hq List.not_mem_nil⟩⟩
  have HC : ∀ q_ ∈ xmnR_C, xhold (xmnR_r v1_ v2 v300) q_ := fun q_ hq => absurd hq List.not_mem_nil
  rcases yrun (yis_ok xmnR_k) hA Hs Ho HC with ⟨q_, hq, h', K_, G_⟩ | ⟨q_, hq, h', K_, G_⟩
  · cases hq
  · have e_ := List.mem_singleton.mp hq
    subst e_
    exact ⟨h', yfr_sm K_.2.2.2 hs K_.1 (ywa_r xmnR_w List.mem_cons_self), ⟨fun a_ j_ => yfr_bp K_.2.2.2 (fun q_ hq => absurd hq List.not_mem_nil), G_⟩⟩
theorem me_k : (List.range 73).all (fun c_ => (decide (fxk fxl 156 c_ = some (159 + 2 * c_)) && decide (fxk fxl (159 + 2 * c_) 0 = some (160 + 2 * c_))) && ((match bzf (159 + 2 * c_) with
  | some z_ => Nat.beq z_.1 6 && Nat.beq z_.2 2
  | none => false) && (match bzf (160 + 2 * c_) with
  | some z_ => Nat.beq z_.1 20 && Nat.beq z_.2 12
  | none => false))) = true := by decide +kernel
theorem me_s {h_ : xH} {c_ : Nat} (hs : sHp h_) (hc_ : c_ < 73) : (bpat h_ 156 c_ = some (.index (159 + 2 * c_)) ∧ bpat h_ (159 + 2 * c_) 0 = some (.index (160 + 2 * c_))) ∧ (bcq h_ (159 + 2 * c_) 6 2 ∧ bcq h_ (160 + 2 * c_) 20 12) := by
  have k_ := List.all_eq_true.mp me_k c_ (List.mem_range.mpr hc_)
  simp only [Bool.and_eq_true] at k_
  obtain ⟨⟨k1_, k1b⟩, k2_, k3_⟩ := k_
  refine ⟨⟨fxr_at hs.2 (of_decide_eq_true k1_), fxr_at hs.2 (of_decide_eq_true k1b)⟩, ?_, ?_⟩
  · cases hz : bzf (159 + 2 * c_) with
    | none => rw [hz] at k2_; exact absurd k2_ Bool.false_ne_true
    | some z_ =>
      rw [hz] at k2_
      have q_ : (Nat.beq z_.1 6 && Nat.beq z_.2 2) = true := k2_
      rw [Bool.and_eq_true] at q_
      have e_ := hs.1 _ _ hz
      rw [Nat.eq_of_beq_eq_true q_.1, Nat.eq_of_beq_eq_true q_.2] at e_
      exact e_
  · cases hz : bzf (160 + 2 * c_) with
    | none => rw [hz] at k3_; exact absurd k3_ Bool.false_ne_true
    | some z_ =>
      rw [hz] at k3_
      have q_ : (Nat.beq z_.1 20 && Nat.beq z_.2 12) = true := k3_
      rw [Bool.and_eq_true] at q_
      have e_ := hs.1 _ _ hz
      rw [Nat.eq_of_beq_eq_true q_.1, Nat.eq_of_beq_eq_true q_.2] at e_
      exact e_
/-- MEANINGS, the class -/
def meX (L_ : List (List Int32)) (h_ : xH) : Prop := bpat h_ 155 2 = some (.int (Int32.ofNat L_.length)) ∧ ∀ i_ y_, L_[i_]? = some y_ → rwx h_ (159 + 2 * i_) (160 + 2 * i_) 12 y_
def frm (h_ h' : xH) : Prop := ysm h_ h' ∧ ∀ c_ j_, ¬ (155 ≤ c_ ∧ c_ ≤ 304) → bpat h' c_ j_ = bpat h_ c_ j_
theorem frm_t {a_ b_ c_ : xH} (h1 : frm a_ b_) (h2 : frm b_ c_) : frm a_ c_ := ⟨ysm_tr h1.1 h2.1, fun c_ j_ q_ => (h2.2 c_ j_ q_).trans (h1.2 c_ j_ q_)⟩
theorem frm_a {h_ h' : xH} (m_ : ysm h_ h') (f_ : ∀ c_ j_, bpat h' c_ j_ = bpat h_ c_ j_) : frm h_ h' := ⟨m_, fun c_ j_ _ => f_ c_ j_⟩
theorem meX_a {L_ : List (List Int32)} {h_ h' : xH} (M_ : meX L_ h_) (m_ : ysm h_ h') (f_ : ∀ c_ j_, c_ = 155 ∨ (159 ≤ c_ ∧ c_ ≤ 304) → bpat h' c_ j_ = bpat h_ c_ j_) (l : L_.length ≤ 73) : meX L_ h' := ⟨(f_ _ _ (Or.inl rfl)).trans M_.1, fun i_ y_ hy => rwx_keep (M_.2 i_ y_ hy) m_ (fun c_ j_ hc_ => f_ c_ j_ (by have li := (List.getElem?_eq_some_iff.mp hy).1; omega))⟩
theorem sxc_m : (List.range 150).all (fun c_ => !(sxc (155 + c_))) = true := by decide +kernel
theorem sxc_n {c_ : Nat} (h_ : sxc c_ = true) : ¬ (155 ≤ c_ ∧ c_ ≤ 304) := fun q_ => by
  have k_ := List.all_eq_true.mp sxc_m (c_ - 155) (List.mem_range.mpr (by omega))
  rw [show 155 + (c_ - 155) = c_ by omega, h_] at k_
  cases k_
section
variable {W_ : Nat → List Int32} {V : Nat → Int32}
theorem frm_S {h_ h' : xH} (H_ : SX W_ V h_) (F_ : frm h_ h') : SX W_ V h' := SX_fr H_ F_.1 (fun c_ j_ hc_ => F_.2 c_ j_ (sxc_n hc_))
end
/-- addIfUnlike -/
theorem ai_lp {a_ ia : Nat} {y_ : List Int32} (na : ¬ a_ = 155) : ∀ (n_ i_ : Nat) (L_ : List (List Int32)) (h_ : xH), i_ + n_ = L_.length → L_.length ≤ 73 → sHp h_ → meX L_ h_ → rwx h_ a_ ia 12 y_ → (∀ j_, j_ < i_ → ¬ L_.getD j_ [] = y_) → (¬ y_ ∈ L_ → L_.length < 73) → ∃ h', (frm h_ h' ∧ meX (adu L_ y_) h') ∧ ∀ D_, 64 ≤ D_ → xrun D_ 18 2 [(2, .int (Int32.ofNat i_)), (0, .index 155), (1, .index a_)] [] h_ (none, h', []) := by
  intro n_
  have z73 : (73 : Int32).toInt = 73 := rfl
  induction n_ with
  | zero =>
    intro i_ L_ h_ hi_ l73 S_ M_ R_ nl rm
    have ny : ¬ y_ ∈ L_ := fun q_ => by
      obtain ⟨j_, hj⟩ := List.getElem?_of_mem q_
      have lj := (List.getElem?_eq_some_iff.mp hj).1
      exact nl j_ (by omega) (by rw [List.getD_eq_getElem?_getD, hj]; rfl)
    have lt_ := rm ny
    have eL := i32n (i_ := L_.length) (by omega)
    have ei : i_ = L_.length := by omega
    subst ei
    obtain ⟨⟨s1_, s2_⟩, s3_, s4_⟩ := me_s (c_ := L_.length) S_ lt_
    obtain ⟨h1, m1_, f1_, ld1⟩ := xaiF (v2 := Int32.ofNat L_.length) S_ R_.1.1 s3_ M_.1 (by rw [i32t (by omega)]; exact s1_) ⟨by omega, by omega⟩ (by omega) (by omega)
    have R1 : rwx h1 a_ ia 12 y_ := rwx_keep R_ m1_ (fun c_ j_ _ => f1_ c_ j_)
    obtain ⟨h2, S2, R2, m2_, f2_, r2⟩ := copyFrom12 m1_.1 (m1_.2 _ _ _ s3_) (m1_.2 _ _ _ s4_) ((f1_ _ _).trans s2_) R1.2.2.1 R1
    have ld2 := ycv (d_ := 60) (mi := 18) (pc := 49) (cm := 39) (lo_ := [(2, .int (Int32.ofNat L_.length)), (0, .index 155), (1, .index a_)]) (st_ := [.index a_, .index (159 + 2 * L_.length)]) (as_ := [.index a_]) (s' := []) rfl rfl (m1_.2 _ _ _ s3_) rfl (xcc_l (List.forall_mem_cons.mpr ⟨rfl, List.forall_mem_cons.mpr ⟨xidx_i (bcq_lt (bcq_of (n_ := 155) (z_ := (3, 3)) m1_.1 rfl)), List.forall_mem_cons.mpr ⟨xidx_i (bcq_lt R1.1.1), fun q_ hq => absurd hq List.not_mem_nil⟩⟩⟩) (fun t_ ht => absurd ht List.not_mem_nil) (Nat.le_of_ble_eq_true rfl)) r2
    have M2_ : bpat h2 155 2 = some (.int (Int32.ofNat L_.length)) := (f2_ _ _ (by omega) (by omega)).trans ((f1_ _ _).trans M_.1)
    obtain ⟨h3, m3_, w0_, f3_, r3⟩ := xaiG (v2 := Int32.ofNat L_.length) S2 (m2_.2 _ _ _ R1.1.1) M2_
    rw [i32s] at w0_
    refine ⟨h3, ⟨⟨ysm_tr m1_ (ysm_tr m2_ m3_), fun c_ j_ q_ => (f3_ c_ j_ (by omega)).trans ((f2_ c_ j_ (by omega) (by omega)).trans (f1_ c_ j_))⟩, ?_⟩, fun D_ hD => ld1 D_ (by omega) _ (ld2 D_ (by omega) _ (r3 D_ (by omega)))⟩
    rw [show adu L_ y_ = L_ ++ [y_] from if_neg ny]
    refine ⟨by rw [List.length_append]; exact w0_, fun j_ z_ hj => ?_⟩
    by_cases g_ : j_ < L_.length
    · rw [List.getElem?_append_left g_] at hj
      exact rwx_keep (M_.2 j_ z_ hj) (ysm_tr m1_ (ysm_tr m2_ m3_)) (fun c_ k_ hc_ => (f3_ c_ k_ (by omega)).trans ((f2_ c_ k_ (by omega) (by omega)).trans (f1_ c_ k_)))
    · have lj := (List.getElem?_eq_some_iff.mp hj).1
      rw [List.length_append] at lj
      have ej : j_ = L_.length := by
        have q_ : [y_].length = 1 := rfl
        omega
      subst ej
      rw [List.getElem?_append_right (Nat.le_refl _), Nat.sub_self] at hj
      have ez : y_ = z_ := Option.some.inj hj
      rw [← ez]
      exact rwx_keep R2 m3_ (fun c_ k_ hc_ => f3_ c_ k_ (by omega))
  | succ n_ ih_ =>
    intro i_ L_ h_ hi_ l73 S_ M_ R_ nl rm
    have li : i_ < L_.length := by omega
    have eL := i32n (i_ := L_.length) (by omega)
    have ei := i32n (i_ := i_) (by omega)
    obtain ⟨⟨s1_, s2_⟩, s3_, s4_⟩ := me_s (c_ := i_) S_ (by omega)
    obtain ⟨h1, m1_, f1_, ld1⟩ := xaiT (v2 := Int32.ofNat i_) S_ R_.1.1 s3_ M_.1 (by rw [i32t (by omega)]; exact s1_) ⟨by omega, by omega⟩ (by omega)
    have R1 : rwx h1 a_ ia 12 y_ := rwx_keep R_ m1_ (fun c_ j_ _ => f1_ c_ j_)
    have RL : rwx h1 (159 + 2 * i_) (160 + 2 * i_) 12 (L_.getD i_ []) := rwx_keep (M_.2 i_ _ (gD_at li)) m1_ (fun c_ j_ _ => f1_ c_ j_)
    obtain ⟨h2, m2_, f2_, r2⟩ := ilX m1_.1 RL R1
    have ld2 := ycv (d_ := 62) (mi := 18) (pc := 17) (cm := 41) (lo_ := [(2, .int (Int32.ofNat i_)), (0, .index 155), (1, .index a_)]) (st_ := [.index a_, .index (159 + 2 * i_)]) (as_ := [.index a_]) (s' := []) rfl rfl (m1_.2 _ _ _ s3_) rfl (xcc_l (List.forall_mem_cons.mpr ⟨rfl, List.forall_mem_cons.mpr ⟨xidx_i (bcq_lt (bcq_of (n_ := 155) (z_ := (3, 3)) m1_.1 rfl)), List.forall_mem_cons.mpr ⟨xidx_i (bcq_lt R1.1.1), fun q_ hq => absurd hq List.not_mem_nil⟩⟩⟩) (fun t_ ht => absurd ht List.not_mem_nil) (Nat.le_of_ble_eq_true rfl)) r2
    have M2_ : meX L_ h2 := meX_a M_ (ysm_tr m1_ m2_) (fun c_ j_ _ => (f2_ c_ j_).trans (f1_ c_ j_)) l73
    have R2 : rwx h2 a_ ia 12 y_ := rwx_keep R1 m2_ (fun c_ j_ _ => f2_ c_ j_)
    have F2 : frm h_ h2 := ⟨ysm_tr m1_ m2_, fun c_ j_ _ => (f2_ c_ j_).trans (f1_ c_ j_)⟩
    by_cases g_ : L_.getD i_ [] = y_
    · rw [if_pos g_] at ld2
      obtain ⟨h3, m3_, f3_, r3⟩ := xaiR1 (v2 := Int32.ofNat i_) m2_.1 R2.1.1
      refine ⟨h3, ⟨frm_t F2 (frm_a m3_ f3_), ?_⟩, fun D_ hD => ld1 D_ (by omega) _ (ld2 D_ (by omega) _ (r3 D_ (by omega)))⟩
      rw [show adu L_ y_ = L_ from if_pos (by rw [← g_]; exact gD_in li)]
      exact meX_a M2_ m3_ (fun c_ j_ _ => f3_ c_ j_) l73
    · rw [if_neg g_] at ld2
      obtain ⟨h3, m3_, f3_, ld3⟩ := xaiR0 (v2 := Int32.ofNat i_) m2_.1 R2.1.1
      rw [i32s] at ld3
      obtain ⟨h4, ⟨F4, M4_⟩, r4⟩ := ih_ (i_ + 1) L_ h3 (by omega) l73 m3_.1 (meX_a M2_ m3_ (fun c_ j_ _ => f3_ c_ j_) l73) (rwx_keep R2 m3_ (fun c_ j_ _ => f3_ c_ j_)) (fun j_ hj => by
        by_cases e_ : j_ = i_
        · rw [e_]; exact g_
        · exact nl j_ (by omega)) rm
      exact ⟨h4, ⟨frm_t F2 (frm_t (frm_a m3_ f3_) F4), M4_⟩, fun D_ hD => ld1 D_ (by omega) _ (ld2 D_ (by omega) _ (ld3 D_ (by omega) _ (r4 D_ hD)))⟩
theorem aiX {a_ ia : Nat} {y_ : List Int32} {L_ : List (List Int32)} {h_ : xH} (na : ¬ a_ = 155) (l73 : L_.length ≤ 73) (S_ : sHp h_) (M_ : meX L_ h_) (R_ : rwx h_ a_ ia 12 y_) (rm : ¬ y_ ∈ L_ → L_.length < 73) : ∃ h', (frm h_ h' ∧ meX (adu L_ y_) h') ∧ ∀ D_, 64 ≤ D_ → xrun D_ 18 0 [(0, .index 155), (1, .index a_)] [] h_ (none, h', []) := by
  obtain ⟨h1, m1_, f1_, ld1⟩ := xaiA S_ R_.1.1
  obtain ⟨h2, ⟨F2, M2_⟩, r2⟩ := ai_lp (a_ := a_) (ia := ia) (y_ := y_) na L_.length 0 L_ h1 (by omega) l73 m1_.1 (meX_a M_ m1_ (fun c_ j_ _ => f1_ c_ j_) l73) (rwx_keep R_ m1_ (fun c_ j_ _ => f1_ c_ j_)) (fun j_ hj => by omega) rm
  exact ⟨h2, ⟨frm_t (frm_a m1_ f1_) F2, M2_⟩, fun D_ hD => ld1 D_ (by omega) _ (r2 D_ hD)⟩
section
variable {W_ : Nat → List Int32} {V : Nat → Int32}
/-- addUndone -/
theorem au_lp (K_ : okS W_ V) {x_ : List Int32} {i9_ : Nat} {MM : List (List Int32)} (lM : MM.length ≤ 73) (PM_ : ∀ r_ y_, r_ < 8 → uO W_ V x_ r_ = some y_ → y_ ∈ MM) : ∀ (n_ r_ : Nat) (L_ : List (List Int32)) (h_ : xH), r_ + n_ = nR V → SX W_ V h_ → meX L_ h_ → ndp L_ → (∀ y_ ∈ L_, y_ ∈ MM) → L_[i9_]? = some x_ → ∃ h', (SX W_ V h' ∧ ysm h_ h') ∧ (meX (adF (uO W_ V x_) n_ r_ L_) h' ∧ ∀ D_, 66 ≤ D_ → xrun D_ 17 2 [(3, .int (Int32.ofNat r_)), (0, .index 155), (1, .index 1), (2, .index (159 + 2 * i9_))] [] h_ (none, h', [])) := by
  intro n_
  have n8 := (nR_le K_).1
  have en := (nR_le K_).2
  induction n_ with
  | zero =>
    intro r_ L_ h_ hr H_ M_ ND_ SB hx
    have li := (List.getElem?_eq_some_iff.mp hx).1
    have lL := Nat.le_trans (ndp_le L_ MM ND_ SB) lM
    obtain ⟨h1, m1_, f1_, r1_⟩ := xauX (v3 := Int32.ofNat r_) (v300 := V 1) H_.1 (M_.2 i9_ x_ hx).1.1 (SX_v H_ (show ((1, 10), 1) ∈ wvX by decide)) (by rw [en, i32n (by omega), i32n (by omega)]; omega)
    exact ⟨h1, ⟨SX_fr H_ m1_ (fun c_ j_ _ => f1_ c_ j_), m1_⟩, meX_a M_ m1_ (fun c_ j_ _ => f1_ c_ j_) lL, fun D_ hD => r1_ D_ (by omega)⟩
  | succ n_ ih_ =>
    intro r_ L_ h_ hr H_ M_ ND_ SB hx
    have li := (List.getElem?_eq_some_iff.mp hx).1
    have lL := Nat.le_trans (ndp_le L_ MM ND_ SB) lM
    have r8 : r_ < 8 := by omega
    have ir := i32n (i_ := r_) (by omega)
    have RX := M_.2 i9_ x_ hx
    obtain ⟨p1_, p2_⟩ := rck_ok (k_ := r_) H_.1 r8
    obtain ⟨⟨a1_, a2⟩, b1_, b2⟩ := rk_b (k_ := r_) K_ r8
    have e0_ := SX_v H_ (rk_in (k_ := r_) (j_ := 0) r8 (by omega)).1
    rw [Nat.add_zero, a2] at e0_
    have kd := i32n (i_ := kdV V r_) (by omega)
    have k5_ : Int32.ofNat (kdV V r_) = 5 ↔ kdV V r_ = 5 := ⟨fun q_ => by have q2_ := congrArg Int32.toInt q_; rw [kd, show (5 : Int32).toInt = 5 from rfl] at q2_; omega, fun q_ => by rw [q_]; rfl⟩
    have k6_ : Int32.ofNat (kdV V r_) = 6 ↔ kdV V r_ = 6 := ⟨fun q_ => by have q2_ := congrArg Int32.toInt q_; rw [kd, show (6 : Int32).toInt = 6 from rfl] at q2_; omega, fun q_ => by rw [q_]; rfl⟩
    show ∃ h', (SX W_ V h' ∧ ysm h_ h') ∧ (meX (adF (uO W_ V x_) n_ (r_ + 1) (ado L_ (uO W_ V x_ r_))) h' ∧ _)
    by_cases g5_ : kdV V r_ = 5
    · have eu : uO W_ V x_ r_ = none := pif_f (fun q_ => q_ (Or.inl g5_))
      rw [eu]
      obtain ⟨h1, m1_, f1_, ld1⟩ := xauN5 (v3 := Int32.ofNat r_) (v300 := V 1) H_.1 RX.1.1 p2_ (SX_v H_ (show ((1, 10), 1) ∈ wvX by decide)) (by rw [i32t (by omega)]; exact p1_) e0_ ⟨by omega, by omega⟩ (k5_.mpr g5_) (by rw [en, i32n (by omega), i32n (by omega)]; omega)
      rw [i32s] at ld1
      obtain ⟨h2, ⟨H2_, m2_⟩, M2_, r2⟩ := ih_ (r_ + 1) L_ h1 (by omega) (SX_fr H_ m1_ (fun c_ j_ _ => f1_ c_ j_)) (meX_a M_ m1_ (fun c_ j_ _ => f1_ c_ j_) lL) ND_ SB hx
      exact ⟨h2, ⟨H2_, ysm_tr m1_ m2_⟩, M2_, fun D_ hD => ld1 D_ (by omega) _ (r2 D_ hD)⟩
    by_cases g6 : kdV V r_ = 6
    · have eu : uO W_ V x_ r_ = none := pif_f (fun q_ => q_ (Or.inr g6))
      rw [eu]
      obtain ⟨h1, m1_, f1_, ld1⟩ := xauN6 (v3 := Int32.ofNat r_) (v300 := V 1) H_.1 RX.1.1 p2_ (SX_v H_ (show ((1, 10), 1) ∈ wvX by decide)) (by rw [i32t (by omega)]; exact p1_) e0_ ⟨by omega, by omega⟩ (k6_.mpr g6) (fun q_ => g5_ (k5_.mp q_)) (by rw [en, i32n (by omega), i32n (by omega)]; omega)
      rw [i32s] at ld1
      obtain ⟨h2, ⟨H2_, m2_⟩, M2_, r2⟩ := ih_ (r_ + 1) L_ h1 (by omega) (SX_fr H_ m1_ (fun c_ j_ _ => f1_ c_ j_)) (meX_a M_ m1_ (fun c_ j_ _ => f1_ c_ j_) lL) ND_ SB hx
      exact ⟨h2, ⟨H2_, ysm_tr m1_ m2_⟩, M2_, fun D_ hD => ld1 D_ (by omega) _ (r2 D_ hD)⟩
    have eu : uO W_ V x_ r_ = some (stp W_ V r_ x_) := pif_t (fun q_ => q_.elim g5_ g6)
    have hy := PM_ r_ _ r8 eu
    rw [eu]
    obtain ⟨h1, m1_, f1_, ld1⟩ := xauT (v3 := Int32.ofNat r_) (v300 := V 1) H_.1 RX.1.1 p2_ (SX_v H_ (show ((1, 10), 1) ∈ wvX by decide)) (by rw [i32t (by omega)]; exact p1_) e0_ ⟨by omega, by omega⟩ (fun q_ => g6 (k6_.mp q_)) (fun q_ => g5_ (k5_.mp q_)) (by rw [en, i32n (by omega), i32n (by omega)]; omega)
    have H1_ := SX_fr H_ m1_ (fun c_ j_ _ => f1_ c_ j_)
    have RX1 := rwx_keep RX m1_ (fun c_ j_ _ => f1_ c_ j_)
    have q1_ : bcq h1 157 6 2 := bcq_of (n_ := 157) (z_ := (6, 2)) H1_.1 rfl
    have q2_ : bcq h1 158 20 12 := bcq_of (n_ := 158) (z_ := (20, 12)) H1_.1 rfl
    have q3_ : bpat h1 157 0 = some (.index 158) := fxr_at H1_.1.2 (show fxk fxl 157 0 = some 158 by decide +kernel)
    obtain ⟨h2, S2, R2, m2_, f2_, r2⟩ := copyFrom12 H1_.1 q1_ q2_ q3_ RX1.2.2.1 RX1
    have ld2 := ycv (d_ := 60) (mi := 17) (pc := 27) (cm := 39) (lo_ := [(3, .int (Int32.ofNat r_)), (0, .index 155), (1, .index 1), (2, .index (159 + 2 * i9_))]) (st_ := [.index (159 + 2 * i9_), .index 157]) (as_ := [.index (159 + 2 * i9_)]) (s' := []) rfl rfl q1_ rfl (xcc_l (List.forall_mem_cons.mpr ⟨rfl, List.forall_mem_cons.mpr ⟨xidx_i (bcq_lt (bcq_of (n_ := 155) (z_ := (3, 3)) H1_.1 rfl)), List.forall_mem_cons.mpr ⟨xidx_i (bcq_lt (bcq_of (n_ := 1) (z_ := (10, 15)) H1_.1 rfl)), List.forall_mem_cons.mpr ⟨xidx_i (bcq_lt RX1.1.1), fun q_ hq => absurd hq List.not_mem_nil⟩⟩⟩⟩) (fun t_ ht => absurd ht List.not_mem_nil) (Nat.le_of_ble_eq_true rfl)) r2
    have H2_ := SX_fr H1_ m2_ (fun c_ j_ hc_ => f2_ c_ j_ (fun q_ => by rw [q_] at hc_; exact absurd hc_ (by decide)) (fun q_ => by rw [q_] at hc_; exact absurd hc_ (by decide)))
    have RW2 : rW 157 158 h2 x_ := ⟨S2, R2, RX.2.2.1⟩
    obtain ⟨p1b, p2b⟩ := rck_ok (k_ := r_) H2_.1 r8
    have RX2 := rwx_keep RX1 m2_ (fun c_ j_ hc_ => f2_ c_ j_ (by omega) (by omega))
    obtain ⟨h3, m3_, f3_, ld3⟩ := xauC (v3 := Int32.ofNat r_) H2_.1 RX2.1.1 p2b (by rw [i32t (by omega)]; exact p1b) ⟨by omega, by omega⟩
    have H3 := SX_fr H2_ m3_ (fun c_ j_ _ => f3_ c_ j_)
    have RX3 := rwx_keep RX2 m3_ (fun c_ j_ _ => f3_ c_ j_)
    obtain ⟨h4, ⟨H4, F4⟩, R4, ld4⟩ := c_sb (mi := 17) (pc := 41) (k_ := r_) (a_ := 157) (b_ := 158) (lo_ := [(3, .int (Int32.ofNat r_)), (0, .index 155), (1, .index 1), (2, .index (159 + 2 * i9_))]) (s' := []) rfl (xcc_l (List.forall_mem_cons.mpr ⟨rfl, List.forall_mem_cons.mpr ⟨xidx_i (bcq_lt (bcq_of (n_ := 155) (z_ := (3, 3)) H3.1 rfl)), List.forall_mem_cons.mpr ⟨xidx_i (bcq_lt (bcq_of (n_ := 1) (z_ := (10, 15)) H3.1 rfl)), List.forall_mem_cons.mpr ⟨xidx_i (bcq_lt RX3.1.1), fun q_ hq => absurd hq List.not_mem_nil⟩⟩⟩⟩) (fun t_ ht => absurd ht List.not_mem_nil) (Nat.le_of_ble_eq_true rfl)) K_ H3 r8 (by decide) (by decide) ⟨by decide, by decide, by decide⟩ (rW_all RW2 m3_ f3_)
    have RX4 : bcq h4 (159 + 2 * i9_) 6 2 := F4.1.2 _ _ _ RX3.1.1
    obtain ⟨h5, m5_, f5_, ld5⟩ := xauD (v3 := Int32.ofNat r_) H4.1 RX4
    have H5 := SX_fr H4 m5_ (fun c_ j_ _ => f5_ c_ j_)
    have M5_ : meX L_ h5 := meX_a M_ (ysm_tr m1_ (ysm_tr m2_ (ysm_tr m3_ (ysm_tr F4.1 m5_)))) (fun c_ j_ hc_ => (f5_ c_ j_).trans ((F4.2 c_ j_ (by omega) (by omega) (by omega) (by omega)).trans ((f3_ c_ j_).trans ((f2_ c_ j_ (by omega) (by omega)).trans (f1_ c_ j_))))) lL
    have R5 := rW_all R4 m5_ f5_
    obtain ⟨h6, ⟨F6, M6_⟩, r6⟩ := aiX (a_ := 157) (ia := 158) (y_ := stp W_ V r_ x_) (by decide) lL H5.1 M5_ R5.2.1 (fun q_ => Nat.lt_of_lt_of_le (ndp_lt ND_ SB hy q_) lM)
    have ld6 := ycv (d_ := 64) (mi := 17) (pc := 49) (cm := 18) (lo_ := [(3, .int (Int32.ofNat r_)), (0, .index 155), (1, .index 1), (2, .index (159 + 2 * i9_))]) (st_ := [.index 157, .index 155]) (as_ := [.index 157]) (s' := []) rfl rfl (bcq_of (n_ := 155) (z_ := (3, 3)) H5.1 rfl) rfl (xcc_l (List.forall_mem_cons.mpr ⟨rfl, List.forall_mem_cons.mpr ⟨xidx_i (bcq_lt (bcq_of (n_ := 155) (z_ := (3, 3)) H5.1 rfl)), List.forall_mem_cons.mpr ⟨xidx_i (bcq_lt (bcq_of (n_ := 1) (z_ := (10, 15)) H5.1 rfl)), List.forall_mem_cons.mpr ⟨xidx_i (bcq_lt (m5_.2 _ _ _ RX4)), fun q_ hq => absurd hq List.not_mem_nil⟩⟩⟩⟩) (fun t_ ht => absurd ht List.not_mem_nil) (Nat.le_of_ble_eq_true rfl)) r6
    have H6 := frm_S H5 F6
    have RX6 : bcq h6 (159 + 2 * i9_) 6 2 := F6.1.2 _ _ _ (m5_.2 _ _ _ RX4)
    obtain ⟨h7, m7_, f7_, ld7⟩ := xauE (v3 := Int32.ofNat r_) H6.1 RX6
    rw [i32s] at ld7
    have LA : (adu L_ (stp W_ V r_ x_)).length ≤ 73 := Nat.le_trans (ndp_le _ MM (adu_d ND_) (fun z_ hz => (adu_m.mp hz).elim (SB z_) (fun q_ => by rw [q_]; exact hy))) lM
    obtain ⟨T, eT⟩ := ado_p (L_ := L_) (o := some (stp W_ V r_ x_))
    obtain ⟨h8, ⟨H8, m8_⟩, M8_, r8_⟩ := ih_ (r_ + 1) (adu L_ (stp W_ V r_ x_)) h7 (by omega) (SX_fr H6 m7_ (fun c_ j_ _ => f7_ c_ j_)) (meX_a M6_ m7_ (fun c_ j_ _ => f7_ c_ j_) LA) (adu_d ND_) (fun z_ hz => (adu_m.mp hz).elim (SB z_) (fun q_ => by rw [q_]; exact hy)) (by
      have eT2 : adu L_ (stp W_ V r_ x_) = L_ ++ T := eT
      rw [eT2, List.getElem?_append_left li]
      exact hx)
    exact ⟨h8, ⟨H8, ysm_tr m1_ (ysm_tr m2_ (ysm_tr m3_ (ysm_tr F4.1 (ysm_tr m5_ (ysm_tr F6.1 (ysm_tr m7_ m8_))))))⟩, M8_, fun D_ hD => ld1 D_ (by omega) _ (ld2 D_ (by omega) _ (ld3 D_ (by omega) _ (ld4 D_ (by omega) _ (ld5 D_ (by omega) _ (ld6 D_ (by omega) _ (ld7 D_ (by omega) _ (r8_ D_ hD)))))))⟩
theorem auX (K_ : okS W_ V) (x_ : List Int32) (i9_ : Nat) {MM L_ : List (List Int32)} {h_ : xH} (lM : MM.length ≤ 73) (PM_ : ∀ r_ y_, r_ < 8 → uO W_ V x_ r_ = some y_ → y_ ∈ MM) (H_ : SX W_ V h_) (M_ : meX L_ h_) (ND_ : ndp L_) (SB : ∀ y_ ∈ L_, y_ ∈ MM) (hx : L_[i9_]? = some x_) : ∃ h', (SX W_ V h' ∧ ysm h_ h') ∧ (meX (adF (uO W_ V x_) (nR V) 0 L_) h' ∧ ∀ D_, 66 ≤ D_ → xrun D_ 17 0 [(0, .index 155), (1, .index 1), (2, .index (159 + 2 * i9_))] [] h_ (none, h', [])) := by
  have lL := Nat.le_trans (ndp_le L_ MM ND_ SB) lM
  obtain ⟨h1, m1_, f1_, ld1⟩ := xauA H_.1 (M_.2 i9_ x_ hx).1.1
  obtain ⟨h2, ⟨H2_, m2_⟩, M2_, r2⟩ := au_lp K_ lM PM_ (nR V) 0 L_ h1 (by omega) (SX_fr H_ m1_ (fun c_ j_ _ => f1_ c_ j_)) (meX_a M_ m1_ (fun c_ j_ _ => f1_ c_ j_) lL) ND_ SB hx
  exact ⟨h2, ⟨H2_, ysm_tr m1_ m2_⟩, M2_, fun D_ hD => ld1 D_ (by omega) _ (r2 D_ hD)⟩
end
section
variable {W_ : Nat → List Int32} {V : Nat → Int32}
/-- gather, one step -/
theorem gs_x (K_ : okS W_ V) (row9 : List Int32) (q9_ s_ N0 : Nat) (k9 y4 : Int32) (hs : s_ < 2) : ∀ (n_ i_ : Nat) (L_ : List (List Int32)) (h_ : xH), i_ + n_ = N0 → N0 ≤ L_.length → SX W_ V h_ → bcq h_ q9_ 6 2 → meX L_ h_ → ndp L_ → (∀ y_ ∈ L_, y_ ∈ mzF (uO W_ V) row9 (s_ + 1)) → (∀ j_, j_ < N0 → L_.getD j_ [] ∈ mzF (uO W_ V) row9 s_) → ∃ h', (SX W_ V h' ∧ ysm h_ h') ∧ ((meX (gsF (uO W_ V) (nR V) n_ i_ L_) h' ∧ (ndp (gsF (uO W_ V) (nR V) n_ i_ L_) ∧ ∀ y_ ∈ gsF (uO W_ V) (nR V) n_ i_ L_, y_ ∈ mzF (uO W_ V) row9 (s_ + 1))) ∧ bldD 68 16 28 [(6, .int (Int32.ofNat i_)), (5, .int (Int32.ofNat N0)), (4, .int y4), (0, .index 155), (1, .index 1), (2, .index q9_), (3, .int k9)] [] h_ 13 [(4, .int (y4 + 1)), (6, .int (Int32.ofNat N0)), (5, .int (Int32.ofNat N0)), (0, .index 155), (1, .index 1), (2, .index q9_), (3, .int k9)] [] h') := by
  intro n_
  have lM : (mzF (uO W_ V) row9 2).length ≤ 73 := mzF_l
  induction n_ with
  | zero =>
    intro i_ L_ h_ hi_ hN_ H_ Q_ M_ ND_ SB SK_
    have lL := Nat.le_trans (ndp_le L_ _ ND_ (fun y_ hy => mzF_w (by omega) (SB y_ hy))) lM
    have ei : i_ = N0 := by omega
    subst ei
    have ii := i32n (i_ := i_) (by omega)
    obtain ⟨h1, m1_, f1_, ld1⟩ := xgaY (v3 := k9) (v4_ := y4) (v5 := Int32.ofNat i_) (v6 := Int32.ofNat i_) H_.1 Q_ (by omega)
    exact ⟨h1, ⟨SX_fr H_ m1_ (fun c_ j_ _ => f1_ c_ j_), m1_⟩, ⟨meX_a M_ m1_ (fun c_ j_ _ => f1_ c_ j_) lL, ND_, SB⟩, fun D_ hD => ld1 D_ (by omega)⟩
  | succ n_ ih_ =>
    intro i_ L_ h_ hi_ hN_ H_ Q_ M_ ND_ SB SK_
    have lL := Nat.le_trans (ndp_le L_ _ ND_ (fun y_ hy => mzF_w (by omega) (SB y_ hy))) lM
    have li : i_ < L_.length := by omega
    have ii := i32n (i_ := i_) (by omega)
    have i0_ := i32n (i_ := N0) (by omega)
    obtain ⟨⟨s1_, s2_⟩, s3_, s4_⟩ := me_s (c_ := i_) H_.1 (by omega)
    obtain ⟨h1, m1_, f1_, ld1⟩ := xgaT (v3 := k9) (v4_ := y4) (v5 := Int32.ofNat N0) (v6 := Int32.ofNat i_) H_.1 Q_ s3_ (by rw [i32t (by omega)]; exact s1_) ⟨by omega, by omega⟩ (by omega)
    have H1_ := SX_fr H_ m1_ (fun c_ j_ _ => f1_ c_ j_)
    have Q1_ := m1_.2 _ _ _ Q_
    have PM_ : ∀ r_ y_, r_ < 8 → uO W_ V (L_.getD i_ []) r_ = some y_ → y_ ∈ mzF (uO W_ V) row9 2 := fun r_ y_ hr e_ => mzF_w (by omega) (mzF_s hs (SK_ i_ (by omega)) hr e_)
    have PM1 : ∀ r_ y_, r_ < 8 → uO W_ V (L_.getD i_ []) r_ = some y_ → y_ ∈ mzF (uO W_ V) row9 (s_ + 1) := fun r_ y_ hr e_ => mzF_s hs (SK_ i_ (by omega)) hr e_
    obtain ⟨h2, ⟨H2_, m2_⟩, M2_, r2⟩ := auX K_ (L_.getD i_ []) i_ lM PM_ H1_ (meX_a M_ m1_ (fun c_ j_ _ => f1_ c_ j_) lL) ND_ (fun y_ hy => mzF_w (by omega) (SB y_ hy)) (gD_at li)
    have ld2 := ycv (d_ := 66) (mi := 16) (pc := 44) (cm := 17) (lo_ := [(6, .int (Int32.ofNat i_)), (5, .int (Int32.ofNat N0)), (4, .int y4), (0, .index 155), (1, .index 1), (2, .index q9_), (3, .int k9)]) (st_ := [.index (159 + 2 * i_), .index 1, .index 155]) (as_ := [.index 1, .index (159 + 2 * i_)]) (s' := []) rfl rfl (bcq_of (n_ := 155) (z_ := (3, 3)) H1_.1 rfl) rfl (xcc_l (List.forall_mem_cons.mpr ⟨rfl, List.forall_mem_cons.mpr ⟨rfl, List.forall_mem_cons.mpr ⟨rfl, List.forall_mem_cons.mpr ⟨xidx_i (bcq_lt (bcq_of (n_ := 155) (z_ := (3, 3)) H1_.1 rfl)), List.forall_mem_cons.mpr ⟨xidx_i (bcq_lt (bcq_of (n_ := 1) (z_ := (10, 15)) H1_.1 rfl)), List.forall_mem_cons.mpr ⟨xidx_i (bcq_lt Q1_), List.forall_mem_cons.mpr ⟨rfl, fun q_ hq => absurd hq List.not_mem_nil⟩⟩⟩⟩⟩⟩⟩) (fun t_ ht => absurd ht List.not_mem_nil) (Nat.le_of_ble_eq_true rfl)) r2
    have Q2_ := m2_.2 _ _ _ Q1_
    obtain ⟨h3, m3_, f3_, ld3⟩ := xgaU (v3 := k9) (v4_ := y4) (v5 := Int32.ofNat N0) (v6 := Int32.ofNat i_) H2_.1 Q2_
    rw [i32s] at ld3
    have n8 := (nR_le K_).1
    have SB2 : ∀ y_ ∈ adF (uO W_ V (L_.getD i_ [])) (nR V) 0 L_, y_ ∈ mzF (uO W_ V) row9 (s_ + 1) := fun y_ hy => by
      rcases (adF_m _ _ _).mp hy with g_ | ⟨j_, a_, b_, c_⟩
      · exact SB y_ g_
      · exact PM1 j_ y_ (by omega) c_
    have ND2 := adF_d (P_ := uO W_ V (L_.getD i_ [])) (nR V) 0 L_ ND_
    have lL2 := Nat.le_trans (ndp_le _ _ ND2 (fun y_ hy => mzF_w (by omega) (SB2 y_ hy))) lM
    obtain ⟨T, eT⟩ := adF_p (P_ := uO W_ V (L_.getD i_ [])) (nR V) 0 L_
    obtain ⟨h4, ⟨H4, m4_⟩, M4_, ld4⟩ := ih_ (i_ + 1) (adF (uO W_ V (L_.getD i_ [])) (nR V) 0 L_) h3 (by omega) (by rw [eT, List.length_append]; omega) (SX_fr H2_ m3_ (fun c_ j_ _ => f3_ c_ j_)) (m3_.2 _ _ _ Q2_) (meX_a M2_ m3_ (fun c_ j_ _ => f3_ c_ j_) lL2) ND2 SB2 (fun j_ hj => by rw [eT, gD_ap (by omega)]; exact SK_ j_ hj)
    exact ⟨h4, ⟨H4, ysm_tr m1_ (ysm_tr m2_ (ysm_tr m3_ m4_))⟩, M4_, fun D_ hD oo z_ => ld1 D_ (by omega) oo (ld2 D_ (by omega) oo (ld3 D_ (by omega) oo (ld4 D_ hD oo z_)))⟩
/-- gather's steps -/
theorem ga_x (K_ : okS W_ V) (row9 : List Int32) (q9_ : Nat) (k9 : Int32) : ∀ (n_ s_ : Nat) (L_ : List (List Int32)) (h_ : xH) (lo_ : xL), s_ + n_ ≤ 2 → k9 = Int32.ofNat (s_ + n_) → SX W_ V h_ → bcq h_ q9_ 6 2 → meX L_ h_ → ndp L_ → (∀ y_ ∈ L_, y_ ∈ mzF (uO W_ V) row9 s_) → (lo_ = [(4, .int (Int32.ofNat s_)), (0, .index 155), (1, .index 1), (2, .index q9_), (3, .int k9)] ∨ ∃ y6 y5 : Int32, lo_ = [(4, .int (Int32.ofNat s_)), (6, .int y6), (5, .int y5), (0, .index 155), (1, .index 1), (2, .index q9_), (3, .int k9)]) → ∃ h', (SX W_ V h' ∧ ysm h_ h') ∧ (meX (gkF (uO W_ V) (nR V) n_ L_) h' ∧ ∀ D_, 68 ≤ D_ → xrun D_ 16 13 lo_ [] h_ (none, h', [])) := by
  intro n_
  have lM : (mzF (uO W_ V) row9 2).length ≤ 73 := mzF_l
  induction n_ with
  | zero =>
    intro s_ L_ h_ lo_ hn ek H_ Q_ M_ ND_ SB hd_
    have lL := Nat.le_trans (ndp_le L_ _ ND_ (fun y_ hy => mzF_w (by omega) (SB y_ hy))) lM
    have ii := i32n (i_ := s_) (by omega)
    have ik : k9.toInt = ((s_ : Nat) : Int) := by rw [ek]; exact i32n (by omega)
    rcases hd_ with rfl | ⟨y6, y5, rfl⟩
    · obtain ⟨h1, m1_, f1_, r1_⟩ := xgaXA (v3 := k9) (v4_ := Int32.ofNat s_) H_.1 Q_ (by omega)
      exact ⟨h1, ⟨SX_fr H_ m1_ (fun c_ j_ _ => f1_ c_ j_), m1_⟩, meX_a M_ m1_ (fun c_ j_ _ => f1_ c_ j_) lL, fun D_ hD => r1_ D_ (by omega)⟩
    · obtain ⟨h1, m1_, f1_, r1_⟩ := xgaXB (v3 := k9) (v4_ := Int32.ofNat s_) (v5 := y5) (v6 := y6) H_.1 Q_ (by omega)
      exact ⟨h1, ⟨SX_fr H_ m1_ (fun c_ j_ _ => f1_ c_ j_), m1_⟩, meX_a M_ m1_ (fun c_ j_ _ => f1_ c_ j_) lL, fun D_ hD => r1_ D_ (by omega)⟩
  | succ n_ ih_ =>
    intro s_ L_ h_ lo_ hn ek H_ Q_ M_ ND_ SB hd_
    have lL := Nat.le_trans (ndp_le L_ _ ND_ (fun y_ hy => mzF_w (by omega) (SB y_ hy))) lM
    have ii := i32n (i_ := s_) (by omega)
    have ik : k9.toInt = ((s_ + (n_ + 1) : Nat) : Int) := by rw [ek]; exact i32n (by omega)
    have hd2 : ∃ h1, (ysm h_ h1 ∧ ∀ c_ j_, bpat h1 c_ j_ = bpat h_ c_ j_) ∧ bldD 60 16 13 lo_ [] h_ 28 [(6, .int (Int32.ofNat 0)), (5, .int (Int32.ofNat L_.length)), (4, .int (Int32.ofNat s_)), (0, .index 155), (1, .index 1), (2, .index q9_), (3, .int k9)] [] h1 := by
      rcases hd_ with rfl | ⟨y6, y5, rfl⟩
      · obtain ⟨h1, m1_, f1_, ld1⟩ := xgaIA (v3 := k9) (v4_ := Int32.ofNat s_) H_.1 Q_ M_.1 (by omega)
        exact ⟨h1, ⟨m1_, f1_⟩, ld1⟩
      · obtain ⟨h1, m1_, f1_, ld1⟩ := xgaIB (v3 := k9) (v4_ := Int32.ofNat s_) (v5 := y5) (v6 := y6) H_.1 Q_ M_.1 (by omega)
        exact ⟨h1, ⟨m1_, f1_⟩, ld1⟩
    obtain ⟨h1, ⟨m1_, f1_⟩, ld1⟩ := hd2
    obtain ⟨h2, ⟨H2_, m2_⟩, ⟨M2_, ND2, SB2⟩, ld2⟩ := gs_x K_ row9 q9_ s_ L_.length k9 (Int32.ofNat s_) (by omega) L_.length 0 L_ h1 (by omega) (Nat.le_refl _) (SX_fr H_ m1_ (fun c_ j_ _ => f1_ c_ j_)) (m1_.2 _ _ _ Q_) (meX_a M_ m1_ (fun c_ j_ _ => f1_ c_ j_) lL) ND_ (fun y_ hy => mzF_u (by omega) (SB y_ hy)) (fun j_ hj => SB _ (gD_in hj))
    rw [i32s] at ld2
    obtain ⟨h3, ⟨H3, m3_⟩, M3_, r3⟩ := ih_ (s_ + 1) (gsF (uO W_ V) (nR V) L_.length 0 L_) h2 _ (by omega) (by rw [ek]; congr 1; omega) H2_ (m2_.2 _ _ _ (m1_.2 _ _ _ Q_)) M2_ ND2 SB2 (Or.inr ⟨_, _, rfl⟩)
    exact ⟨h3, ⟨H3, ysm_tr m1_ (ysm_tr m2_ m3_)⟩, M3_, fun D_ hD => ld1 D_ (by omega) _ (ld2 D_ (by omega) _ (r3 D_ hD))⟩
theorem gaX (K_ : okS W_ V) (row9 : List Int32) (q9_ iq k9 : Nat) {h_ : xH} (hk : k9 ≤ 2) (nq : ¬ (155 ≤ q9_ ∧ q9_ ≤ 304)) (H_ : SX W_ V h_) (R_ : rwx h_ q9_ iq 12 row9) (nq2 : ¬ (155 ≤ iq ∧ iq ≤ 304)) : ∃ h', (SX W_ V h' ∧ ysm h_ h') ∧ (meX (meaX W_ V row9 k9) h' ∧ ∀ D_, 69 ≤ D_ → xrun D_ 16 0 [(0, .index 155), (1, .index 1), (2, .index q9_), (3, .int (Int32.ofNat k9))] [] h_ (none, h', [])) := by
  obtain ⟨h1, m1_, w0_, f1_, ld1⟩ := xgaA (v3 := Int32.ofNat k9) H_.1 R_.1.1
  have F1_ : frm h_ h1 := ⟨m1_, fun c_ j_ n_ => f1_ c_ j_ (by omega)⟩
  have H1_ := frm_S H_ F1_
  have R1 : rwx h1 q9_ iq 12 row9 := rwx_keep R_ m1_ (fun c_ j_ hc_ => f1_ c_ j_ (by omega))
  have M1_ : meX [] h1 := ⟨w0_, fun i_ y_ hy => by cases hy⟩
  obtain ⟨h2, ⟨F2, M2_⟩, r2⟩ := aiX (a_ := q9_) (ia := iq) (y_ := row9) (L_ := []) (by omega) (by decide) H1_.1 M1_ R1 (fun _ => by decide)
  have ld2 := ycv (d_ := 64) (mi := 16) (pc := 7) (cm := 18) (lo_ := [(0, .index 155), (1, .index 1), (2, .index q9_), (3, .int (Int32.ofNat k9))]) (st_ := [.index q9_, .index 155]) (as_ := [.index q9_]) (s' := []) rfl rfl (bcq_of (n_ := 155) (z_ := (3, 3)) H1_.1 rfl) rfl (xcc_l (List.forall_mem_cons.mpr ⟨xidx_i (bcq_lt (bcq_of (n_ := 155) (z_ := (3, 3)) H1_.1 rfl)), List.forall_mem_cons.mpr ⟨xidx_i (bcq_lt (bcq_of (n_ := 1) (z_ := (10, 15)) H1_.1 rfl)), List.forall_mem_cons.mpr ⟨xidx_i (bcq_lt R1.1.1), List.forall_mem_cons.mpr ⟨rfl, fun q_ hq => absurd hq List.not_mem_nil⟩⟩⟩⟩) (fun t_ ht => absurd ht List.not_mem_nil) (Nat.le_of_ble_eq_true rfl)) r2
  have H2_ := frm_S H1_ F2
  have Q2_ := F2.1.2 _ _ _ R1.1.1
  have M2' : meX [row9] h2 := M2_
  obtain ⟨h3, m3_, f3_, ld3⟩ := xgaB (v3 := Int32.ofNat k9) H2_.1 Q2_
  obtain ⟨h4, ⟨H4, m4_⟩, M4_, r4⟩ := ga_x K_ row9 q9_ (Int32.ofNat k9) k9 0 [row9] h3 _ (by omega) (by rw [Nat.zero_add]) (SX_fr H2_ m3_ (fun c_ j_ _ => f3_ c_ j_)) (m3_.2 _ _ _ Q2_) (meX_a M2' m3_ (fun c_ j_ _ => f3_ c_ j_) (show [row9].length ≤ 73 from Nat.le_of_ble_eq_true rfl)) (List.pairwise_cons.mpr ⟨fun a_ h_ => absurd h_ List.not_mem_nil, List.Pairwise.nil⟩) (fun y_ hy => hy) (Or.inl rfl)
  exact ⟨h4, ⟨H4, ysm_tr m1_ (ysm_tr F2.1 (ysm_tr m3_ m4_))⟩, M4_, fun D_ hD => ld1 D_ (by omega) _ (ld2 D_ (by omega) _ (ld3 D_ (by omega) _ (r4 D_ (by omega))))⟩
end
noncomputable def meantF (W_ : Nat → List Int32) (V : Nat → Int32) (z_ k_ : Int32) : (Nat → List Int32) × (Nat → Int32) × Int32 := if (0 ≤ z_.toInt ∧ z_.toInt < (V 0).toInt) ∧ (0 ≤ k_.toInt ∧ k_.toInt ≤ 2) then (W_, V, Int32.ofNat (meaX W_ V (W_ z_.toInt.toNat) k_.toInt.toNat).length) else (W_, V, Int32.ofInt (-1000001))
theorem ok_meant {W_ : Nat → List Int32} {V : Nat → Int32} (K_ : okS W_ V) (z_ k_ : Int32) : okS (meantF W_ V z_ k_).1 (meantF W_ V z_ k_).2.1 := by
  unfold meantF
  split <;> exact K_
theorem x_meant {W_ : Nat → List Int32} {V : Nat → Int32} {h_ : xH} {z_ k_ : Int32} (B_ : bInv bZ bIj h_) (K_ : okS W_ V) (H_ : SX W_ V h_) : ∃ h', ysm h_ h' ∧ (SX (meantF W_ V z_ k_).1 (meantF W_ V z_ k_).2.1 h' ∧ ∀ D_, 72 ≤ D_ → xrun D_ 94 0 [(0, .index 0), (1, .int z_), (2, .int k_)] [] h_ (some (.int (meantF W_ V z_ k_).2.2), h', [])) := by
  obtain ⟨y_, oy⟩ := xerr (k_ := 1) B_ (by omega)
  have zz := z0_
  have z2 : (2 : Int32).toInt = 2 := rfl
  unfold meantF
  obtain ⟨h0, m0_, e_⟩ := xmnE (v1_ := z_) (v2 := k_) H_.1 (xNc H_) oy
  rcases e_ with ⟨g1, g2, g3_, g4, f_, r_⟩ | ⟨g1, w0_, f_, r_⟩ | ⟨g1, g2, w0_, f_, r_⟩ | ⟨g1, g2, g3_, w0_, f_, r_⟩ | ⟨g1, g2, g3_, g4, w0_, f_, r_⟩
  rotate_left
  · rw [if_neg (fun q_ => by omega)]; exact ⟨h0, m0_, SX_e H_ m0_ f_, fun D_ hD => r_ D_ (by omega)⟩
  · rw [if_neg (fun q_ => by omega)]; exact ⟨h0, m0_, SX_e H_ m0_ f_, fun D_ hD => r_ D_ (by omega)⟩
  · rw [if_neg (fun q_ => by omega)]; exact ⟨h0, m0_, SX_e H_ m0_ f_, fun D_ hD => r_ D_ (by omega)⟩
  · rw [if_neg (fun q_ => by omega)]; exact ⟨h0, m0_, SX_e H_ m0_ f_, fun D_ hD => r_ D_ (by omega)⟩
  have H0 := SX_fr H_ m0_ (fun c_ j_ _ => f_ c_ j_)
  obtain ⟨c_, hc_, hN_, rfl, ec⟩ := isC_n (z_ := z_) K_ ⟨by omega, by omega⟩
  rw [if_pos ⟨⟨by omega, by omega⟩, by omega, by omega⟩, ec]
  obtain ⟨s1_, s2_, s3_⟩ := cl_s H0.1 hc_
  obtain ⟨h1, m1_, f1_, ld1⟩ := xmnG (v1_ := Int32.ofNat c_) (v2 := k_) H0.1 s2_ (by rw [ec]; exact s1_) ⟨by omega, by omega⟩
  have H1_ := SX_fr H0 m1_ (fun c_ j_ _ => f1_ c_ j_)
  have ek : k_ = Int32.ofNat k_.toInt.toNat := Int32.toInt_inj.mp (by rw [i32n (by omega)]; omega)
  obtain ⟨h2, ⟨H2_, m2_⟩, M2_, r2⟩ := gaX K_ (W_ c_) (34 + 2 * c_) (35 + 2 * c_) k_.toInt.toNat (by omega) (by omega) H1_ (SX_w H1_ (cl_x hc_)) (by omega)
  rw [← ek] at r2
  have ld2 := ycv (d_ := 69) (mi := 94) (pc := 41) (cm := 16) (lo_ := [(0, .index 0), (1, .int (Int32.ofNat c_)), (2, .int k_)]) (st_ := [.int k_, .index (34 + 2 * c_), .index 1, .index 155]) (as_ := [.index 1, .index (34 + 2 * c_), .int k_]) (s' := []) rfl rfl (bcq_of (n_ := 155) (z_ := (3, 3)) H1_.1 rfl) rfl (xcc_l (List.forall_mem_cons.mpr ⟨xidx_i (bcq_lt (bcq_of (n_ := 0) (z_ := (11, 15)) H1_.1 rfl)), List.forall_mem_cons.mpr ⟨rfl, List.forall_mem_cons.mpr ⟨rfl, fun q_ hq => absurd hq List.not_mem_nil⟩⟩⟩) (fun t_ ht => absurd ht List.not_mem_nil) (Nat.le_of_ble_eq_true rfl)) r2
  obtain ⟨h3, m3_, f3_, r3⟩ := xmnR (v1_ := Int32.ofNat c_) (v2 := k_) H2_.1 M2_.1
  exact ⟨h3, ysm_tr m0_ (ysm_tr m1_ (ysm_tr m2_ m3_)), SX_fr H2_ m3_ (fun c_ j_ _ => f3_ c_ j_), fun D_ hD => r_ D_ (by omega) _ (ld1 D_ (by omega) _ (ld2 D_ (by omega) _ (r3 D_ (by omega))))⟩
