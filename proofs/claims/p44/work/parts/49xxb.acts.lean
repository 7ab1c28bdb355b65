-- ===== part
-- xpaE: 57 steps, 1 ends, 2 returns
def xpaE_L : List (Nat × Nat × Nat) := []
def xpaE_O : yO := [(0, .int 0, .index 1), (1, .int 9, .arg 310), (0, .int 13, .index 323), (323, .int 1, .arg 400), (0, .int 8, .index 314)]
def xpaE_A : yA := (yZ xpaE_L, [], [], [], [])
def xpaE_C : List xB := []
def xpaE_ss : List yS := [(17, [(0, .index 0), (1, .arg 1), (2, .arg 2), (3, .arg 3)], [.index 314, .arg 2, .index 1], [(0, .int 0, .index 1), (1, .int 9, .arg 310), (0, .int 13, .index 323), (323, .int 1, .arg 400), (0, .int 8, .index 314)], [(.lt, .arg 1, .arg 310, true), (.lt, .arg 1, .int 0, false)], [])]
def xpaE_rs : List yR := [(some (.int (Int32.ofInt (-1000001))), [(323, .int 1, .add (.arg 400) (.int 1)), (0, .int 0, .index 1), (1, .int 9, .arg 310), (0, .int 13, .index 323), (0, .int 8, .index 314)], [(.lt, .arg 1, .int 0, true)], [(323, .int 1)]),
  (some (.int (Int32.ofInt (-1000001))), [(323, .int 1, .add (.arg 400) (.int 1)), (0, .int 0, .index 1), (1, .int 9, .arg 310), (0, .int 13, .index 323), (0, .int 8, .index 314)], [(.lt, .arg 1, .arg 310, false), (.lt, .arg 1, .int 0, false)], [(323, .int 1)])]
theorem xpaE_w : ywa xpaE_A xpaE_ss xpaE_rs = true := by decide +kernel
theorem xpaE_k : yis (yev xpaE_A 3000 60 97 [17] (0, [(0, .index 0), (1, .arg 1), (2, .arg 2), (3, .arg 3)], [], xpaE_O, xpaE_C, [])) xpaE_ss xpaE_rs = true := by decide +kernel
def xpaE_r (v1_ v2 v3 v310 v400 : Int32) (k_ : Nat) : Value := bif Nat.beq k_ 1 then .int v1_ else (bif Nat.beq k_ 2 then .int v2 else (bif Nat.beq k_ 3 then .int v3 else (bif Nat.beq k_ 310 then .int v310 else (bif Nat.beq k_ 400 then .int v400 else (.int 0)))))
def xpaE_s (n_ : Nat) : Nat := 0
theorem xpaE {h_ : xH} {v1_ v2 v3 v310 v400 : Int32} (hs : sHp h_) (o0_ : bpat h_ 1 9 = some (.int v310)) (o1 : bpat h_ 323 1 = some (.int v400)) : ∃ h', ysm h_ h' ∧ (((v1_.toInt < v310.toInt) ∧ ((0 : Int32).toInt ≤ v1_.toInt) ∧ (∀ a_ j_ : Nat, bpat h' a_ j_ = bpat h_ a_ j_) ∧ (bldD 60 97 0 [(0, .index 0), (1, .int v1_), (2, .int v2), (3, .int v3)] [] h_ 17 [(0, .index 0), (1, .int v1_), (2, .int v2), (3, .int v3)] [.index 314, .int v2, .index 1] h'))
  ∨ ((v1_.toInt < (0 : Int32).toInt) ∧ (bpat h' 323 1 = some (.int (v400 + (1 : Int32)))) ∧ (∀ a_ j_ : Nat, ¬ (a_ = 323 ∧ j_ = 1) → bpat h' a_ j_ = bpat h_ a_ j_) ∧ (∀ D_, 60 ≤ D_ → xrun D_ 97 0 [(0, .index 0), (1, .int v1_), (2, .int v2), (3, .int v3)] [] h_ (some (.int (Int32.ofInt (-1000001))), h', [])))
  ∨ ((v310.toInt ≤ v1_.toInt) ∧ ((0 : Int32).toInt ≤ v1_.toInt) ∧ (bpat h' 323 1 = some (.int (v400 + (1 : Int32)))) ∧ (∀ a_ j_ : Nat, ¬ (a_ = 323 ∧ j_ = 1) → bpat h' a_ j_ = bpat h_ a_ j_) ∧ (∀ D_, 60 ≤ D_ → xrun D_ 97 0 [(0, .index 0), (1, .int v1_), (2, .int v2), (3, .int v3)] [] h_ (some (.int (Int32.ofInt (-1000001))), h', [])))) := by
  have hA : yas xpaE_A (xpaE_r v1_ v2 v3 v310 v400) (yg xpaE_s) := ⟨fun q_ hq => absurd hq List.not_mem_nil, fun q_ hq => absurd hq List.not_mem_nil, fun q_ hq => absurd hq List.not_mem_nil, fun n_ hn => yg_lo hn, fun q_ hq => absurd hq List.not_mem_nil⟩
  have Hs : ysh xpaE_A.1 (yg xpaE_s) h_ := ysh_of2 hs (fun q_ hq => absurd hq List.not_mem_nil)
  have Ho : ymem (xpaE_r v1_ v2 v3 v310 v400) (yg xpaE_s) xpaE_O h_ := List.forall_mem_cons.mpr ⟨bpat_some (fxr_at hs.2 (show fxk fxl 0 0 = some 1 by decide +kernel)), List.forall_mem_cons.mpr ⟨bpat_some o0_, List.forall_mem_cons.mpr ⟨bpat_some (fxr_at hs.2 (show fxk fxl 0 13 = some 323 by decide +kernel)), List.forall_mem_cons.mpr ⟨bpat_some o1, List.forall_mem_cons.mpr ⟨bpat_some (fxr_at hs.2 (show fxk fxl 0 8 = some 314 by decide +kernel)), fun q_ hq => absurd hq List.not_mem_nil⟩⟩⟩⟩⟩
  have HC : ∀ q_ ∈ xpaE_C, xhold (xpaE_r v1_ v2 v3 v310 v400) q_ := fun q_ hq => absurd hq List.not_mem_nil
  rcases yrun (yis_ok xpaE_k) hA Hs Ho HC with ⟨q_, hq, h', K_, G_⟩ | ⟨q_, hq, h', K_, G_⟩
  · have e_ := List.mem_singleton.mp hq
    subst e_
    exact ⟨h', yfr_sm K_.2.2.2 hs K_.1 (ywa_s xpaE_w List.mem_cons_self), Or.inl (⟨xq_ltT rfl rfl (K_.2.2.1 _ List.mem_cons_self), xq_ltF rfl rfl (K_.2.2.1 _ (List.mem_cons_of_mem _ List.mem_cons_self)), fun a_ j_ => yfr_bp K_.2.2.2 (fun q_ hq => absurd hq List.not_mem_nil), G_⟩)⟩
  · rcases List.mem_cons.mp hq with e_ | hq
    · subst e_
      exact ⟨h', yfr_sm K_.2.2.2 hs K_.1 (ywa_r xpaE_w List.mem_cons_self), Or.inr (Or.inl (⟨xq_ltT rfl rfl (K_.2.2.1 _ List.mem_cons_self), bpat_of (K_.2.1 _ List.mem_cons_self), fun a_ j_ n0_ => yfr_bp K_.2.2.2 (List.forall_mem_cons.mpr ⟨fun e_ => n0_ ⟨e_.1.symm, e_.2.symm⟩, fun q_ hq => absurd hq List.not_mem_nil⟩), G_⟩))⟩
    have e_ := List.mem_singleton.mp hq
    subst e_
    exact ⟨h', yfr_sm K_.2.2.2 hs K_.1 (ywa_r xpaE_w (List.mem_cons_of_mem _ List.mem_cons_self)), Or.inr (Or.inr (⟨xq_ltF rfl rfl (K_.2.2.1 _ List.mem_cons_self), xq_ltF rfl rfl (K_.2.2.1 _ (List.mem_cons_of_mem _ List.mem_cons_self)), bpat_of (K_.2.1 _ List.mem_cons_self), fun a_ j_ n0_ => yfr_bp K_.2.2.2 (List.forall_mem_cons.mpr ⟨fun e_ => n0_ ⟨e_.1.symm, e_.2.symm⟩, fun q_ hq => absurd hq List.not_mem_nil⟩), G_⟩))⟩
-- xpaF: 17 steps, 0 ends, 1 returns
def xpaF_L : List (Nat × Nat × Nat) := []
def xpaF_O : yO := [(0, .int 13, .index 323), (323, .int 1, .arg 400)]
def xpaF_A : yA := (yZ xpaF_L, [], [], [], [])
def xpaF_C : List xB := []
def xpaF_ss : List yS := []
def xpaF_rs : List yR := [(some (.int (Int32.ofInt (-1000001))), [(323, .int 1, .add (.arg 400) (.int 1)), (0, .int 13, .index 323)], [], [(323, .int 1)])]
theorem xpaF_w : ywa xpaF_A xpaF_ss xpaF_rs = true := by decide +kernel
theorem xpaF_k : yis (yev xpaF_A 3000 60 97 [] (20, [(0, .index 0), (1, .arg 1), (2, .arg 2), (3, .arg 3)], [.int 0], xpaF_O, xpaF_C, [])) xpaF_ss xpaF_rs = true := by decide +kernel
def xpaF_r (v1_ v2 v3 v400 : Int32) (k_ : Nat) : Value := bif Nat.beq k_ 1 then .int v1_ else (bif Nat.beq k_ 2 then .int v2 else (bif Nat.beq k_ 3 then .int v3 else (bif Nat.beq k_ 400 then .int v400 else (.int 0))))
def xpaF_s (n_ : Nat) : Nat := 0
theorem xpaF {h_ : xH} {v1_ v2 v3 v400 : Int32} (hs : sHp h_) (o0_ : bpat h_ 323 1 = some (.int v400)) : ∃ h', ysm h_ h' ∧ (((bpat h' 323 1 = some (.int (v400 + (1 : Int32)))) ∧ (∀ a_ j_ : Nat, ¬ (a_ = 323 ∧ j_ = 1) → bpat h' a_ j_ = bpat h_ a_ j_) ∧ (∀ D_, 60 ≤ D_ → xrun D_ 97 20 [(0, .index 0), (1, .int v1_), (2, .int v2), (3, .int v3)] [.int (0 : Int32)] h_ (some (.int (Int32.ofInt (-1000001))), h', [])))) := by
  have hA : yas xpaF_A (xpaF_r v1_ v2 v3 v400) (yg xpaF_s) := ⟨fun q_ hq => absurd hq List.not_mem_nil, fun q_ hq => absurd hq List.not_mem_nil, fun q_ hq => absurd hq List.not_mem_nil, fun n_ hn => yg_lo hn, fun q_ hq => absurd hq List.not_mem_nil⟩
  have Hs : ysh xpaF_A.1 (yg xpaF_s) h_ := ysh_of2 hs (fun q_ hq => absurd hq List.not_mem_nil)
  have Ho : ymem (xpaF_r v1_ v2 v3 v400) (yg xpaF_s) xpaF_O h_ := List.forall_mem_cons.mpr ⟨bpat_some (fxr_at hs.2 (show fxk fxl 0 13 = some 323 by decide +kernel)), List.forall_mem_cons.mpr ⟨bpat_some o0_, fun q_ hq => absurd hq List.not_mem_nil⟩⟩
  have HC : ∀ q_ ∈ xpaF_C, xhold (xpaF_r v1_ v2 v3 v400) q_ := fun q_ hq => absurd hq List.not_mem_nil
  rcases yrun (yis_ok xpaF_k) hA Hs Ho HC with ⟨q_, hq, h', K_, G_⟩ | ⟨q_, hq, h', K_, G_⟩
  · cases hq
  · have e_ := List.mem_singleton.mp hq
    subst e_
    exact ⟨h', yfr_sm K_.2.2.2 hs K_.1 (ywa_r xpaF_w List.mem_cons_self), ⟨bpat_of (K_.2.1 _ List.mem_cons_self), fun a_ j_ n0_ => yfr_bp K_.2.2.2 (List.forall_mem_cons.mpr ⟨fun e_ => n0_ ⟨e_.1.symm, e_.2.symm⟩, fun q_ hq => absurd hq List.not_mem_nil⟩), G_⟩⟩
-- xpaG: 6 steps, 1 ends, 0 returns
def xpaG_L : List (Nat × Nat × Nat) := []
def xpaG_O : yO := [(0, .int 0, .index 1), (0, .int 9, .index 316)]
def xpaG_A : yA := (yZ xpaG_L, [], [], [], [])
def xpaG_C : List xB := []
def xpaG_ss : List yS := [(32, [(0, .index 0), (1, .arg 1), (2, .arg 2), (3, .arg 3)], [.index 316, .arg 3, .index 1], [(0, .int 0, .index 1), (0, .int 9, .index 316)], [], [])]
def xpaG_rs : List yR := []
theorem xpaG_w : ywa xpaG_A xpaG_ss xpaG_rs = true := by decide +kernel
theorem xpaG_k : yis (yev xpaG_A 3000 60 97 [32] (20, [(0, .index 0), (1, .arg 1), (2, .arg 2), (3, .arg 3)], [.int 1], xpaG_O, xpaG_C, [])) xpaG_ss xpaG_rs = true := by decide +kernel
def xpaG_r (v1_ v2 v3 : Int32) (k_ : Nat) : Value := bif Nat.beq k_ 1 then .int v1_ else (bif Nat.beq k_ 2 then .int v2 else (bif Nat.beq k_ 3 then .int v3 else (.int 0)))
def xpaG_s (n_ : Nat) : Nat := 0
theorem xpaG {h_ : xH} {v1_ v2 v3 : Int32} (hs : sHp h_) : ∃ h', ysm h_ h' ∧ (((∀ a_ j_ : Nat, bpat h' a_ j_ = bpat h_ a_ j_) ∧ (bldD 60 97 20 [(0, .index 0), (1, .int v1_), (2, .int v2), (3, .int v3)] [.int (1 : Int32)] h_ 32 [(0, .index 0), (1, .int v1_), (2, .int v2), (3, .int v3)] [.index 316, .int v3, .index 1] h'))) := by
  have hA : yas xpaG_A (xpaG_r v1_ v2 v3) (yg xpaG_s) := ⟨fun q_ hq => absurd hq List.not_mem_nil, fun q_ hq => absurd hq List.not_mem_nil, fun q_ hq => absurd hq List.not_mem_nil, fun n_ hn => yg_lo hn, fun q_ hq => absurd hq List.not_mem_nil⟩
  have Hs : ysh xpaG_A.1 (yg xpaG_s) h_ := ysh_of2 hs (fun q_ hq => absurd hq List.not_mem_nil)
  have Ho : ymem (xpaG_r v1_ v2 v3) (yg xpaG_s) xpaG_O h_ := List.forall_mem_cons.mpr ⟨bpat_some (fxr_at hs.2 (show fxk fxl 0 0 = some 1 by decide +kernel)), List.forall_mem_cons.mpr ⟨bpat_some (fxr_at hs.2 (show fxk fxl 0 9 = some 316 by decide +kernel)), fun q_ hq => absurd hq List.not_mem_nil⟩⟩
  have HC : ∀ q_ ∈ xpaG_C, xhold (xpaG_r v1_ v2 v3) q_ := fun q_ hq => absurd hq List.not_mem_nil
  rcases yrun (yis_ok xpaG_k) hA Hs Ho HC with ⟨q_, hq, h', K_, G_⟩ | ⟨q_, hq, h', K_, G_⟩
  · have e_ := List.mem_singleton.mp hq
    subst e_
    exact ⟨h', yfr_sm K_.2.2.2 hs K_.1 (ywa_s xpaG_w List.mem_cons_self), ⟨fun a_ j_ => yfr_bp K_.2.2.2 (fun q_ hq => absurd hq List.not_mem_nil), G_⟩⟩
  · cases hq
-- xpaH: 17 steps, 0 ends, 1 returns
def xpaH_L : List (Nat × Nat × Nat) := []
def xpaH_O : yO := [(0, .int 13, .index 323), (323, .int 1, .arg 400)]
def xpaH_A : yA := (yZ xpaH_L, [], [], [], [])
def xpaH_C : List xB := []
def xpaH_ss : List yS := []
def xpaH_rs : List yR := [(some (.int (Int32.ofInt (-1000001))), [(323, .int 1, .add (.arg 400) (.int 1)), (0, .int 13, .index 323)], [], [(323, .int 1)])]
theorem xpaH_w : ywa xpaH_A xpaH_ss xpaH_rs = true := by decide +kernel
theorem xpaH_k : yis (yev xpaH_A 3000 60 97 [] (35, [(0, .index 0), (1, .arg 1), (2, .arg 2), (3, .arg 3)], [.int 0], xpaH_O, xpaH_C, [])) xpaH_ss xpaH_rs = true := by decide +kernel
def xpaH_r (v1_ v2 v3 v400 : Int32) (k_ : Nat) : Value := bif Nat.beq k_ 1 then .int v1_ else (bif Nat.beq k_ 2 then .int v2 else (bif Nat.beq k_ 3 then .int v3 else (bif Nat.beq k_ 400 then .int v400 else (.int 0))))
def xpaH_s (n_ : Nat) : Nat := 0
theorem xpaH {h_ : xH} {v1_ v2 v3 v400 : Int32} (hs : sHp h_) (o0_ : bpat h_ 323 1 = some (.int v400)) : ∃ h', ysm h_ h' ∧ (((bpat h' 323 1 = some (.int (v400 + (1 : Int32)))) ∧ (∀ a_ j_ : Nat, ¬ (a_ = 323 ∧ j_ = 1) → bpat h' a_ j_ = bpat h_ a_ j_) ∧ (∀ D_, 60 ≤ D_ → xrun D_ 97 35 [(0, .index 0), (1, .int v1_), (2, .int v2), (3, .int v3)] [.int (0 : Int32)] h_ (some (.int (Int32.ofInt (-1000001))), h', [])))) := by
  have hA : yas xpaH_A (xpaH_r v1_ v2 v3 v400) (yg xpaH_s) := ⟨fun q_ hq => absurd hq List.not_mem_nil, fun q_ hq => absurd hq List.not_mem_nil, fun q_ hq => absurd hq List.not_mem_nil, fun n_ hn => yg_lo hn, fun q_ hq => absurd hq List.not_mem_nil⟩
  have Hs : ysh xpaH_A.1 (yg xpaH_s) h_ := ysh_of2 hs (fun q_ hq => absurd hq List.not_mem_nil)
  have Ho : ymem (xpaH_r v1_ v2 v3 v400) (yg xpaH_s) xpaH_O h_ := List.forall_mem_cons.mpr ⟨bpat_some (fxr_at hs.2 (show fxk fxl 0 13 = some 323 by decide +kernel)), List.forall_mem_cons.mpr ⟨bpat_some o0_, fun q_ hq => absurd hq List.not_mem_nil⟩⟩
  have HC : ∀ q_ ∈ xpaH_C, xhold (xpaH_r v1_ v2 v3 v400) q_ := fun q_ hq => absurd hq List.not_mem_nil
  rcases yrun (yis_ok xpaH_k) hA Hs Ho HC with ⟨q_, hq, h', K_, G_⟩ | ⟨q_, hq, h', K_, G_⟩
  · cases hq
  · have e_ := List.mem_singleton.mp hq
    subst e_
    exact ⟨h', yfr_sm K_.2.2.2 hs K_.1 (ywa_r xpaH_w List.mem_cons_self), ⟨bpat_of (K_.2.1 _ List.mem_cons_self), fun a_ j_ n0_ => yfr_bp K_.2.2.2 (List.forall_mem_cons.mpr ⟨fun e_ => n0_ ⟨e_.1.symm, e_.2.symm⟩, fun q_ hq => absurd hq List.not_mem_nil⟩), G_⟩⟩
-- xpaI: 12 steps, 1 ends, 0 returns
def xpaI_L : List (Nat × Nat × Nat) := [(1000, 6, 2)]
def xpaI_O : yO := [(0, .int 0, .index 1), (1, .int 0, .index 2), (2, .arg 1, .index 1000), (0, .int 8, .index 314), (0, .int 10, .index 318)]
def xpaI_A : yA := (yZ xpaI_L, [(.arg 1, 12)], [], [], [])
def xpaI_C : List xB := []
def xpaI_ss : List yS := [(65, [(0, .index 0), (1, .arg 1), (2, .arg 2), (3, .arg 3)], [.index 318, .index 314, .index 1000, .index 1], [(0, .int 0, .index 1), (1, .int 0, .index 2), (2, .arg 1, .index 1000), (0, .int 8, .index 314), (0, .int 10, .index 318)], [], [])]
def xpaI_rs : List yR := []
theorem xpaI_w : ywa xpaI_A xpaI_ss xpaI_rs = true := by decide +kernel
theorem xpaI_k : yis (yev xpaI_A 3000 60 97 [65] (35, [(0, .index 0), (1, .arg 1), (2, .arg 2), (3, .arg 3)], [.int 1], xpaI_O, xpaI_C, [])) xpaI_ss xpaI_rs = true := by decide +kernel
def xpaI_r (v1_ v2 v3 : Int32) (k_ : Nat) : Value := bif Nat.beq k_ 1 then .int v1_ else (bif Nat.beq k_ 2 then .int v2 else (bif Nat.beq k_ 3 then .int v3 else (.int 0)))
def xpaI_s (a1000 : Nat) (n_ : Nat) : Nat := bif Nat.beq n_ 1000 then a1000 else (0)
theorem xpaI {h_ : xH} {a1000 : Nat} {v1_ v2 v3 : Int32} (hs : sHp h_) (k1000 : bcq h_ a1000 6 2) (o0_ : bpat h_ 2 (v1_).toInt.toNat = some (.index a1000)) (b0 : 0 ≤ (v1_).toInt ∧ (v1_).toInt < 12) : ∃ h', ysm h_ h' ∧ (((∀ a_ j_ : Nat, bpat h' a_ j_ = bpat h_ a_ j_) ∧ (bldD 60 97 35 [(0, .index 0), (1, .int v1_), (2, .int v2), (3, .int v3)] [.int (1 : Int32)] h_ 65 [(0, .index 0), (1, .int v1_), (2, .int v2), (3, .int v3)] [.index 318, .index 314, .index a1000, .index 1] h'))) := by
  have hA : yas xpaI_A (xpaI_r v1_ v2 v3) (yg (xpaI_s a1000)) := ⟨List.forall_mem_cons.mpr ⟨b0, fun q_ hq => absurd hq List.not_mem_nil⟩, fun q_ hq => absurd hq List.not_mem_nil, fun q_ hq => absurd hq List.not_mem_nil, fun n_ hn => yg_lo hn, fun q_ hq => absurd hq List.not_mem_nil⟩
  have Hs : ysh xpaI_A.1 (yg (xpaI_s a1000)) h_ := ysh_of2 hs (List.forall_mem_cons.mpr ⟨⟨by decide, k1000⟩, fun q_ hq => absurd hq List.not_mem_nil⟩)
  have Ho : ymem (xpaI_r v1_ v2 v3) (yg (xpaI_s a1000)) xpaI_O h_ := List.forall_mem_cons.mpr ⟨bpat_some (fxr_at hs.2 (show fxk fxl 0 0 = some 1 by decide +kernel)), List.forall_mem_cons.mpr ⟨bpat_some (fxr_at hs.2 (show fxk fxl 1 0 = some 2 by decide +kernel)), List.forall_mem_cons.mpr ⟨bpat_some o0_, List.forall_mem_cons.mpr ⟨bpat_some (fxr_at hs.2 (show fxk fxl 0 8 = some 314 by decide +kernel)), List.forall_mem_cons.mpr ⟨bpat_some (fxr_at hs.2 (show fxk fxl 0 10 = some 318 by decide +kernel)), fun q_ hq => absurd hq List.not_mem_nil⟩⟩⟩⟩⟩
  have HC : ∀ q_ ∈ xpaI_C, xhold (xpaI_r v1_ v2 v3) q_ := fun q_ hq => absurd hq List.not_mem_nil
  rcases yrun (yis_ok xpaI_k) hA Hs Ho HC with ⟨q_, hq, h', K_, G_⟩ | ⟨q_, hq, h', K_, G_⟩
  · have e_ := List.mem_singleton.mp hq
    subst e_
    exact ⟨h', yfr_sm K_.2.2.2 hs K_.1 (ywa_s xpaI_w List.mem_cons_self), ⟨fun a_ j_ => yfr_bp K_.2.2.2 (fun q_ hq => absurd hq List.not_mem_nil), G_⟩⟩
  · cases hq
-- xpaJ: 11 steps, 1 ends, 0 returns
def xpaJ_L : List (Nat × Nat × Nat) := [(1000, 6, 2)]
def xpaJ_O : yO := [(0, .int 0, .index 1), (1, .int 0, .index 2), (2, .arg 1, .index 1000), (0, .int 9, .index 316), (0, .int 11, .index 320)]
def xpaJ_A : yA := (yZ xpaJ_L, [(.arg 1, 12)], [], [], [])
def xpaJ_C : List xB := []
def xpaJ_ss : List yS := [(89, [(0, .index 0), (1, .arg 1), (2, .arg 2), (3, .arg 3)], [.index 320, .index 316, .index 1000, .index 1], [(0, .int 0, .index 1), (1, .int 0, .index 2), (2, .arg 1, .index 1000), (0, .int 9, .index 316), (0, .int 11, .index 320)], [], [])]
def xpaJ_rs : List yR := []
theorem xpaJ_w : ywa xpaJ_A xpaJ_ss xpaJ_rs = true := by decide +kernel
theorem xpaJ_k : yis (yev xpaJ_A 3000 60 97 [89] (68, [(0, .index 0), (1, .arg 1), (2, .arg 2), (3, .arg 3)], [], xpaJ_O, xpaJ_C, [])) xpaJ_ss xpaJ_rs = true := by decide +kernel
def xpaJ_r (v1_ v2 v3 : Int32) (k_ : Nat) : Value := bif Nat.beq k_ 1 then .int v1_ else (bif Nat.beq k_ 2 then .int v2 else (bif Nat.beq k_ 3 then .int v3 else (.int 0)))
def xpaJ_s (a1000 : Nat) (n_ : Nat) : Nat := bif Nat.beq n_ 1000 then a1000 else (0)
theorem xpaJ {h_ : xH} {a1000 : Nat} {v1_ v2 v3 : Int32} (hs : sHp h_) (k1000 : bcq h_ a1000 6 2) (o0_ : bpat h_ 2 (v1_).toInt.toNat = some (.index a1000)) (b0 : 0 ≤ (v1_).toInt ∧ (v1_).toInt < 12) : ∃ h', ysm h_ h' ∧ (((∀ a_ j_ : Nat, bpat h' a_ j_ = bpat h_ a_ j_) ∧ (bldD 60 97 68 [(0, .index 0), (1, .int v1_), (2, .int v2), (3, .int v3)] [] h_ 89 [(0, .index 0), (1, .int v1_), (2, .int v2), (3, .int v3)] [.index 320, .index 316, .index a1000, .index 1] h'))) := by
  have hA : yas xpaJ_A (xpaJ_r v1_ v2 v3) (yg (xpaJ_s a1000)) := ⟨List.forall_mem_cons.mpr ⟨b0, fun q_ hq => absurd hq List.not_mem_nil⟩, fun q_ hq => absurd hq List.not_mem_nil, fun q_ hq => absurd hq List.not_mem_nil, fun n_ hn => yg_lo hn, fun q_ hq => absurd hq List.not_mem_nil⟩
  have Hs : ysh xpaJ_A.1 (yg (xpaJ_s a1000)) h_ := ysh_of2 hs (List.forall_mem_cons.mpr ⟨⟨by decide, k1000⟩, fun q_ hq => absurd hq List.not_mem_nil⟩)
  have Ho : ymem (xpaJ_r v1_ v2 v3) (yg (xpaJ_s a1000)) xpaJ_O h_ := List.forall_mem_cons.mpr ⟨bpat_some (fxr_at hs.2 (show fxk fxl 0 0 = some 1 by decide +kernel)), List.forall_mem_cons.mpr ⟨bpat_some (fxr_at hs.2 (show fxk fxl 1 0 = some 2 by decide +kernel)), List.forall_mem_cons.mpr ⟨bpat_some o0_, List.forall_mem_cons.mpr ⟨bpat_some (fxr_at hs.2 (show fxk fxl 0 9 = some 316 by decide +kernel)), List.forall_mem_cons.mpr ⟨bpat_some (fxr_at hs.2 (show fxk fxl 0 11 = some 320 by decide +kernel)), fun q_ hq => absurd hq List.not_mem_nil⟩⟩⟩⟩⟩
  have HC : ∀ q_ ∈ xpaJ_C, xhold (xpaJ_r v1_ v2 v3) q_ := fun q_ hq => absurd hq List.not_mem_nil
  rcases yrun (yis_ok xpaJ_k) hA Hs Ho HC with ⟨q_, hq, h', K_, G_⟩ | ⟨q_, hq, h', K_, G_⟩
  · have e_ := List.mem_singleton.mp hq
    subst e_
    exact ⟨h', yfr_sm K_.2.2.2 hs K_.1 (ywa_s xpaJ_w List.mem_cons_self), ⟨fun a_ j_ => yfr_bp K_.2.2.2 (fun q_ hq => absurd hq List.not_mem_nil), G_⟩⟩
  · cases hq
-- xpaK: 4 steps, 1 ends, 0 returns
def xpaK_L : List (Nat × Nat × Nat) := []
def xpaK_O : yO := [(0, .int 10, .index 318), (0, .int 11, .index 320)]
def xpaK_A : yA := (yZ xpaK_L, [], [], [], [])
def xpaK_C : List xB := []
def xpaK_ss : List yS := [(100, [(0, .index 0), (1, .arg 1), (2, .arg 2), (3, .arg 3)], [.index 320, .index 318], [(0, .int 10, .index 318), (0, .int 11, .index 320)], [], [])]
def xpaK_rs : List yR := []
theorem xpaK_w : ywa xpaK_A xpaK_ss xpaK_rs = true := by decide +kernel
theorem xpaK_k : yis (yev xpaK_A 3000 60 97 [100] (92, [(0, .index 0), (1, .arg 1), (2, .arg 2), (3, .arg 3)], [], xpaK_O, xpaK_C, [])) xpaK_ss xpaK_rs = true := by decide +kernel
def xpaK_r (v1_ v2 v3 : Int32) (k_ : Nat) : Value := bif Nat.beq k_ 1 then .int v1_ else (bif Nat.beq k_ 2 then .int v2 else (bif Nat.beq k_ 3 then .int v3 else (.int 0)))
def xpaK_s (n_ : Nat) : Nat := 0
theorem xpaK {h_ : xH} {v1_ v2 v3 : Int32} (hs : sHp h_) : ∃ h', ysm h_ h' ∧ (((∀ a_ j_ : Nat, bpat h' a_ j_ = bpat h_ a_ j_) ∧ (bldD 60 97 92 [(0, .index 0), (1, .int v1_), (2, .int v2), (3, .int v3)] [] h_ 100 [(0, .index 0), (1, .int v1_), (2, .int v2), (3, .int v3)] [.index 320, .index 318] h'))) := by
  have hA : yas xpaK_A (xpaK_r v1_ v2 v3) (yg xpaK_s) := ⟨fun q_ hq => absurd hq List.not_mem_nil, fun q_ hq => absurd hq List.not_mem_nil, fun q_ hq => absurd hq List.not_mem_nil, fun n_ hn => yg_lo hn, fun q_ hq => absurd hq List.not_mem_nil⟩
  have Hs : ysh xpaK_A.1 (yg xpaK_s) h_ := ysh_of2 hs (fun q_ hq => absurd hq List.not_mem_nil)
  have Ho : ymem (xpaK_r v1_ v2 v3) (yg xpaK_s) xpaK_O h_ := List.forall_mem_cons.mpr ⟨bpat_some (fxr_at hs.2 (show fxk fxl 0 10 = some 318 by decide +kernel)), List.forall_mem_cons.mpr ⟨bpat_some (fxr_at hs.2 (show fxk fxl 0 11 = some 320 by decide +kernel)), fun q_ hq => absurd hq List.not_mem_nil⟩⟩
  have HC : ∀ q_ ∈ xpaK_C, xhold (xpaK_r v1_ v2 v3) q_ := fun q_ hq => absurd hq List.not_mem_nil
  rcases yrun (yis_ok xpaK_k) hA Hs Ho HC with ⟨q_, hq, h', K_, G_⟩ | ⟨q_, hq, h', K_, G_⟩
  · have e_ := List.mem_singleton.mp hq
    subst e_
    exact ⟨h', yfr_sm K_.2.2.2 hs K_.1 (ywa_s xpaK_w List.mem_cons_self), ⟨fun a_ j_ => yfr_bp K_.2.2.2 (fun q_ hq => absurd hq List.not_mem_nil), G_⟩⟩
  · cases hq
-- xpaN: 20 steps, 0 ends, 1 returns
def xpaN_L : List (Nat × Nat × Nat) := []
def xpaN_O : yO := [(0, .int 13, .index 323), (323, .int 2, .arg 400)]
def xpaN_A : yA := (yZ xpaN_L, [], [], [], [])
def xpaN_C : List xB := [(.lt, .arg 5, .int 0, true)]
def xpaN_ss : List yS := []
def xpaN_rs : List yR := [(some (.int (Int32.ofInt (-1000002))), [(323, .int 2, .add (.arg 400) (.int 1)), (0, .int 13, .index 323)], [(.lt, .arg 5, .int 0, true)], [(323, .int 2)])]
theorem xpaN_w : ywa xpaN_A xpaN_ss xpaN_rs = true := by decide +kernel
theorem xpaN_k : yis (yev xpaN_A 3000 60 97 [] (103, [(0, .index 0), (1, .arg 1), (2, .arg 2), (3, .arg 3)], [.arg 5], xpaN_O, xpaN_C, [])) xpaN_ss xpaN_rs = true := by decide +kernel
def xpaN_r (v1_ v2 v3 v5 v400 : Int32) (k_ : Nat) : Value := bif Nat.beq k_ 1 then .int v1_ else (bif Nat.beq k_ 2 then .int v2 else (bif Nat.beq k_ 3 then .int v3 else (bif Nat.beq k_ 5 then .int v5 else (bif Nat.beq k_ 400 then .int v400 else (.int 0)))))
def xpaN_s (n_ : Nat) : Nat := 0
theorem xpaN {h_ : xH} {v1_ v2 v3 v5 v400 : Int32} (hs : sHp h_) (o0_ : bpat h_ 323 2 = some (.int v400)) (c0_ : v5.toInt < (0 : Int32).toInt) : ∃ h', ysm h_ h' ∧ (((bpat h' 323 2 = some (.int (v400 + (1 : Int32)))) ∧ (∀ a_ j_ : Nat, ¬ (a_ = 323 ∧ j_ = 2) → bpat h' a_ j_ = bpat h_ a_ j_) ∧ (∀ D_, 60 ≤ D_ → xrun D_ 97 103 [(0, .index 0), (1, .int v1_), (2, .int v2), (3, .int v3)] [.int v5] h_ (some (.int (Int32.ofInt (-1000002))), h', [])))) := by
  have hA : yas xpaN_A (xpaN_r v1_ v2 v3 v5 v400) (yg xpaN_s) := ⟨fun q_ hq => absurd hq List.not_mem_nil, fun q_ hq => absurd hq List.not_mem_nil, fun q_ hq => absurd hq List.not_mem_nil, fun n_ hn => yg_lo hn, fun q_ hq => absurd hq List.not_mem_nil⟩
  have Hs : ysh xpaN_A.1 (yg xpaN_s) h_ := ysh_of2 hs (fun q_ hq => absurd hq List.not_mem_nil)
  have Ho : ymem (xpaN_r v1_ v2 v3 v5 v400) (yg xpaN_s) xpaN_O h_ := List.forall_mem_cons.mpr ⟨bpat_some (fxr_at hs.2 (show fxk fxl 0 13 = some 323 by decide +kernel)), List.forall_mem_cons.mpr ⟨bpat_some o0_, fun q_ hq => absurd hq List.not_mem_nil⟩⟩
  have HC : ∀ q_ ∈ xpaN_C, xhold (xpaN_r v1_ v2 v3 v5 v400) q_ := List.forall_mem_cons.mpr ⟨xh_ltT c0_, fun q_ hq => absurd hq List.not_mem_nil⟩
  rcases yrun (yis_ok xpaN_k) hA Hs Ho HC with ⟨q_, hq, h', K_, G_⟩ | ⟨q_, hq, h', K_, G_⟩
  · cases hq
  · have e_ := List.mem_singleton.mp hq
    subst e_
    exact ⟨h', yfr_sm K_.2.2.2 hs K_.1 (ywa_r xpaN_w List.mem_cons_self), ⟨bpat_of (K_.2.1 _ List.mem_cons_self), fun a_ j_ n0_ => yfr_bp K_.2.2.2 (List.forall_mem_cons.mpr ⟨fun e_ => n0_ ⟨e_.1.symm, e_.2.symm⟩, fun q_ hq => absurd hq List.not_mem_nil⟩), G_⟩⟩
-- xpaP: 5 steps, 0 ends, 1 returns
def xpaP_L : List (Nat × Nat × Nat) := []
def xpaP_O : yO := []
def xpaP_A : yA := (yZ xpaP_L, [], [], [], [])
def xpaP_C : List xB := [(.lt, .arg 5, .int 0, false)]
def xpaP_ss : List yS := []
def xpaP_rs : List yR := [(some (.arg 5), [], [(.lt, .arg 5, .int 0, false)], [])]
theorem xpaP_w : ywa xpaP_A xpaP_ss xpaP_rs = true := by decide +kernel
theorem xpaP_k : yis (yev xpaP_A 3000 60 97 [] (103, [(0, .index 0), (1, .arg 1), (2, .arg 2), (3, .arg 3)], [.arg 5], xpaP_O, xpaP_C, [])) xpaP_ss xpaP_rs = true := by decide +kernel
def xpaP_r (v1_ v2 v3 v5 : Int32) (k_ : Nat) : Value := bif Nat.beq k_ 1 then .int v1_ else (bif Nat.beq k_ 2 then .int v2 else (bif Nat.beq k_ 3 then .int v3 else (bif Nat.beq k_ 5 then .int v5 else (.int 0))))
def xpaP_s (n_ : Nat) : Nat := 0
theorem xpaP {h_ : xH} {v1_ v2 v3 v5 : Int32} (hs : sHp h_) (c0_ : (0 : Int32).toInt ≤ v5.toInt) : ∃ h', ysm h_ h' ∧ (((∀ a_ j_ : Nat, bpat h' a_ j_ = bpat h_ a_ j_) ∧ (∀ D_, 60 ≤ D_ → xrun D_ 97 103 [(0, .index 0), (1, .int v1_), (2, .int v2), (3, .int v3)] [.int v5] h_ (some (.int v5), h', [])))) := by
  have hA : yas xpaP_A (xpaP_r v1_ v2 v3 v5) (yg xpaP_s) := ⟨fun q_ hq => absurd hq List.not_mem_nil, fun q_ hq => absurd hq List.not_mem_nil, fun q_ hq => absurd hq List.not_mem_nil, fun n_ hn => yg_lo hn, fun q_ hq => absurd hq List.not_mem_nil⟩
  have Hs : ysh xpaP_A.1 (yg xpaP_s) h_ := ysh_of2 hs (fun q_ hq => absurd hq List.not_mem_nil)
  have Ho : ymem (xpaP_r v1_ v2 v3 v5) (yg xpaP_s) xpaP_O h_ := fun q_ hq => absurd hq List.not_mem_nil
  have HC : ∀ q_ ∈ xpaP_C, xhold (xpaP_r v1_ v2 v3 v5) q_ := List.forall_mem_cons.mpr ⟨xh_ltF c0_, fun q_ hq => absurd hq List.not_mem_nil⟩
  rcases yrun (yis_ok xpaP_k) hA Hs Ho HC with ⟨q_, hq, h', K_, G_⟩ | ⟨q_, hq, h', K_, G_⟩
  · cases hq
  · have e_ := List.mem_singleton.mp hq
    subst e_
    exact ⟨h', yfr_sm K_.2.2.2 hs K_.1 (ywa_r xpaP_w List.mem_cons_self), ⟨fun a_ j_ => yfr_bp K_.2.2.2 (fun q_ hq => absurd hq List.not_mem_nil), G_⟩⟩
-- mpaE: 65 steps, 1 ends, 2 returns
def mpaE_L : List (Nat × Nat × Nat) := []
def mpaE_O : yO := [(338, .int 0, .index 339), (339, .int 0, .arg 310), (338, .int 3, .index 341), (341, .int 1, .arg 400)]
def mpaE_A : yA := (yZ mpaE_L, [], [], [], [])
def mpaE_C : List xB := []
def mpaE_ss : List yS := [(10, [(0, .index 338), (1, .arg 1), (2, .arg 2), (3, .arg 3)], [.arg 2, .index 338], [(338, .int 0, .index 339), (339, .int 0, .arg 310), (338, .int 3, .index 341), (341, .int 1, .arg 400)], [(.le, .arg 1, .sub (.arg 310) (.int 1), true), (.lt, .arg 1, .int 0, false)], [])]
def mpaE_rs : List yR := [(some (.int (Int32.ofInt (-1000001))), [(341, .int 1, .add (.arg 400) (.int 1)), (338, .int 0, .index 339), (339, .int 0, .arg 310), (338, .int 3, .index 341)], [(.lt, .arg 1, .int 0, true)], [(341, .int 1)]),
  (some (.int (Int32.ofInt (-1000001))), [(341, .int 1, .add (.arg 400) (.int 1)), (338, .int 0, .index 339), (339, .int 0, .arg 310), (338, .int 3, .index 341)], [(.le, .arg 1, .sub (.arg 310) (.int 1), false), (.lt, .arg 1, .int 0, false)], [(341, .int 1)])]
theorem mpaE_w : ywa mpaE_A mpaE_ss mpaE_rs = true := by decide +kernel
theorem mpaE_k : yis (yev mpaE_A 3000 60 201 [10] (0, [(0, .index 338), (1, .arg 1), (2, .arg 2), (3, .arg 3)], [], mpaE_O, mpaE_C, [])) mpaE_ss mpaE_rs = true := by decide +kernel
def mpaE_r (v1_ v2 v3 v310 v400 : Int32) (k_ : Nat) : Value := bif Nat.beq k_ 1 then .int v1_ else (bif Nat.beq k_ 2 then .int v2 else (bif Nat.beq k_ 3 then .int v3 else (bif Nat.beq k_ 310 then .int v310 else (bif Nat.beq k_ 400 then .int v400 else (.int 0)))))
def mpaE_s (n_ : Nat) : Nat := 0
theorem mpaE {h_ : xH} {v1_ v2 v3 v310 v400 : Int32} (hs : sHp h_) (o0_ : bpat h_ 339 0 = some (.int v310)) (o1 : bpat h_ 341 1 = some (.int v400)) : ∃ h', ysm h_ h' ∧ (((v1_.toInt ≤ (v310 - (1 : Int32)).toInt) ∧ ((0 : Int32).toInt ≤ v1_.toInt) ∧ (∀ a_ j_ : Nat, bpat h' a_ j_ = bpat h_ a_ j_) ∧ (bldD 60 201 0 [(0, .index 338), (1, .int v1_), (2, .int v2), (3, .int v3)] [] h_ 10 [(0, .index 338), (1, .int v1_), (2, .int v2), (3, .int v3)] [.int v2, .index 338] h'))
  ∨ ((v1_.toInt < (0 : Int32).toInt) ∧ (bpat h' 341 1 = some (.int (v400 + (1 : Int32)))) ∧ (∀ a_ j_ : Nat, ¬ (a_ = 341 ∧ j_ = 1) → bpat h' a_ j_ = bpat h_ a_ j_) ∧ (∀ D_, 60 ≤ D_ → xrun D_ 201 0 [(0, .index 338), (1, .int v1_), (2, .int v2), (3, .int v3)] [] h_ (some (.int (Int32.ofInt (-1000001))), h', [])))
  ∨ (((v310 - (1 : Int32)).toInt < v1_.toInt) ∧ ((0 : Int32).toInt ≤ v1_.toInt) ∧ (bpat h' 341 1 = some (.int (v400 + (1 : Int32)))) ∧ (∀ a_ j_ : Nat, ¬ (a_ = 341 ∧ j_ = 1) → bpat h' a_ j_ = bpat h_ a_ j_) ∧ (∀ D_, 60 ≤ D_ → xrun D_ 201 0 [(0, .index 338), (1, .int v1_), (2, .int v2), (3, .int v3)] [] h_ (some (.int (Int32.ofInt (-1000001))), h', [])))) := by
  have hA : yas mpaE_A (mpaE_r v1_ v2 v3 v310 v400) (yg mpaE_s) := ⟨fun q_ hq => absurd hq List.not_mem_nil, fun q_ hq => absurd hq List.not_mem_nil, fun q_ hq => absurd hq List.not_mem_nil, fun n_ hn => yg_lo hn, fun q_ hq => absurd hq List.not_mem_nil⟩
  have Hs : ysh mpaE_A.1 (yg mpaE_s) h_ := ysh_of2 hs (fun q_ hq => absurd hq List.not_mem_nil)
  have Ho : ymem (mpaE_r v1_ v2 v3 v310 v400) (yg mpaE_s) mpaE_O h_ := List.forall_mem_cons.mpr ⟨bpat_some (fxr_at hs.2 (show fxk fxl 338 0 = some 339 by decide +kernel)), List.forall_mem_cons.mpr ⟨bpat_some o0_, List.forall_mem_cons.mpr ⟨bpat_some (fxr_at hs.2 (show fxk fxl 338 3 = some 341 by decide +kernel)), List.forall_mem_cons.mpr ⟨bpat_some o1, fun q_ hq => absurd hq List.not_mem_nil⟩⟩⟩⟩
  have HC : ∀ q_ ∈ mpaE_C, xhold (mpaE_r v1_ v2 v3 v310 v400) q_ := fun q_ hq => absurd hq List.not_mem_nil
  rcases yrun (yis_ok mpaE_k) hA Hs Ho HC with ⟨q_, hq, h', K_, G_⟩ | ⟨q_, hq, h', K_, G_⟩
  · have e_ := List.mem_singleton.mp hq
    subst e_
    exact ⟨h', yfr_sm K_.2.2.2 hs K_.1 (ywa_s mpaE_w List.mem_cons_self), Or.inl (⟨xq_leT rfl (yv_sub2 rfl rfl) (K_.2.2.1 _ List.mem_cons_self), xq_ltF rfl rfl (K_.2.2.1 _ (List.mem_cons_of_mem _ List.mem_cons_self)), fun a_ j_ => yfr_bp K_.2.2.2 (fun q_ hq => absurd hq List.not_mem_nil), G_⟩)⟩
  · rcases List.mem_cons.mp hq with e_ | hq
    · subst e_
      exact ⟨h', yfr_sm K_.2.2.2 hs K_.1 (ywa_r mpaE_w List.mem_cons_self), Or.inr (Or.inl (⟨xq_ltT rfl rfl (K_.2.2.1 _ List.mem_cons_self), bpat_of (K_.2.1 _ List.mem_cons_self), fun a_ j_ n0_ => yfr_bp K_.2.2.2 (List.forall_mem_cons.mpr ⟨fun e_ => n0_ ⟨e_.1.symm, e_.2.symm⟩, fun q_ hq => absurd hq List.not_mem_nil⟩), G_⟩))⟩
    have e_ := List.mem_singleton.mp hq
    subst e_
    exact ⟨h', yfr_sm K_.2.2.2 hs K_.1 (ywa_r mpaE_w (List.mem_cons_of_mem _ List.mem_cons_self)), Or.inr (Or.inr (⟨xq_leF rfl (yv_sub2 rfl rfl) (K_.2.2.1 _ List.mem_cons_self), xq_ltF rfl rfl (K_.2.2.1 _ (List.mem_cons_of_mem _ List.mem_cons_self)), bpat_of (K_.2.1 _ List.mem_cons_self), fun a_ j_ n0_ => yfr_bp K_.2.2.2 (List.forall_mem_cons.mpr ⟨fun e_ => n0_ ⟨e_.1.symm, e_.2.symm⟩, fun q_ hq => absurd hq List.not_mem_nil⟩), G_⟩))⟩
-- mpaF: 17 steps, 0 ends, 1 returns
def mpaF_L : List (Nat × Nat × Nat) := []
def mpaF_O : yO := [(338, .int 3, .index 341), (341, .int 1, .arg 400)]
def mpaF_A : yA := (yZ mpaF_L, [], [], [], [])
def mpaF_C : List xB := []
def mpaF_ss : List yS := []
def mpaF_rs : List yR := [(some (.int (Int32.ofInt (-1000001))), [(341, .int 1, .add (.arg 400) (.int 1)), (338, .int 3, .index 341)], [], [(341, .int 1)])]
theorem mpaF_w : ywa mpaF_A mpaF_ss mpaF_rs = true := by decide +kernel
theorem mpaF_k : yis (yev mpaF_A 3000 60 201 [] (13, [(0, .index 338), (1, .arg 1), (2, .arg 2), (3, .arg 3)], [.int 0], mpaF_O, mpaF_C, [])) mpaF_ss mpaF_rs = true := by decide +kernel
def mpaF_r (v1_ v2 v3 v400 : Int32) (k_ : Nat) : Value := bif Nat.beq k_ 1 then .int v1_ else (bif Nat.beq k_ 2 then .int v2 else (bif Nat.beq k_ 3 then .int v3 else (bif Nat.beq k_ 400 then .int v400 else (.int 0))))
def mpaF_s (n_ : Nat) : Nat := 0
theorem mpaF {h_ : xH} {v1_ v2 v3 v400 : Int32} (hs : sHp h_) (o0_ : bpat h_ 341 1 = some (.int v400)) : ∃ h', ysm h_ h' ∧ (((bpat h' 341 1 = some (.int (v400 + (1 : Int32)))) ∧ (∀ a_ j_ : Nat, ¬ (a_ = 341 ∧ j_ = 1) → bpat h' a_ j_ = bpat h_ a_ j_) ∧ (∀ D_, 60 ≤ D_ → xrun D_ 201 13 [(0, .index 338), (1, .int v1_), (2, .int v2), (3, .int v3)] [.int (0 : Int32)] h_ (some (.int (Int32.ofInt (-1000001))), h', [])))) := by
  have hA : yas mpaF_A (mpaF_r v1_ v2 v3 v400) (yg mpaF_s) := ⟨fun q_ hq => absurd hq List.not_mem_nil, fun q_ hq => absurd hq List.not_mem_nil, fun q_ hq => absurd hq List.not_mem_nil, fun n_ hn => yg_lo hn, fun q_ hq => absurd hq List.not_mem_nil⟩
  have Hs : ysh mpaF_A.1 (yg mpaF_s) h_ := ysh_of2 hs (fun q_ hq => absurd hq List.not_mem_nil)
  have Ho : ymem (mpaF_r v1_ v2 v3 v400) (yg mpaF_s) mpaF_O h_ := List.forall_mem_cons.mpr ⟨bpat_some (fxr_at hs.2 (show fxk fxl 338 3 = some 341 by decide +kernel)), List.forall_mem_cons.mpr ⟨bpat_some o0_, fun q_ hq => absurd hq List.not_mem_nil⟩⟩
  have HC : ∀ q_ ∈ mpaF_C, xhold (mpaF_r v1_ v2 v3 v400) q_ := fun q_ hq => absurd hq List.not_mem_nil
  rcases yrun (yis_ok mpaF_k) hA Hs Ho HC with ⟨q_, hq, h', K_, G_⟩ | ⟨q_, hq, h', K_, G_⟩
  · cases hq
  · have e_ := List.mem_singleton.mp hq
    subst e_
    exact ⟨h', yfr_sm K_.2.2.2 hs K_.1 (ywa_r mpaF_w List.mem_cons_self), ⟨bpat_of (K_.2.1 _ List.mem_cons_self), fun a_ j_ n0_ => yfr_bp K_.2.2.2 (List.forall_mem_cons.mpr ⟨fun e_ => n0_ ⟨e_.1.symm, e_.2.symm⟩, fun q_ hq => absurd hq List.not_mem_nil⟩), G_⟩⟩
-- mpaG: 3 steps, 1 ends, 0 returns
def mpaG_L : List (Nat × Nat × Nat) := []
def mpaG_O : yO := []
def mpaG_A : yA := (yZ mpaG_L, [], [], [], [])
def mpaG_C : List xB := []
def mpaG_ss : List yS := [(18, [(0, .index 338), (1, .arg 1), (2, .arg 2), (3, .arg 3)], [.arg 3, .index 338], [], [], [])]
def mpaG_rs : List yR := []
theorem mpaG_w : ywa mpaG_A mpaG_ss mpaG_rs = true := by decide +kernel
theorem mpaG_k : yis (yev mpaG_A 3000 60 201 [18] (13, [(0, .index 338), (1, .arg 1), (2, .arg 2), (3, .arg 3)], [.int 1], mpaG_O, mpaG_C, [])) mpaG_ss mpaG_rs = true := by decide +kernel
def mpaG_r (v1_ v2 v3 : Int32) (k_ : Nat) : Value := bif Nat.beq k_ 1 then .int v1_ else (bif Nat.beq k_ 2 then .int v2 else (bif Nat.beq k_ 3 then .int v3 else (.int 0)))
def mpaG_s (n_ : Nat) : Nat := 0
theorem mpaG {h_ : xH} {v1_ v2 v3 : Int32} (hs : sHp h_) : ∃ h', ysm h_ h' ∧ (((∀ a_ j_ : Nat, bpat h' a_ j_ = bpat h_ a_ j_) ∧ (bldD 60 201 13 [(0, .index 338), (1, .int v1_), (2, .int v2), (3, .int v3)] [.int (1 : Int32)] h_ 18 [(0, .index 338), (1, .int v1_), (2, .int v2), (3, .int v3)] [.int v3, .index 338] h'))) := by
  have hA : yas mpaG_A (mpaG_r v1_ v2 v3) (yg mpaG_s) := ⟨fun q_ hq => absurd hq List.not_mem_nil, fun q_ hq => absurd hq List.not_mem_nil, fun q_ hq => absurd hq List.not_mem_nil, fun n_ hn => yg_lo hn, fun q_ hq => absurd hq List.not_mem_nil⟩
  have Hs : ysh mpaG_A.1 (yg mpaG_s) h_ := ysh_of2 hs (fun q_ hq => absurd hq List.not_mem_nil)
  have Ho : ymem (mpaG_r v1_ v2 v3) (yg mpaG_s) mpaG_O h_ := fun q_ hq => absurd hq List.not_mem_nil
  have HC : ∀ q_ ∈ mpaG_C, xhold (mpaG_r v1_ v2 v3) q_ := fun q_ hq => absurd hq List.not_mem_nil
  rcases yrun (yis_ok mpaG_k) hA Hs Ho HC with ⟨q_, hq, h', K_, G_⟩ | ⟨q_, hq, h', K_, G_⟩
  · have e_ := List.mem_singleton.mp hq
    subst e_
    exact ⟨h', yfr_sm K_.2.2.2 hs K_.1 (ywa_s mpaG_w List.mem_cons_self), ⟨fun a_ j_ => yfr_bp K_.2.2.2 (fun q_ hq => absurd hq List.not_mem_nil), G_⟩⟩
  · cases hq
-- mpaH: 17 steps, 0 ends, 1 returns
def mpaH_L : List (Nat × Nat × Nat) := []
def mpaH_O : yO := [(338, .int 3, .index 341), (341, .int 1, .arg 400)]
def mpaH_A : yA := (yZ mpaH_L, [], [], [], [])
def mpaH_C : List xB := []
def mpaH_ss : List yS := []
def mpaH_rs : List yR := [(some (.int (Int32.ofInt (-1000001))), [(341, .int 1, .add (.arg 400) (.int 1)), (338, .int 3, .index 341)], [], [(341, .int 1)])]
theorem mpaH_w : ywa mpaH_A mpaH_ss mpaH_rs = true := by decide +kernel
theorem mpaH_k : yis (yev mpaH_A 3000 60 201 [] (21, [(0, .index 338), (1, .arg 1), (2, .arg 2), (3, .arg 3)], [.int 0], mpaH_O, mpaH_C, [])) mpaH_ss mpaH_rs = true := by decide +kernel
def mpaH_r (v1_ v2 v3 v400 : Int32) (k_ : Nat) : Value := bif Nat.beq k_ 1 then .int v1_ else (bif Nat.beq k_ 2 then .int v2 else (bif Nat.beq k_ 3 then .int v3 else (bif Nat.beq k_ 400 then .int v400 else (.int 0))))
def mpaH_s (n_ : Nat) : Nat := 0
theorem mpaH {h_ : xH} {v1_ v2 v3 v400 : Int32} (hs : sHp h_) (o0_ : bpat h_ 341 1 = some (.int v400)) : ∃ h', ysm h_ h' ∧ (((bpat h' 341 1 = some (.int (v400 + (1 : Int32)))) ∧ (∀ a_ j_ : Nat, ¬ (a_ = 341 ∧ j_ = 1) → bpat h' a_ j_ = bpat h_ a_ j_) ∧ (∀ D_, 60 ≤ D_ → xrun D_ 201 21 [(0, .index 338), (1, .int v1_), (2, .int v2), (3, .int v3)] [.int (0 : Int32)] h_ (some (.int (Int32.ofInt (-1000001))), h', [])))) := by
  have hA : yas mpaH_A (mpaH_r v1_ v2 v3 v400) (yg mpaH_s) := ⟨fun q_ hq => absurd hq List.not_mem_nil, fun q_ hq => absurd hq List.not_mem_nil, fun q_ hq => absurd hq List.not_mem_nil, fun n_ hn => yg_lo hn, fun q_ hq => absurd hq List.not_mem_nil⟩
  have Hs : ysh mpaH_A.1 (yg mpaH_s) h_ := ysh_of2 hs (fun q_ hq => absurd hq List.not_mem_nil)
  have Ho : ymem (mpaH_r v1_ v2 v3 v400) (yg mpaH_s) mpaH_O h_ := List.forall_mem_cons.mpr ⟨bpat_some (fxr_at hs.2 (show fxk fxl 338 3 = some 341 by decide +kernel)), List.forall_mem_cons.mpr ⟨bpat_some o0_, fun q_ hq => absurd hq List.not_mem_nil⟩⟩
  have HC : ∀ q_ ∈ mpaH_C, xhold (mpaH_r v1_ v2 v3 v400) q_ := fun q_ hq => absurd hq List.not_mem_nil
  rcases yrun (yis_ok mpaH_k) hA Hs Ho HC with ⟨q_, hq, h', K_, G_⟩ | ⟨q_, hq, h', K_, G_⟩
  · cases hq
  · have e_ := List.mem_singleton.mp hq
    subst e_
    exact ⟨h', yfr_sm K_.2.2.2 hs K_.1 (ywa_r mpaH_w List.mem_cons_self), ⟨bpat_of (K_.2.1 _ List.mem_cons_self), fun a_ j_ n0_ => yfr_bp K_.2.2.2 (List.forall_mem_cons.mpr ⟨fun e_ => n0_ ⟨e_.1.symm, e_.2.symm⟩, fun q_ hq => absurd hq List.not_mem_nil⟩), G_⟩⟩
-- mpaI: 6 steps, 1 ends, 0 returns
def mpaI_L : List (Nat × Nat × Nat) := []
def mpaI_O : yO := [(338, .int 4, .index 342)]
def mpaI_A : yA := (yZ mpaI_L, [], [], [], [])
def mpaI_C : List xB := []
def mpaI_ss : List yS := [(37, [(0, .index 338), (1, .arg 1), (2, .arg 2), (3, .arg 3)], [.index 342, .arg 2, .arg 1, .index 338], [(338, .int 4, .index 342)], [], [])]
def mpaI_rs : List yR := []
theorem mpaI_w : ywa mpaI_A mpaI_ss mpaI_rs = true := by decide +kernel
theorem mpaI_k : yis (yev mpaI_A 3000 60 201 [37] (21, [(0, .index 338), (1, .arg 1), (2, .arg 2), (3, .arg 3)], [.int 1], mpaI_O, mpaI_C, [])) mpaI_ss mpaI_rs = true := by decide +kernel
def mpaI_r (v1_ v2 v3 : Int32) (k_ : Nat) : Value := bif Nat.beq k_ 1 then .int v1_ else (bif Nat.beq k_ 2 then .int v2 else (bif Nat.beq k_ 3 then .int v3 else (.int 0)))
def mpaI_s (n_ : Nat) : Nat := 0
theorem mpaI {h_ : xH} {v1_ v2 v3 : Int32} (hs : sHp h_) : ∃ h', ysm h_ h' ∧ (((∀ a_ j_ : Nat, bpat h' a_ j_ = bpat h_ a_ j_) ∧ (bldD 60 201 21 [(0, .index 338), (1, .int v1_), (2, .int v2), (3, .int v3)] [.int (1 : Int32)] h_ 37 [(0, .index 338), (1, .int v1_), (2, .int v2), (3, .int v3)] [.index 342, .int v2, .int v1_, .index 338] h'))) := by
  have hA : yas mpaI_A (mpaI_r v1_ v2 v3) (yg mpaI_s) := ⟨fun q_ hq => absurd hq List.not_mem_nil, fun q_ hq => absurd hq List.not_mem_nil, fun q_ hq => absurd hq List.not_mem_nil, fun n_ hn => yg_lo hn, fun q_ hq => absurd hq List.not_mem_nil⟩
  have Hs : ysh mpaI_A.1 (yg mpaI_s) h_ := ysh_of2 hs (fun q_ hq => absurd hq List.not_mem_nil)
  have Ho : ymem (mpaI_r v1_ v2 v3) (yg mpaI_s) mpaI_O h_ := List.forall_mem_cons.mpr ⟨bpat_some (fxr_at hs.2 (show fxk fxl 338 4 = some 342 by decide +kernel)), fun q_ hq => absurd hq List.not_mem_nil⟩
  have HC : ∀ q_ ∈ mpaI_C, xhold (mpaI_r v1_ v2 v3) q_ := fun q_ hq => absurd hq List.not_mem_nil
  rcases yrun (yis_ok mpaI_k) hA Hs Ho HC with ⟨q_, hq, h', K_, G_⟩ | ⟨q_, hq, h', K_, G_⟩
  · have e_ := List.mem_singleton.mp hq
    subst e_
    exact ⟨h', yfr_sm K_.2.2.2 hs K_.1 (ywa_s mpaI_w List.mem_cons_self), ⟨fun a_ j_ => yfr_bp K_.2.2.2 (fun q_ hq => absurd hq List.not_mem_nil), G_⟩⟩
  · cases hq
-- mpaJ: 5 steps, 1 ends, 0 returns
def mpaJ_L : List (Nat × Nat × Nat) := []
def mpaJ_O : yO := [(338, .int 5, .index 343)]
def mpaJ_A : yA := (yZ mpaJ_L, [], [], [], [])
def mpaJ_C : List xB := []
def mpaJ_ss : List yS := [(47, [(0, .index 338), (1, .arg 1), (2, .arg 2), (3, .arg 3)], [.index 343, .arg 3, .arg 1, .index 338], [(338, .int 5, .index 343)], [], [])]
def mpaJ_rs : List yR := []
theorem mpaJ_w : ywa mpaJ_A mpaJ_ss mpaJ_rs = true := by decide +kernel
theorem mpaJ_k : yis (yev mpaJ_A 3000 60 201 [47] (40, [(0, .index 338), (1, .arg 1), (2, .arg 2), (3, .arg 3)], [], mpaJ_O, mpaJ_C, [])) mpaJ_ss mpaJ_rs = true := by decide +kernel
def mpaJ_r (v1_ v2 v3 : Int32) (k_ : Nat) : Value := bif Nat.beq k_ 1 then .int v1_ else (bif Nat.beq k_ 2 then .int v2 else (bif Nat.beq k_ 3 then .int v3 else (.int 0)))
def mpaJ_s (n_ : Nat) : Nat := 0
theorem mpaJ {h_ : xH} {v1_ v2 v3 : Int32} (hs : sHp h_) : ∃ h', ysm h_ h' ∧ (((∀ a_ j_ : Nat, bpat h' a_ j_ = bpat h_ a_ j_) ∧ (bldD 60 201 40 [(0, .index 338), (1, .int v1_), (2, .int v2), (3, .int v3)] [] h_ 47 [(0, .index 338), (1, .int v1_), (2, .int v2), (3, .int v3)] [.index 343, .int v3, .int v1_, .index 338] h'))) := by
  have hA : yas mpaJ_A (mpaJ_r v1_ v2 v3) (yg mpaJ_s) := ⟨fun q_ hq => absurd hq List.not_mem_nil, fun q_ hq => absurd hq List.not_mem_nil, fun q_ hq => absurd hq List.not_mem_nil, fun n_ hn => yg_lo hn, fun q_ hq => absurd hq List.not_mem_nil⟩
  have Hs : ysh mpaJ_A.1 (yg mpaJ_s) h_ := ysh_of2 hs (fun q_ hq => absurd hq List.not_mem_nil)
  have Ho : ymem (mpaJ_r v1_ v2 v3) (yg mpaJ_s) mpaJ_O h_ := List.forall_mem_cons.mpr ⟨bpat_some (fxr_at hs.2 (show fxk fxl 338 5 = some 343 by decide +kernel)), fun q_ hq => absurd hq List.not_mem_nil⟩
  have HC : ∀ q_ ∈ mpaJ_C, xhold (mpaJ_r v1_ v2 v3) q_ := fun q_ hq => absurd hq List.not_mem_nil
  rcases yrun (yis_ok mpaJ_k) hA Hs Ho HC with ⟨q_, hq, h', K_, G_⟩ | ⟨q_, hq, h', K_, G_⟩
  · have e_ := List.mem_singleton.mp hq
    subst e_
    exact ⟨h', yfr_sm K_.2.2.2 hs K_.1 (ywa_s mpaJ_w List.mem_cons_self), ⟨fun a_ j_ => yfr_bp K_.2.2.2 (fun q_ hq => absurd hq List.not_mem_nil), G_⟩⟩
  · cases hq
-- mpaK: 4 steps, 1 ends, 0 returns
def mpaK_L : List (Nat × Nat × Nat) := []
def mpaK_O : yO := [(338, .int 4, .index 342), (338, .int 5, .index 343)]
def mpaK_A : yA := (yZ mpaK_L, [], [], [], [])
def mpaK_C : List xB := []
def mpaK_ss : List yS := [(58, [(0, .index 338), (1, .arg 1), (2, .arg 2), (3, .arg 3)], [.index 343, .index 342], [(338, .int 4, .index 342), (338, .int 5, .index 343)], [], [])]
def mpaK_rs : List yR := []
theorem mpaK_w : ywa mpaK_A mpaK_ss mpaK_rs = true := by decide +kernel
theorem mpaK_k : yis (yev mpaK_A 3000 60 201 [58] (50, [(0, .index 338), (1, .arg 1), (2, .arg 2), (3, .arg 3)], [], mpaK_O, mpaK_C, [])) mpaK_ss mpaK_rs = true := by decide +kernel
def mpaK_r (v1_ v2 v3 : Int32) (k_ : Nat) : Value := bif Nat.beq k_ 1 then .int v1_ else (bif Nat.beq k_ 2 then .int v2 else (bif Nat.beq k_ 3 then .int v3 else (.int 0)))
def mpaK_s (n_ : Nat) : Nat := 0
theorem mpaK {h_ : xH} {v1_ v2 v3 : Int32} (hs : sHp h_) : ∃ h', ysm h_ h' ∧ (((∀ a_ j_ : Nat, bpat h' a_ j_ = bpat h_ a_ j_) ∧ (bldD 60 201 50 [(0, .index 338), (1, .int v1_), (2, .int v2), (3, .int v3)] [] h_ 58 [(0, .index 338), (1, .int v1_), (2, .int v2), (3, .int v3)] [.index 343, .index 342] h'))) := by
  have hA : yas mpaK_A (mpaK_r v1_ v2 v3) (yg mpaK_s) := ⟨fun q_ hq => absurd hq List.not_mem_nil, fun q_ hq => absurd hq List.not_mem_nil, fun q_ hq => absurd hq List.not_mem_nil, fun n_ hn => yg_lo hn, fun q_ hq => absurd hq List.not_mem_nil⟩
  have Hs : ysh mpaK_A.1 (yg mpaK_s) h_ := ysh_of2 hs (fun q_ hq => absurd hq List.not_mem_nil)
  have Ho : ymem (mpaK_r v1_ v2 v3) (yg mpaK_s) mpaK_O h_ := List.forall_mem_cons.mpr ⟨bpat_some (fxr_at hs.2 (show fxk fxl 338 4 = some 342 by decide +kernel)), List.forall_mem_cons.mpr ⟨bpat_some (fxr_at hs.2 (show fxk fxl 338 5 = some 343 by decide +kernel)), fun q_ hq => absurd hq List.not_mem_nil⟩⟩
  have HC : ∀ q_ ∈ mpaK_C, xhold (mpaK_r v1_ v2 v3) q_ := fun q_ hq => absurd hq List.not_mem_nil
  rcases yrun (yis_ok mpaK_k) hA Hs Ho HC with ⟨q_, hq, h', K_, G_⟩ | ⟨q_, hq, h', K_, G_⟩
  · have e_ := List.mem_singleton.mp hq
    subst e_
    exact ⟨h', yfr_sm K_.2.2.2 hs K_.1 (ywa_s mpaK_w List.mem_cons_self), ⟨fun a_ j_ => yfr_bp K_.2.2.2 (fun q_ hq => absurd hq List.not_mem_nil), G_⟩⟩
  · cases hq
-- mpaL: 17 steps, 0 ends, 1 returns
def mpaL_L : List (Nat × Nat × Nat) := []
def mpaL_O : yO := [(338, .int 3, .index 341), (341, .int 2, .arg 400)]
def mpaL_A : yA := (yZ mpaL_L, [], [], [], [])
def mpaL_C : List xB := []
def mpaL_ss : List yS := []
def mpaL_rs : List yR := [(some (.int (Int32.ofInt (-1000002))), [(341, .int 2, .add (.arg 400) (.int 1)), (338, .int 3, .index 341)], [], [(341, .int 2)])]
theorem mpaL_w : ywa mpaL_A mpaL_ss mpaL_rs = true := by decide +kernel
theorem mpaL_k : yis (yev mpaL_A 3000 60 201 [] (61, [(0, .index 338), (1, .arg 1), (2, .arg 2), (3, .arg 3)], [.int 1], mpaL_O, mpaL_C, [])) mpaL_ss mpaL_rs = true := by decide +kernel
def mpaL_r (v1_ v2 v3 v400 : Int32) (k_ : Nat) : Value := bif Nat.beq k_ 1 then .int v1_ else (bif Nat.beq k_ 2 then .int v2 else (bif Nat.beq k_ 3 then .int v3 else (bif Nat.beq k_ 400 then .int v400 else (.int 0))))
def mpaL_s (n_ : Nat) : Nat := 0
theorem mpaL {h_ : xH} {v1_ v2 v3 v400 : Int32} (hs : sHp h_) (o0_ : bpat h_ 341 2 = some (.int v400)) : ∃ h', ysm h_ h' ∧ (((bpat h' 341 2 = some (.int (v400 + (1 : Int32)))) ∧ (∀ a_ j_ : Nat, ¬ (a_ = 341 ∧ j_ = 2) → bpat h' a_ j_ = bpat h_ a_ j_) ∧ (∀ D_, 60 ≤ D_ → xrun D_ 201 61 [(0, .index 338), (1, .int v1_), (2, .int v2), (3, .int v3)] [.int (1 : Int32)] h_ (some (.int (Int32.ofInt (-1000002))), h', [])))) := by
  have hA : yas mpaL_A (mpaL_r v1_ v2 v3 v400) (yg mpaL_s) := ⟨fun q_ hq => absurd hq List.not_mem_nil, fun q_ hq => absurd hq List.not_mem_nil, fun q_ hq => absurd hq List.not_mem_nil, fun n_ hn => yg_lo hn, fun q_ hq => absurd hq List.not_mem_nil⟩
  have Hs : ysh mpaL_A.1 (yg mpaL_s) h_ := ysh_of2 hs (fun q_ hq => absurd hq List.not_mem_nil)
  have Ho : ymem (mpaL_r v1_ v2 v3 v400) (yg mpaL_s) mpaL_O h_ := List.forall_mem_cons.mpr ⟨bpat_some (fxr_at hs.2 (show fxk fxl 338 3 = some 341 by decide +kernel)), List.forall_mem_cons.mpr ⟨bpat_some o0_, fun q_ hq => absurd hq List.not_mem_nil⟩⟩
  have HC : ∀ q_ ∈ mpaL_C, xhold (mpaL_r v1_ v2 v3 v400) q_ := fun q_ hq => absurd hq List.not_mem_nil
  rcases yrun (yis_ok mpaL_k) hA Hs Ho HC with ⟨q_, hq, h', K_, G_⟩ | ⟨q_, hq, h', K_, G_⟩
  · cases hq
  · have e_ := List.mem_singleton.mp hq
    subst e_
    exact ⟨h', yfr_sm K_.2.2.2 hs K_.1 (ywa_r mpaL_w List.mem_cons_self), ⟨bpat_of (K_.2.1 _ List.mem_cons_self), fun a_ j_ n0_ => yfr_bp K_.2.2.2 (List.forall_mem_cons.mpr ⟨fun e_ => n0_ ⟨e_.1.symm, e_.2.symm⟩, fun q_ hq => absurd hq List.not_mem_nil⟩), G_⟩⟩
-- mpaM: 3 steps, 1 ends, 0 returns
def mpaM_L : List (Nat × Nat × Nat) := []
def mpaM_O : yO := []
def mpaM_A : yA := (yZ mpaM_L, [], [], [], [])
def mpaM_C : List xB := []
def mpaM_ss : List yS := [(73, [(4, .int 1), (0, .index 338), (1, .arg 1), (2, .arg 2), (3, .arg 3)], [], [], [], [])]
def mpaM_rs : List yR := []
theorem mpaM_w : ywa mpaM_A mpaM_ss mpaM_rs = true := by decide +kernel
theorem mpaM_k : yis (yev mpaM_A 3000 60 201 [73] (61, [(0, .index 338), (1, .arg 1), (2, .arg 2), (3, .arg 3)], [.int 0], mpaM_O, mpaM_C, [])) mpaM_ss mpaM_rs = true := by decide +kernel
def mpaM_r (v1_ v2 v3 : Int32) (k_ : Nat) : Value := bif Nat.beq k_ 1 then .int v1_ else (bif Nat.beq k_ 2 then .int v2 else (bif Nat.beq k_ 3 then .int v3 else (.int 0)))
def mpaM_s (n_ : Nat) : Nat := 0
theorem mpaM {h_ : xH} {v1_ v2 v3 : Int32} (hs : sHp h_) : ∃ h', ysm h_ h' ∧ (((∀ a_ j_ : Nat, bpat h' a_ j_ = bpat h_ a_ j_) ∧ (bldD 60 201 61 [(0, .index 338), (1, .int v1_), (2, .int v2), (3, .int v3)] [.int (0 : Int32)] h_ 73 [(4, .int (1 : Int32)), (0, .index 338), (1, .int v1_), (2, .int v2), (3, .int v3)] [] h'))) := by
  have hA : yas mpaM_A (mpaM_r v1_ v2 v3) (yg mpaM_s) := ⟨fun q_ hq => absurd hq List.not_mem_nil, fun q_ hq => absurd hq List.not_mem_nil, fun q_ hq => absurd hq List.not_mem_nil, fun n_ hn => yg_lo hn, fun q_ hq => absurd hq List.not_mem_nil⟩
  have Hs : ysh mpaM_A.1 (yg mpaM_s) h_ := ysh_of2 hs (fun q_ hq => absurd hq List.not_mem_nil)
  have Ho : ymem (mpaM_r v1_ v2 v3) (yg mpaM_s) mpaM_O h_ := fun q_ hq => absurd hq List.not_mem_nil
  have HC : ∀ q_ ∈ mpaM_C, xhold (mpaM_r v1_ v2 v3) q_ := fun q_ hq => absurd hq List.not_mem_nil
  rcases yrun (yis_ok mpaM_k) hA Hs Ho HC with ⟨q_, hq, h', K_, G_⟩ | ⟨q_, hq, h', K_, G_⟩
  · have e_ := List.mem_singleton.mp hq
    subst e_
    exact ⟨h', yfr_sm K_.2.2.2 hs K_.1 (ywa_s mpaM_w List.mem_cons_self), ⟨fun a_ j_ => yfr_bp K_.2.2.2 (fun q_ hq => absurd hq List.not_mem_nil), G_⟩⟩
  · cases hq
-- mpaT: 23 steps, 1 ends, 0 returns
def mpaT_L : List (Nat × Nat × Nat) := []
def mpaT_O : yO := [(338, .int 4, .index 342), (342, .int 0, .arg 300), (338, .int 5, .index 343), (343, .int 0, .arg 301), (342, .arg 4, .arg 302), (343, .arg 4, .arg 303)]
def mpaT_A : yA := (yZ mpaT_L, [(.arg 4, 13)], [], [], [])
def mpaT_C : List xB := [(.eq, .arg 302, .arg 303, true), (.le, .arg 4, .arg 301, true), (.le, .arg 4, .arg 300, true)]
def mpaT_ss : List yS := [(73, [(4, .add (.arg 4) (.int 1)), (0, .index 338), (1, .arg 1), (2, .arg 2), (3, .arg 3)], [], [(338, .int 4, .index 342), (342, .int 0, .arg 300), (338, .int 5, .index 343), (343, .int 0, .arg 301), (342, .arg 4, .arg 302), (343, .arg 4, .arg 303)], [(.eq, .arg 302, .arg 303, true), (.le, .arg 4, .arg 301, true), (.le, .arg 4, .arg 300, true)], [])]
def mpaT_rs : List yR := []
theorem mpaT_w : ywa mpaT_A mpaT_ss mpaT_rs = true := by decide +kernel
theorem mpaT_k : yis (yev mpaT_A 3000 60 201 [73] (73, [(4, .arg 4), (0, .index 338), (1, .arg 1), (2, .arg 2), (3, .arg 3)], [], mpaT_O, mpaT_C, [])) mpaT_ss mpaT_rs = true := by decide +kernel
def mpaT_r (v1_ v2 v3 v4_ v300 v301 v302 v303 : Int32) (k_ : Nat) : Value := bif Nat.beq k_ 1 then .int v1_ else (bif Nat.beq k_ 2 then .int v2 else (bif Nat.beq k_ 3 then .int v3 else (bif Nat.beq k_ 4 then .int v4_ else (bif Nat.beq k_ 300 then .int v300 else (bif Nat.beq k_ 301 then .int v301 else (bif Nat.beq k_ 302 then .int v302 else (bif Nat.beq k_ 303 then .int v303 else (.int 0))))))))
def mpaT_s (n_ : Nat) : Nat := 0
theorem mpaT {h_ : xH} {v1_ v2 v3 v4_ v300 v301 v302 v303 : Int32} (hs : sHp h_) (o0_ : bpat h_ 342 0 = some (.int v300)) (o1 : bpat h_ 343 0 = some (.int v301)) (o2 : bpat h_ 342 (v4_).toInt.toNat = some (.int v302)) (o3_ : bpat h_ 343 (v4_).toInt.toNat = some (.int v303)) (b0 : 0 ≤ (v4_).toInt ∧ (v4_).toInt < 13) (c0_ : v302 = v303) (c1_ : v4_.toInt ≤ v301.toInt) (c2_ : v4_.toInt ≤ v300.toInt) : ∃ h', ysm h_ h' ∧ (((∀ a_ j_ : Nat, bpat h' a_ j_ = bpat h_ a_ j_) ∧ (bldD 60 201 73 [(4, .int v4_), (0, .index 338), (1, .int v1_), (2, .int v2), (3, .int v3)] [] h_ 73 [(4, .int (v4_ + (1 : Int32))), (0, .index 338), (1, .int v1_), (2, .int v2), (3, .int v3)] [] h'))) := by
  have hA : yas mpaT_A (mpaT_r v1_ v2 v3 v4_ v300 v301 v302 v303) (yg mpaT_s) := ⟨List.forall_mem_cons.mpr ⟨b0, fun q_ hq => absurd hq List.not_mem_nil⟩, fun q_ hq => absurd hq List.not_mem_nil, fun q_ hq => absurd hq List.not_mem_nil, fun n_ hn => yg_lo hn, fun q_ hq => absurd hq List.not_mem_nil⟩
  have Hs : ysh mpaT_A.1 (yg mpaT_s) h_ := ysh_of2 hs (fun q_ hq => absurd hq List.not_mem_nil)
  have Ho : ymem (mpaT_r v1_ v2 v3 v4_ v300 v301 v302 v303) (yg mpaT_s) mpaT_O h_ := List.forall_mem_cons.mpr ⟨bpat_some (fxr_at hs.2 (show fxk fxl 338 4 = some 342 by decide +kernel)), List.forall_mem_cons.mpr ⟨bpat_some o0_, List.forall_mem_cons.mpr ⟨bpat_some (fxr_at hs.2 (show fxk fxl 338 5 = some 343 by decide +kernel)), List.forall_mem_cons.mpr ⟨bpat_some o1, List.forall_mem_cons.mpr ⟨bpat_some o2, List.forall_mem_cons.mpr ⟨bpat_some o3_, fun q_ hq => absurd hq List.not_mem_nil⟩⟩⟩⟩⟩⟩
  have HC : ∀ q_ ∈ mpaT_C, xhold (mpaT_r v1_ v2 v3 v4_ v300 v301 v302 v303) q_ := List.forall_mem_cons.mpr ⟨xh_eqT2 c0_, List.forall_mem_cons.mpr ⟨xh_leT c1_, List.forall_mem_cons.mpr ⟨xh_leT c2_, fun q_ hq => absurd hq List.not_mem_nil⟩⟩⟩
  rcases yrun (yis_ok mpaT_k) hA Hs Ho HC with ⟨q_, hq, h', K_, G_⟩ | ⟨q_, hq, h', K_, G_⟩
  · have e_ := List.mem_singleton.mp hq
    subst e_
    exact ⟨h', yfr_sm K_.2.2.2 hs K_.1 (ywa_s mpaT_w List.mem_cons_self), ⟨fun a_ j_ => yfr_bp K_.2.2.2 (fun q_ hq => absurd hq List.not_mem_nil), G_⟩⟩
  · cases hq
-- mpaU: 25 steps, 0 ends, 1 returns
def mpaU_L : List (Nat × Nat × Nat) := []
def mpaU_O : yO := [(338, .int 4, .index 342), (342, .int 0, .arg 300), (338, .int 5, .index 343), (343, .int 0, .arg 301), (342, .arg 4, .arg 302), (343, .arg 4, .arg 303)]
def mpaU_A : yA := (yZ mpaU_L, [(.arg 4, 13)], [], [], [])
def mpaU_C : List xB := [(.eq, .arg 302, .arg 303, false), (.le, .arg 4, .arg 301, true), (.le, .arg 4, .arg 300, true)]
def mpaU_ss : List yS := []
def mpaU_rs : List yR := [(some (.sub (.arg 4) (.int 1)), [(338, .int 4, .index 342), (342, .int 0, .arg 300), (338, .int 5, .index 343), (343, .int 0, .arg 301), (342, .arg 4, .arg 302), (343, .arg 4, .arg 303)], [(.eq, .arg 302, .arg 303, false), (.le, .arg 4, .arg 301, true), (.le, .arg 4, .arg 300, true)], [])]
theorem mpaU_w : ywa mpaU_A mpaU_ss mpaU_rs = true := by decide +kernel
theorem mpaU_k : yis (yev mpaU_A 3000 60 201 [] (73, [(4, .arg 4), (0, .index 338), (1, .arg 1), (2, .arg 2), (3, .arg 3)], [], mpaU_O, mpaU_C, [])) mpaU_ss mpaU_rs = true := by decide +kernel
def mpaU_r (v1_ v2 v3 v4_ v300 v301 v302 v303 : Int32) (k_ : Nat) : Value := bif Nat.beq k_ 1 then .int v1_ else (bif Nat.beq k_ 2 then .int v2 else (bif Nat.beq k_ 3 then .int v3 else (bif Nat.beq k_ 4 then .int v4_ else (bif Nat.beq k_ 300 then .int v300 else (bif Nat.beq k_ 301 then .int v301 else (bif Nat.beq k_ 302 then .int v302 else (bif Nat.beq k_ 303 then .int v303 else (.int 0))))))))
def mpaU_s (n_ : Nat) : Nat := 0
theorem mpaU {h_ : xH} {v1_ v2 v3 v4_ v300 v301 v302 v303 : Int32} (hs : sHp h_) (o0_ : bpat h_ 342 0 = some (.int v300)) (o1 : bpat h_ 343 0 = some (.int v301)) (o2 : bpat h_ 342 (v4_).toInt.toNat = some (.int v302)) (o3_ : bpat h_ 343 (v4_).toInt.toNat = some (.int v303)) (b0 : 0 ≤ (v4_).toInt ∧ (v4_).toInt < 13) (c0_ : ¬ v302 = v303) (c1_ : v4_.toInt ≤ v301.toInt) (c2_ : v4_.toInt ≤ v300.toInt) : ∃ h', ysm h_ h' ∧ (((∀ a_ j_ : Nat, bpat h' a_ j_ = bpat h_ a_ j_) ∧ (∀ D_, 60 ≤ D_ → xrun D_ 201 73 [(4, .int v4_), (0, .index 338), (1, .int v1_), (2, .int v2), (3, .int v3)] [] h_ (some (.int (v4_ - (1 : Int32))), h', [])))) := by
  have hA : yas mpaU_A (mpaU_r v1_ v2 v3 v4_ v300 v301 v302 v303) (yg mpaU_s) := ⟨List.forall_mem_cons.mpr ⟨b0, fun q_ hq => absurd hq List.not_mem_nil⟩, fun q_ hq => absurd hq List.not_mem_nil, fun q_ hq => absurd hq List.not_mem_nil, fun n_ hn => yg_lo hn, fun q_ hq => absurd hq List.not_mem_nil⟩
  have Hs : ysh mpaU_A.1 (yg mpaU_s) h_ := ysh_of2 hs (fun q_ hq => absurd hq List.not_mem_nil)
  have Ho : ymem (mpaU_r v1_ v2 v3 v4_ v300 v301 v302 v303) (yg mpaU_s) mpaU_O h_ := List.forall_mem_cons.mpr ⟨bpat_some (fxr_at hs.2 (show fxk fxl 338 4 = some 342 by decide +kernel)), List.forall_mem_cons.mpr ⟨bpat_some o0_, List.forall_mem_cons.mpr ⟨bpat_some (fxr_at hs.2 (show fxk fxl 338 5 = some 343 by decide +kernel)), List.forall_mem_cons.mpr ⟨bpat_some o1, List.forall_mem_cons.mpr ⟨bpat_some o2, List.forall_mem_cons.mpr ⟨bpat_some o3_, fun q_ hq => absurd hq List.not_mem_nil⟩⟩⟩⟩⟩⟩
  have HC : ∀ q_ ∈ mpaU_C, xhold (mpaU_r v1_ v2 v3 v4_ v300 v301 v302 v303) q_ := List.forall_mem_cons.mpr ⟨xh_eqF2 c0_, List.forall_mem_cons.mpr ⟨xh_leT c1_, List.forall_mem_cons.mpr ⟨xh_leT c2_, fun q_ hq => absurd hq List.not_mem_nil⟩⟩⟩
  rcases yrun (yis_ok mpaU_k) hA Hs Ho HC with ⟨q_, hq, h', K_, G_⟩ | ⟨q_, hq, h', K_, G_⟩
  · cases hq
  · have e_ := List.mem_singleton.mp hq
    subst e_
    exact ⟨h', yfr_sm K_.2.2.2 hs K_.1 (ywa_r mpaU_w List.mem_cons_self), ⟨fun a_ j_ => yfr_bp K_.2.2.2 (fun q_ hq => absurd hq List.not_mem_nil), G_⟩⟩
-- mpaX: 16 steps, 0 ends, 1 returns
def mpaX_L : List (Nat × Nat × Nat) := []
def mpaX_O : yO := [(338, .int 4, .index 342), (342, .int 0, .arg 300), (338, .int 5, .index 343), (343, .int 0, .arg 301)]
def mpaX_A : yA := (yZ mpaX_L, [], [], [], [])
def mpaX_C : List xB := [(.le, .arg 4, .arg 301, false), (.le, .arg 4, .arg 300, true)]
def mpaX_ss : List yS := []
def mpaX_rs : List yR := [(some (.sub (.arg 4) (.int 1)), [(338, .int 4, .index 342), (342, .int 0, .arg 300), (338, .int 5, .index 343), (343, .int 0, .arg 301)], [(.le, .arg 4, .arg 301, false), (.le, .arg 4, .arg 300, true)], [])]
theorem mpaX_w : ywa mpaX_A mpaX_ss mpaX_rs = true := by decide +kernel
theorem mpaX_k : yis (yev mpaX_A 3000 60 201 [] (73, [(4, .arg 4), (0, .index 338), (1, .arg 1), (2, .arg 2), (3, .arg 3)], [], mpaX_O, mpaX_C, [])) mpaX_ss mpaX_rs = true := by decide +kernel
def mpaX_r (v1_ v2 v3 v4_ v300 v301 : Int32) (k_ : Nat) : Value := bif Nat.beq k_ 1 then .int v1_ else (bif Nat.beq k_ 2 then .int v2 else (bif Nat.beq k_ 3 then .int v3 else (bif Nat.beq k_ 4 then .int v4_ else (bif Nat.beq k_ 300 then .int v300 else (bif Nat.beq k_ 301 then .int v301 else (.int 0))))))
def mpaX_s (n_ : Nat) : Nat := 0
theorem mpaX {h_ : xH} {v1_ v2 v3 v4_ v300 v301 : Int32} (hs : sHp h_) (o0_ : bpat h_ 342 0 = some (.int v300)) (o1 : bpat h_ 343 0 = some (.int v301)) (c0_ : v301.toInt < v4_.toInt) (c1_ : v4_.toInt ≤ v300.toInt) : ∃ h', ysm h_ h' ∧ (((∀ a_ j_ : Nat, bpat h' a_ j_ = bpat h_ a_ j_) ∧ (∀ D_, 60 ≤ D_ → xrun D_ 201 73 [(4, .int v4_), (0, .index 338), (1, .int v1_), (2, .int v2), (3, .int v3)] [] h_ (some (.int (v4_ - (1 : Int32))), h', [])))) := by
  have hA : yas mpaX_A (mpaX_r v1_ v2 v3 v4_ v300 v301) (yg mpaX_s) := ⟨fun q_ hq => absurd hq List.not_mem_nil, fun q_ hq => absurd hq List.not_mem_nil, fun q_ hq => absurd hq List.not_mem_nil, fun n_ hn => yg_lo hn, fun q_ hq => absurd hq List.not_mem_nil⟩
  have Hs : ysh mpaX_A.1 (yg mpaX_s) h_ := ysh_of2 hs (fun q_ hq => absurd hq List.not_mem_nil)
  have Ho : ymem (mpaX_r v1_ v2 v3 v4_ v300 v301) (yg mpaX_s) mpaX_O h_ := List.forall_mem_cons.mpr ⟨bpat_some (fxr_at hs.2 (show fxk fxl 338 4 = some 342 by decide +kernel)), List.forall_mem_cons.mpr ⟨bpat_some o0_, List.forall_mem_cons.mpr ⟨bpat_some (fxr_at hs.2 (show fxk fxl 338 5 = some 343 by decide +kernel)), List.forall_mem_cons.mpr ⟨bpat_some o1, fun q_ hq => absurd hq List.not_mem_nil⟩⟩⟩⟩
  have HC : ∀ q_ ∈ mpaX_C, xhold (mpaX_r v1_ v2 v3 v4_ v300 v301) q_ := List.forall_mem_cons.mpr ⟨xh_leF c0_, List.forall_mem_cons.mpr ⟨xh_leT c1_, fun q_ hq => absurd hq List.not_mem_nil⟩⟩
  rcases yrun (yis_ok mpaX_k) hA Hs Ho HC with ⟨q_, hq, h', K_, G_⟩ | ⟨q_, hq, h', K_, G_⟩
  · cases hq
  · have e_ := List.mem_singleton.mp hq
    subst e_
    exact ⟨h', yfr_sm K_.2.2.2 hs K_.1 (ywa_r mpaX_w List.mem_cons_self), ⟨fun a_ j_ => yfr_bp K_.2.2.2 (fun q_ hq => absurd hq List.not_mem_nil), G_⟩⟩
-- mpaY: 10 steps, 0 ends, 1 returns
def mpaY_L : List (Nat × Nat × Nat) := []
def mpaY_O : yO := [(338, .int 4, .index 342), (342, .int 0, .arg 300)]
def mpaY_A : yA := (yZ mpaY_L, [], [], [], [])
def mpaY_C : List xB := [(.le, .arg 4, .arg 300, false)]
def mpaY_ss : List yS := []
def mpaY_rs : List yR := [(some (.sub (.arg 4) (.int 1)), [(338, .int 4, .index 342), (342, .int 0, .arg 300)], [(.le, .arg 4, .arg 300, false)], [])]
theorem mpaY_w : ywa mpaY_A mpaY_ss mpaY_rs = true := by decide +kernel
theorem mpaY_k : yis (yev mpaY_A 3000 60 201 [] (73, [(4, .arg 4), (0, .index 338), (1, .arg 1), (2, .arg 2), (3, .arg 3)], [], mpaY_O, mpaY_C, [])) mpaY_ss mpaY_rs = true := by decide +kernel
def mpaY_r (v1_ v2 v3 v4_ v300 : Int32) (k_ : Nat) : Value := bif Nat.beq k_ 1 then .int v1_ else (bif Nat.beq k_ 2 then .int v2 else (bif Nat.beq k_ 3 then .int v3 else (bif Nat.beq k_ 4 then .int v4_ else (bif Nat.beq k_ 300 then .int v300 else (.int 0)))))
def mpaY_s (n_ : Nat) : Nat := 0
theorem mpaY {h_ : xH} {v1_ v2 v3 v4_ v300 : Int32} (hs : sHp h_) (o0_ : bpat h_ 342 0 = some (.int v300)) (c0_ : v300.toInt < v4_.toInt) : ∃ h', ysm h_ h' ∧ (((∀ a_ j_ : Nat, bpat h' a_ j_ = bpat h_ a_ j_) ∧ (∀ D_, 60 ≤ D_ → xrun D_ 201 73 [(4, .int v4_), (0, .index 338), (1, .int v1_), (2, .int v2), (3, .int v3)] [] h_ (some (.int (v4_ - (1 : Int32))), h', [])))) := by
  have hA : yas mpaY_A (mpaY_r v1_ v2 v3 v4_ v300) (yg mpaY_s) := ⟨fun q_ hq => absurd hq List.not_mem_nil, fun q_ hq => absurd hq List.not_mem_nil, fun q_ hq => absurd hq List.not_mem_nil, fun n_ hn => yg_lo hn, fun q_ hq => absurd hq List.not_mem_nil⟩
  have Hs : ysh mpaY_A.1 (yg mpaY_s) h_ := ysh_of2 hs (fun q_ hq => absurd hq List.not_mem_nil)
  have Ho : ymem (mpaY_r v1_ v2 v3 v4_ v300) (yg mpaY_s) mpaY_O h_ := List.forall_mem_cons.mpr ⟨bpat_some (fxr_at hs.2 (show fxk fxl 338 4 = some 342 by decide +kernel)), List.forall_mem_cons.mpr ⟨bpat_some o0_, fun q_ hq => absurd hq List.not_mem_nil⟩⟩
  have HC : ∀ q_ ∈ mpaY_C, xhold (mpaY_r v1_ v2 v3 v4_ v300) q_ := List.forall_mem_cons.mpr ⟨xh_leF c0_, fun q_ hq => absurd hq List.not_mem_nil⟩
  rcases yrun (yis_ok mpaY_k) hA Hs Ho HC with ⟨q_, hq, h', K_, G_⟩ | ⟨q_, hq, h', K_, G_⟩
  · cases hq
  · have e_ := List.mem_singleton.mp hq
    subst e_
    exact ⟨h', yfr_sm K_.2.2.2 hs K_.1 (ywa_r mpaY_w List.mem_cons_self), ⟨fun a_ j_ => yfr_bp K_.2.2.2 (fun q_ hq => absurd hq List.not_mem_nil), G_⟩⟩
-- xckE: 73 steps, 1 ends, 2 returns
def xckE_L : List (Nat × Nat × Nat) := []
def xckE_O : yO := [(0, .int 0, .index 1), (1, .int 9, .arg 310), (1, .int 4, .index 7), (0, .int 13, .index 323), (323, .int 1, .arg 400), (0, .int 8, .index 314)]
def xckE_A : yA := (yZ xckE_L, [], [], [], [])
def xckE_C : List xB := []
def xckE_ss : List yS := [(17, [(0, .index 0), (1, .arg 1), (2, .arg 2)], [.index 314, .arg 2, .index 1], [(0, .int 0, .index 1), (1, .int 9, .arg 310), (1, .int 4, .index 7), (0, .int 13, .index 323), (323, .int 1, .arg 400), (0, .int 8, .index 314)], [(.lt, .arg 1, .arg 310, true), (.lt, .arg 1, .int 0, false)], [])]
def xckE_rs : List yR := [(some (.int (Int32.ofInt (-1000001))), [(323, .int 1, .add (.arg 400) (.int 1)), (7, .int 1, .int 0), (0, .int 0, .index 1), (1, .int 9, .arg 310), (1, .int 4, .index 7), (0, .int 13, .index 323), (0, .int 8, .index 314)], [(.lt, .arg 1, .int 0, true)], [(323, .int 1), (7, .int 1)]),
  (some (.int (Int32.ofInt (-1000001))), [(323, .int 1, .add (.arg 400) (.int 1)), (7, .int 1, .int 0), (0, .int 0, .index 1), (1, .int 9, .arg 310), (1, .int 4, .index 7), (0, .int 13, .index 323), (0, .int 8, .index 314)], [(.lt, .arg 1, .arg 310, false), (.lt, .arg 1, .int 0, false)], [(323, .int 1), (7, .int 1)])]
theorem xckE_w : ywa xckE_A xckE_ss xckE_rs = true := by decide +kernel
theorem xckE_k : yis (yev xckE_A 3000 60 115 [17] (0, [(0, .index 0), (1, .arg 1), (2, .arg 2)], [], xckE_O, xckE_C, [])) xckE_ss xckE_rs = true := by decide +kernel
def xckE_r (v1_ v2 v310 v400 : Int32) (k_ : Nat) : Value := bif Nat.beq k_ 1 then .int v1_ else (bif Nat.beq k_ 2 then .int v2 else (bif Nat.beq k_ 310 then .int v310 else (bif Nat.beq k_ 400 then .int v400 else (.int 0))))
def xckE_s (n_ : Nat) : Nat := 0
theorem xckE {h_ : xH} {v1_ v2 v310 v400 : Int32} (hs : sHp h_) (o0_ : bpat h_ 1 9 = some (.int v310)) (o1 : bpat h_ 323 1 = some (.int v400)) : ∃ h', ysm h_ h' ∧ (((v1_.toInt < v310.toInt) ∧ ((0 : Int32).toInt ≤ v1_.toInt) ∧ (∀ a_ j_ : Nat, bpat h' a_ j_ = bpat h_ a_ j_) ∧ (bldD 60 115 0 [(0, .index 0), (1, .int v1_), (2, .int v2)] [] h_ 17 [(0, .index 0), (1, .int v1_), (2, .int v2)] [.index 314, .int v2, .index 1] h'))
  ∨ ((v1_.toInt < (0 : Int32).toInt) ∧ (bpat h' 323 1 = some (.int (v400 + (1 : Int32)))) ∧ (bpat h' 7 1 = some (.int (0 : Int32))) ∧ (∀ a_ j_ : Nat, ¬ (a_ = 323 ∧ j_ = 1) → ¬ (a_ = 7 ∧ j_ = 1) → bpat h' a_ j_ = bpat h_ a_ j_) ∧ (∀ D_, 60 ≤ D_ → xrun D_ 115 0 [(0, .index 0), (1, .int v1_), (2, .int v2)] [] h_ (some (.int (Int32.ofInt (-1000001))), h', [])))
  ∨ ((v310.toInt ≤ v1_.toInt) ∧ ((0 : Int32).toInt ≤ v1_.toInt) ∧ (bpat h' 323 1 = some (.int (v400 + (1 : Int32)))) ∧ (bpat h' 7 1 = some (.int (0 : Int32))) ∧ (∀ a_ j_ : Nat, ¬ (a_ = 323 ∧ j_ = 1) → ¬ (a_ = 7 ∧ j_ = 1) → bpat h' a_ j_ = bpat h_ a_ j_) ∧ (∀ D_, 60 ≤ D_ → xrun D_ 115 0 [(0, .index 0), (1, .int v1_), (2, .int v2)] [] h_ (some (.int (Int32.ofInt (-1000001))), h', [])))) := by
  have hA : yas xckE_A (xckE_r v1_ v2 v310 v400) (yg xckE_s) := ⟨fun q_ hq => absurd hq List.not_mem_nil, fun q_ hq => absurd hq List.not_mem_nil, fun q_ hq => absurd hq List.not_mem_nil, fun n_ hn => yg_lo hn, fun q_ hq => absurd hq List.not_mem_nil⟩
  have Hs : ysh xckE_A.1 (yg xckE_s) h_ := ysh_of2 hs (fun q_ hq => absurd hq List.not_mem_nil)
  have Ho : ymem (xckE_r v1_ v2 v310 v400) (yg xckE_s) xckE_O h_ := List.forall_mem_cons.mpr ⟨bpat_some (fxr_at hs.2 (show fxk fxl 0 0 = some 1 by decide +kernel)), List.forall_mem_cons.mpr ⟨bpat_some o0_, List.forall_mem_cons.mpr ⟨bpat_some (fxr_at hs.2 (show fxk fxl 1 4 = some 7 by decide +kernel)), List.forall_mem_cons.mpr ⟨bpat_some (fxr_at hs.2 (show fxk fxl 0 13 = some 323 by decide +kernel)), List.forall_mem_cons.mpr ⟨bpat_some o1, List.forall_mem_cons.mpr ⟨bpat_some (fxr_at hs.2 (show fxk fxl 0 8 = some 314 by decide +kernel)), fun q_ hq => absurd hq List.not_mem_nil⟩⟩⟩⟩⟩⟩
  have HC : ∀ q_ ∈ xckE_C, xhold (xckE_r v1_ v2 v310 v400) q_ := fun q_ hq => absurd hq List.not_mem_nil
  rcases yrun (yis_ok xckE_k) hA Hs Ho HC with ⟨q_, hq, h', K_, G_⟩ | ⟨q_, hq, h', K_, G_⟩
  · have e_ := List.mem_singleton.mp hq
    subst e_
    exact ⟨h', yfr_sm K_.2.2.2 hs K_.1 (ywa_s xckE_w List.mem_cons_self), Or.inl (⟨xq_ltT rfl rfl (K_.2.2.1 _ List.mem_cons_self), xq_ltF rfl rfl (K_.2.2.1 _ (List.mem_cons_of_mem _ List.mem_cons_self)), fun a_ j_ => yfr_bp K_.2.2.2 (fun q_ hq => absurd hq List.not_mem_nil), G_⟩)⟩
  · rcases List.mem_cons.mp hq with e_ | hq
    · subst e_
      exact ⟨h', yfr_sm K_.2.2.2 hs K_.1 (ywa_r xckE_w List.mem_cons_self), Or.inr (Or.inl (⟨xq_ltT rfl rfl (K_.2.2.1 _ List.mem_cons_self), bpat_of (K_.2.1 _ List.mem_cons_self), bpat_of (K_.2.1 _ (List.mem_cons_of_mem _ List.mem_cons_self)), fun a_ j_ n0_ n1_ => yfr_bp K_.2.2.2 (List.forall_mem_cons.mpr ⟨fun e_ => n0_ ⟨e_.1.symm, e_.2.symm⟩, List.forall_mem_cons.mpr ⟨fun e_ => n1_ ⟨e_.1.symm, e_.2.symm⟩, fun q_ hq => absurd hq List.not_mem_nil⟩⟩), G_⟩))⟩
    have e_ := List.mem_singleton.mp hq
    subst e_
    exact ⟨h', yfr_sm K_.2.2.2 hs K_.1 (ywa_r xckE_w (List.mem_cons_of_mem _ List.mem_cons_self)), Or.inr (Or.inr (⟨xq_ltF rfl rfl (K_.2.2.1 _ List.mem_cons_self), xq_ltF rfl rfl (K_.2.2.1 _ (List.mem_cons_of_mem _ List.mem_cons_self)), bpat_of (K_.2.1 _ List.mem_cons_self), bpat_of (K_.2.1 _ (List.mem_cons_of_mem _ List.mem_cons_self)), fun a_ j_ n0_ n1_ => yfr_bp K_.2.2.2 (List.forall_mem_cons.mpr ⟨fun e_ => n0_ ⟨e_.1.symm, e_.2.symm⟩, List.forall_mem_cons.mpr ⟨fun e_ => n1_ ⟨e_.1.symm, e_.2.symm⟩, fun q_ hq => absurd hq List.not_mem_nil⟩⟩), G_⟩))⟩
-- xckF: 25 steps, 0 ends, 1 returns
def xckF_L : List (Nat × Nat × Nat) := []
def xckF_O : yO := [(0, .int 0, .index 1), (1, .int 4, .index 7), (0, .int 13, .index 323), (323, .int 1, .arg 400)]
def xckF_A : yA := (yZ xckF_L, [], [], [], [])
def xckF_C : List xB := []
def xckF_ss : List yS := []
def xckF_rs : List yR := [(some (.int (Int32.ofInt (-1000001))), [(323, .int 1, .add (.arg 400) (.int 1)), (7, .int 1, .int 0), (0, .int 0, .index 1), (1, .int 4, .index 7), (0, .int 13, .index 323)], [], [(323, .int 1), (7, .int 1)])]
theorem xckF_w : ywa xckF_A xckF_ss xckF_rs = true := by decide +kernel
theorem xckF_k : yis (yev xckF_A 3000 60 115 [] (20, [(0, .index 0), (1, .arg 1), (2, .arg 2)], [.int 0], xckF_O, xckF_C, [])) xckF_ss xckF_rs = true := by decide +kernel
def xckF_r (v1_ v2 v400 : Int32) (k_ : Nat) : Value := bif Nat.beq k_ 1 then .int v1_ else (bif Nat.beq k_ 2 then .int v2 else (bif Nat.beq k_ 400 then .int v400 else (.int 0)))
def xckF_s (n_ : Nat) : Nat := 0
theorem xckF {h_ : xH} {v1_ v2 v400 : Int32} (hs : sHp h_) (o0_ : bpat h_ 323 1 = some (.int v400)) : ∃ h', ysm h_ h' ∧ (((bpat h' 323 1 = some (.int (v400 + (1 : Int32)))) ∧ (bpat h' 7 1 = some (.int (0 : Int32))) ∧ (∀ a_ j_ : Nat, ¬ (a_ = 323 ∧ j_ = 1) → ¬ (a_ = 7 ∧ j_ = 1) → bpat h' a_ j_ = bpat h_ a_ j_) ∧ (∀ D_, 60 ≤ D_ → xrun D_ 115 20 [(0, .index 0), (1, .int v1_), (2, .int v2)] [.int (0 : Int32)] h_ (some (.int (Int32.ofInt (-1000001))), h', [])))) := by
  have hA : yas xckF_A (xckF_r v1_ v2 v400) (yg xckF_s) := ⟨fun q_ hq => absurd hq List.not_mem_nil, fun q_ hq => absurd hq List.not_mem_nil, fun q_ hq => absurd hq List.not_mem_nil, fun n_ hn => yg_lo hn, fun q_ hq => absurd hq List.not_mem_nil⟩
  have Hs : ysh xckF_A.1 (yg xckF_s) h_ := ysh_of2 hs (fun q_ hq => absurd hq List.not_mem_nil)
  have Ho : ymem (xckF_r v1_ v2 v400) (yg xckF_s) xckF_O h_ := List.forall_mem_cons.mpr ⟨bpat_some (fxr_at hs.2 (show fxk fxl 0 0 = some 1 by decide +kernel)), List.forall_mem_cons.mpr ⟨bpat_some (fxr_at hs.2 (show fxk fxl 1 4 = some 7 by decide +kernel)), List.forall_mem_cons.mpr ⟨bpat_some (fxr_at hs.2 (show fxk fxl 0 13 = some 323 by decide +kernel)), List.forall_mem_cons.mpr ⟨bpat_some o0_, fun q_ hq => absurd hq List.not_mem_nil⟩⟩⟩⟩
  have HC : ∀ q_ ∈ xckF_C, xhold (xckF_r v1_ v2 v400) q_ := fun q_ hq => absurd hq List.not_mem_nil
  rcases yrun (yis_ok xckF_k) hA Hs Ho HC with ⟨q_, hq, h', K_, G_⟩ | ⟨q_, hq, h', K_, G_⟩
  · cases hq
  · have e_ := List.mem_singleton.mp hq
    subst e_
    exact ⟨h', yfr_sm K_.2.2.2 hs K_.1 (ywa_r xckF_w List.mem_cons_self), ⟨bpat_of (K_.2.1 _ List.mem_cons_self), bpat_of (K_.2.1 _ (List.mem_cons_of_mem _ List.mem_cons_self)), fun a_ j_ n0_ n1_ => yfr_bp K_.2.2.2 (List.forall_mem_cons.mpr ⟨fun e_ => n0_ ⟨e_.1.symm, e_.2.symm⟩, List.forall_mem_cons.mpr ⟨fun e_ => n1_ ⟨e_.1.symm, e_.2.symm⟩, fun q_ hq => absurd hq List.not_mem_nil⟩⟩), G_⟩⟩
-- xckG: 12 steps, 1 ends, 0 returns
def xckG_L : List (Nat × Nat × Nat) := [(1000, 6, 2)]
def xckG_O : yO := [(0, .int 0, .index 1), (1, .int 0, .index 2), (2, .arg 1, .index 1000), (0, .int 8, .index 314), (0, .int 10, .index 318)]
def xckG_A : yA := (yZ xckG_L, [(.arg 1, 12)], [], [], [])
def xckG_C : List xB := []
def xckG_ss : List yS := [(60, [(0, .index 0), (1, .arg 1), (2, .arg 2)], [.index 318, .index 314, .index 1000, .index 1], [(0, .int 0, .index 1), (1, .int 0, .index 2), (2, .arg 1, .index 1000), (0, .int 8, .index 314), (0, .int 10, .index 318)], [], [])]
def xckG_rs : List yR := []
theorem xckG_w : ywa xckG_A xckG_ss xckG_rs = true := by decide +kernel
theorem xckG_k : yis (yev xckG_A 3000 60 115 [60] (20, [(0, .index 0), (1, .arg 1), (2, .arg 2)], [.int 1], xckG_O, xckG_C, [])) xckG_ss xckG_rs = true := by decide +kernel
def xckG_r (v1_ v2 : Int32) (k_ : Nat) : Value := bif Nat.beq k_ 1 then .int v1_ else (bif Nat.beq k_ 2 then .int v2 else (.int 0))
def xckG_s (a1000 : Nat) (n_ : Nat) : Nat := bif Nat.beq n_ 1000 then a1000 else (0)
theorem xckG {h_ : xH} {a1000 : Nat} {v1_ v2 : Int32} (hs : sHp h_) (k1000 : bcq h_ a1000 6 2) (o0_ : bpat h_ 2 (v1_).toInt.toNat = some (.index a1000)) (b0 : 0 ≤ (v1_).toInt ∧ (v1_).toInt < 12) : ∃ h', ysm h_ h' ∧ (((∀ a_ j_ : Nat, bpat h' a_ j_ = bpat h_ a_ j_) ∧ (bldD 60 115 20 [(0, .index 0), (1, .int v1_), (2, .int v2)] [.int (1 : Int32)] h_ 60 [(0, .index 0), (1, .int v1_), (2, .int v2)] [.index 318, .index 314, .index a1000, .index 1] h'))) := by
  have hA : yas xckG_A (xckG_r v1_ v2) (yg (xckG_s a1000)) := ⟨List.forall_mem_cons.mpr ⟨b0, fun q_ hq => absurd hq List.not_mem_nil⟩, fun q_ hq => absurd hq List.not_mem_nil, fun q_ hq => absurd hq List.not_mem_nil, fun n_ hn => yg_lo hn, fun q_ hq => absurd hq List.not_mem_nil⟩
  have Hs : ysh xckG_A.1 (yg (xckG_s a1000)) h_ := ysh_of2 hs (List.forall_mem_cons.mpr ⟨⟨by decide, k1000⟩, fun q_ hq => absurd hq List.not_mem_nil⟩)
  have Ho : ymem (xckG_r v1_ v2) (yg (xckG_s a1000)) xckG_O h_ := List.forall_mem_cons.mpr ⟨bpat_some (fxr_at hs.2 (show fxk fxl 0 0 = some 1 by decide +kernel)), List.forall_mem_cons.mpr ⟨bpat_some (fxr_at hs.2 (show fxk fxl 1 0 = some 2 by decide +kernel)), List.forall_mem_cons.mpr ⟨bpat_some o0_, List.forall_mem_cons.mpr ⟨bpat_some (fxr_at hs.2 (show fxk fxl 0 8 = some 314 by decide +kernel)), List.forall_mem_cons.mpr ⟨bpat_some (fxr_at hs.2 (show fxk fxl 0 10 = some 318 by decide +kernel)), fun q_ hq => absurd hq List.not_mem_nil⟩⟩⟩⟩⟩
  have HC : ∀ q_ ∈ xckG_C, xhold (xckG_r v1_ v2) q_ := fun q_ hq => absurd hq List.not_mem_nil
  rcases yrun (yis_ok xckG_k) hA Hs Ho HC with ⟨q_, hq, h', K_, G_⟩ | ⟨q_, hq, h', K_, G_⟩
  · have e_ := List.mem_singleton.mp hq
    subst e_
    exact ⟨h', yfr_sm K_.2.2.2 hs K_.1 (ywa_s xckG_w List.mem_cons_self), ⟨fun a_ j_ => yfr_bp K_.2.2.2 (fun q_ hq => absurd hq List.not_mem_nil), G_⟩⟩
  · cases hq
-- xckH: 5 steps, 1 ends, 0 returns
def xckH_L : List (Nat × Nat × Nat) := []
def xckH_O : yO := [(0, .int 0, .index 1), (1, .int 4, .index 7), (0, .int 10, .index 318)]
def xckH_A : yA := (yZ xckH_L, [], [], [], [])
def xckH_C : List xB := []
def xckH_ss : List yS := [(74, [(0, .index 0), (1, .arg 1), (2, .arg 2)], [.index 318, .index 7], [(0, .int 0, .index 1), (1, .int 4, .index 7), (0, .int 10, .index 318)], [], [])]
def xckH_rs : List yR := []
theorem xckH_w : ywa xckH_A xckH_ss xckH_rs = true := by decide +kernel
theorem xckH_k : yis (yev xckH_A 3000 60 115 [74] (63, [(0, .index 0), (1, .arg 1), (2, .arg 2)], [], xckH_O, xckH_C, [])) xckH_ss xckH_rs = true := by decide +kernel
def xckH_r (v1_ v2 : Int32) (k_ : Nat) : Value := bif Nat.beq k_ 1 then .int v1_ else (bif Nat.beq k_ 2 then .int v2 else (.int 0))
def xckH_s (n_ : Nat) : Nat := 0
theorem xckH {h_ : xH} {v1_ v2 : Int32} (hs : sHp h_) : ∃ h', ysm h_ h' ∧ (((∀ a_ j_ : Nat, bpat h' a_ j_ = bpat h_ a_ j_) ∧ (bldD 60 115 63 [(0, .index 0), (1, .int v1_), (2, .int v2)] [] h_ 74 [(0, .index 0), (1, .int v1_), (2, .int v2)] [.index 318, .index 7] h'))) := by
  have hA : yas xckH_A (xckH_r v1_ v2) (yg xckH_s) := ⟨fun q_ hq => absurd hq List.not_mem_nil, fun q_ hq => absurd hq List.not_mem_nil, fun q_ hq => absurd hq List.not_mem_nil, fun n_ hn => yg_lo hn, fun q_ hq => absurd hq List.not_mem_nil⟩
  have Hs : ysh xckH_A.1 (yg xckH_s) h_ := ysh_of2 hs (fun q_ hq => absurd hq List.not_mem_nil)
  have Ho : ymem (xckH_r v1_ v2) (yg xckH_s) xckH_O h_ := List.forall_mem_cons.mpr ⟨bpat_some (fxr_at hs.2 (show fxk fxl 0 0 = some 1 by decide +kernel)), List.forall_mem_cons.mpr ⟨bpat_some (fxr_at hs.2 (show fxk fxl 1 4 = some 7 by decide +kernel)), List.forall_mem_cons.mpr ⟨bpat_some (fxr_at hs.2 (show fxk fxl 0 10 = some 318 by decide +kernel)), fun q_ hq => absurd hq List.not_mem_nil⟩⟩⟩
  have HC : ∀ q_ ∈ xckH_C, xhold (xckH_r v1_ v2) q_ := fun q_ hq => absurd hq List.not_mem_nil
  rcases yrun (yis_ok xckH_k) hA Hs Ho HC with ⟨q_, hq, h', K_, G_⟩ | ⟨q_, hq, h', K_, G_⟩
  · have e_ := List.mem_singleton.mp hq
    subst e_
    exact ⟨h', yfr_sm K_.2.2.2 hs K_.1 (ywa_s xckH_w List.mem_cons_self), ⟨fun a_ j_ => yfr_bp K_.2.2.2 (fun q_ hq => absurd hq List.not_mem_nil), G_⟩⟩
  · cases hq
-- xckR: 13 steps, 0 ends, 1 returns
def xckR_L : List (Nat × Nat × Nat) := []
def xckR_O : yO := [(0, .int 0, .index 1), (1, .int 4, .index 7)]
def xckR_A : yA := (yZ xckR_L, [], [], [], [])
def xckR_C : List xB := []
def xckR_ss : List yS := []
def xckR_rs : List yR := [(some (.add (.int 1) (.arg 5)), [(7, .int 1, .int 0), (0, .int 0, .index 1), (1, .int 4, .index 7)], [], [(7, .int 1)])]
theorem xckR_w : ywa xckR_A xckR_ss xckR_rs = true := by decide +kernel
theorem xckR_k : yis (yev xckR_A 3000 60 115 [] (77, [(0, .index 0), (1, .arg 1), (2, .arg 2)], [.arg 5], xckR_O, xckR_C, [])) xckR_ss xckR_rs = true := by decide +kernel
def xckR_r (v1_ v2 v5 : Int32) (k_ : Nat) : Value := bif Nat.beq k_ 1 then .int v1_ else (bif Nat.beq k_ 2 then .int v2 else (bif Nat.beq k_ 5 then .int v5 else (.int 0)))
def xckR_s (n_ : Nat) : Nat := 0
theorem xckR {h_ : xH} {v1_ v2 v5 : Int32} (hs : sHp h_) : ∃ h', ysm h_ h' ∧ (((bpat h' 7 1 = some (.int (0 : Int32))) ∧ (∀ a_ j_ : Nat, ¬ (a_ = 7 ∧ j_ = 1) → bpat h' a_ j_ = bpat h_ a_ j_) ∧ (∀ D_, 60 ≤ D_ → xrun D_ 115 77 [(0, .index 0), (1, .int v1_), (2, .int v2)] [.int v5] h_ (some (.int ((1 : Int32) + v5)), h', [])))) := by
  have hA : yas xckR_A (xckR_r v1_ v2 v5) (yg xckR_s) := ⟨fun q_ hq => absurd hq List.not_mem_nil, fun q_ hq => absurd hq List.not_mem_nil, fun q_ hq => absurd hq List.not_mem_nil, fun n_ hn => yg_lo hn, fun q_ hq => absurd hq List.not_mem_nil⟩
  have Hs : ysh xckR_A.1 (yg xckR_s) h_ := ysh_of2 hs (fun q_ hq => absurd hq List.not_mem_nil)
  have Ho : ymem (xckR_r v1_ v2 v5) (yg xckR_s) xckR_O h_ := List.forall_mem_cons.mpr ⟨bpat_some (fxr_at hs.2 (show fxk fxl 0 0 = some 1 by decide +kernel)), List.forall_mem_cons.mpr ⟨bpat_some (fxr_at hs.2 (show fxk fxl 1 4 = some 7 by decide +kernel)), fun q_ hq => absurd hq List.not_mem_nil⟩⟩
  have HC : ∀ q_ ∈ xckR_C, xhold (xckR_r v1_ v2 v5) q_ := fun q_ hq => absurd hq List.not_mem_nil
  rcases yrun (yis_ok xckR_k) hA Hs Ho HC with ⟨q_, hq, h', K_, G_⟩ | ⟨q_, hq, h', K_, G_⟩
  · cases hq
  · have e_ := List.mem_singleton.mp hq
    subst e_
    exact ⟨h', yfr_sm K_.2.2.2 hs K_.1 (ywa_r xckR_w List.mem_cons_self), ⟨bpat_of (K_.2.1 _ List.mem_cons_self), fun a_ j_ n0_ => yfr_bp K_.2.2.2 (List.forall_mem_cons.mpr ⟨fun e_ => n0_ ⟨e_.1.symm, e_.2.symm⟩, fun q_ hq => absurd hq List.not_mem_nil⟩), G_⟩⟩
-- mckE: 75 steps, 1 ends, 2 returns
def mckE_L : List (Nat × Nat × Nat) := []
def mckE_O : yO := [(338, .int 0, .index 339), (339, .int 7, .arg 307), (339, .int 0, .arg 310), (338, .int 3, .index 341), (341, .int 1, .arg 400)]
def mckE_A : yA := (yZ mckE_L, [], [], [], [])
def mckE_C : List xB := []
def mckE_ss : List yS := [(26, [(3, .arg 307), (0, .index 338), (1, .arg 1), (2, .arg 2)], [.arg 2, .index 338], [(339, .int 7, .int 0), (338, .int 0, .index 339), (339, .int 0, .arg 310), (338, .int 3, .index 341), (341, .int 1, .arg 400)], [(.le, .arg 1, .sub (.arg 310) (.int 1), true), (.lt, .arg 1, .int 0, false)], [(339, .int 7)])]
def mckE_rs : List yR := [(some (.int (Int32.ofInt (-1000001))), [(341, .int 1, .add (.arg 400) (.int 1)), (339, .int 7, .int 0), (338, .int 0, .index 339), (339, .int 0, .arg 310), (338, .int 3, .index 341)], [(.lt, .arg 1, .int 0, true)], [(341, .int 1), (339, .int 7)]),
  (some (.int (Int32.ofInt (-1000001))), [(341, .int 1, .add (.arg 400) (.int 1)), (339, .int 7, .int 0), (338, .int 0, .index 339), (339, .int 0, .arg 310), (338, .int 3, .index 341)], [(.le, .arg 1, .sub (.arg 310) (.int 1), false), (.lt, .arg 1, .int 0, false)], [(341, .int 1), (339, .int 7)])]
theorem mckE_w : ywa mckE_A mckE_ss mckE_rs = true := by decide +kernel
theorem mckE_k : yis (yev mckE_A 3000 60 235 [26] (0, [(0, .index 338), (1, .arg 1), (2, .arg 2)], [], mckE_O, mckE_C, [])) mckE_ss mckE_rs = true := by decide +kernel
def mckE_r (v1_ v2 v307 v310 v400 : Int32) (k_ : Nat) : Value := bif Nat.beq k_ 1 then .int v1_ else (bif Nat.beq k_ 2 then .int v2 else (bif Nat.beq k_ 307 then .int v307 else (bif Nat.beq k_ 310 then .int v310 else (bif Nat.beq k_ 400 then .int v400 else (.int 0)))))
def mckE_s (n_ : Nat) : Nat := 0
theorem mckE {h_ : xH} {v1_ v2 v307 v310 v400 : Int32} (hs : sHp h_) (o0_ : bpat h_ 339 7 = some (.int v307)) (o1 : bpat h_ 339 0 = some (.int v310)) (o2 : bpat h_ 341 1 = some (.int v400)) : ∃ h', ysm h_ h' ∧ (((v1_.toInt ≤ (v310 - (1 : Int32)).toInt) ∧ ((0 : Int32).toInt ≤ v1_.toInt) ∧ (bpat h' 339 7 = some (.int (0 : Int32))) ∧ (∀ a_ j_ : Nat, ¬ (a_ = 339 ∧ j_ = 7) → bpat h' a_ j_ = bpat h_ a_ j_) ∧ (bldD 60 235 0 [(0, .index 338), (1, .int v1_), (2, .int v2)] [] h_ 26 [(3, .int v307), (0, .index 338), (1, .int v1_), (2, .int v2)] [.int v2, .index 338] h'))
  ∨ ((v1_.toInt < (0 : Int32).toInt) ∧ (bpat h' 341 1 = some (.int (v400 + (1 : Int32)))) ∧ (bpat h' 339 7 = some (.int (0 : Int32))) ∧ (∀ a_ j_ : Nat, ¬ (a_ = 341 ∧ j_ = 1) → ¬ (a_ = 339 ∧ j_ = 7) → bpat h' a_ j_ = bpat h_ a_ j_) ∧ (∀ D_, 60 ≤ D_ → xrun D_ 235 0 [(0, .index 338), (1, .int v1_), (2, .int v2)] [] h_ (some (.int (Int32.ofInt (-1000001))), h', [])))
  ∨ (((v310 - (1 : Int32)).toInt < v1_.toInt) ∧ ((0 : Int32).toInt ≤ v1_.toInt) ∧ (bpat h' 341 1 = some (.int (v400 + (1 : Int32)))) ∧ (bpat h' 339 7 = some (.int (0 : Int32))) ∧ (∀ a_ j_ : Nat, ¬ (a_ = 341 ∧ j_ = 1) → ¬ (a_ = 339 ∧ j_ = 7) → bpat h' a_ j_ = bpat h_ a_ j_) ∧ (∀ D_, 60 ≤ D_ → xrun D_ 235 0 [(0, .index 338), (1, .int v1_), (2, .int v2)] [] h_ (some (.int (Int32.ofInt (-1000001))), h', [])))) := by
  have hA : yas mckE_A (mckE_r v1_ v2 v307 v310 v400) (yg mckE_s) := ⟨fun q_ hq => absurd hq List.not_mem_nil, fun q_ hq => absurd hq List.not_mem_nil, fun q_ hq => absurd hq List.not_mem_nil, fun n_ hn => yg_lo hn, fun q_ hq => absurd hq List.not_mem_nil⟩
  have Hs : ysh mckE_A.1 (yg mckE_s) h_ := ysh_of2 hs (fun q_ hq => absurd hq List.not_mem_nil)
  have Ho : ymem (mckE_r v1_ v2 v307 v310 v400) (yg mckE_s) mckE_O h_ := List.forall_mem_cons.mpr ⟨bpat_some (fxr_at hs.2 (show fxk fxl 338 0 = some 339 by decide +kernel)), List.forall_mem_cons.mpr ⟨bpat_some o0_, List.forall_mem_cons.mpr ⟨bpat_some o1, List.forall_mem_cons.mpr ⟨bpat_some (fxr_at hs.2 (show fxk fxl 338 3 = some 341 by decide +kernel)), List.forall_mem_cons.mpr ⟨bpat_some o2, fun q_ hq => absurd hq List.not_mem_nil⟩⟩⟩⟩⟩
  have HC : ∀ q_ ∈ mckE_C, xhold (mckE_r v1_ v2 v307 v310 v400) q_ := fun q_ hq => absurd hq List.not_mem_nil
  rcases yrun (yis_ok mckE_k) hA Hs Ho HC with ⟨q_, hq, h', K_, G_⟩ | ⟨q_, hq, h', K_, G_⟩
  · have e_ := List.mem_singleton.mp hq
    subst e_
    exact ⟨h', yfr_sm K_.2.2.2 hs K_.1 (ywa_s mckE_w List.mem_cons_self), Or.inl (⟨xq_leT rfl (yv_sub2 rfl rfl) (K_.2.2.1 _ List.mem_cons_self), xq_ltF rfl rfl (K_.2.2.1 _ (List.mem_cons_of_mem _ List.mem_cons_self)), bpat_of (K_.2.1 _ List.mem_cons_self), fun a_ j_ n0_ => yfr_bp K_.2.2.2 (List.forall_mem_cons.mpr ⟨fun e_ => n0_ ⟨e_.1.symm, e_.2.symm⟩, fun q_ hq => absurd hq List.not_mem_nil⟩), G_⟩)⟩
  · rcases List.mem_cons.mp hq with e_ | hq
    · subst e_
      exact ⟨h', yfr_sm K_.2.2.2 hs K_.1 (ywa_r mckE_w List.mem_cons_self), Or.inr (Or.inl (⟨xq_ltT rfl rfl (K_.2.2.1 _ List.mem_cons_self), bpat_of (K_.2.1 _ List.mem_cons_self), bpat_of (K_.2.1 _ (List.mem_cons_of_mem _ List.mem_cons_self)), fun a_ j_ n0_ n1_ => yfr_bp K_.2.2.2 (List.forall_mem_cons.mpr ⟨fun e_ => n0_ ⟨e_.1.symm, e_.2.symm⟩, List.forall_mem_cons.mpr ⟨fun e_ => n1_ ⟨e_.1.symm, e_.2.symm⟩, fun q_ hq => absurd hq List.not_mem_nil⟩⟩), G_⟩))⟩
    have e_ := List.mem_singleton.mp hq
    subst e_
    exact ⟨h', yfr_sm K_.2.2.2 hs K_.1 (ywa_r mckE_w (List.mem_cons_of_mem _ List.mem_cons_self)), Or.inr (Or.inr (⟨xq_leF rfl (yv_sub2 rfl rfl) (K_.2.2.1 _ List.mem_cons_self), xq_ltF rfl rfl (K_.2.2.1 _ (List.mem_cons_of_mem _ List.mem_cons_self)), bpat_of (K_.2.1 _ List.mem_cons_self), bpat_of (K_.2.1 _ (List.mem_cons_of_mem _ List.mem_cons_self)), fun a_ j_ n0_ n1_ => yfr_bp K_.2.2.2 (List.forall_mem_cons.mpr ⟨fun e_ => n0_ ⟨e_.1.symm, e_.2.symm⟩, List.forall_mem_cons.mpr ⟨fun e_ => n1_ ⟨e_.1.symm, e_.2.symm⟩, fun q_ hq => absurd hq List.not_mem_nil⟩⟩), G_⟩))⟩
-- mckF: 17 steps, 0 ends, 1 returns
def mckF_L : List (Nat × Nat × Nat) := []
def mckF_O : yO := [(338, .int 3, .index 341), (341, .int 1, .arg 400)]
def mckF_A : yA := (yZ mckF_L, [], [], [], [])
def mckF_C : List xB := []
def mckF_ss : List yS := []
def mckF_rs : List yR := [(some (.int (Int32.ofInt (-1000001))), [(341, .int 1, .add (.arg 400) (.int 1)), (338, .int 3, .index 341)], [], [(341, .int 1)])]
theorem mckF_w : ywa mckF_A mckF_ss mckF_rs = true := by decide +kernel
theorem mckF_k : yis (yev mckF_A 3000 60 235 [] (29, [(3, .arg 3), (0, .index 338), (1, .arg 1), (2, .arg 2)], [.int 0], mckF_O, mckF_C, [])) mckF_ss mckF_rs = true := by decide +kernel
def mckF_r (v1_ v2 v3 v400 : Int32) (k_ : Nat) : Value := bif Nat.beq k_ 1 then .int v1_ else (bif Nat.beq k_ 2 then .int v2 else (bif Nat.beq k_ 3 then .int v3 else (bif Nat.beq k_ 400 then .int v400 else (.int 0))))
def mckF_s (n_ : Nat) : Nat := 0
theorem mckF {h_ : xH} {v1_ v2 v3 v400 : Int32} (hs : sHp h_) (o0_ : bpat h_ 341 1 = some (.int v400)) : ∃ h', ysm h_ h' ∧ (((bpat h' 341 1 = some (.int (v400 + (1 : Int32)))) ∧ (∀ a_ j_ : Nat, ¬ (a_ = 341 ∧ j_ = 1) → bpat h' a_ j_ = bpat h_ a_ j_) ∧ (∀ D_, 60 ≤ D_ → xrun D_ 235 29 [(3, .int v3), (0, .index 338), (1, .int v1_), (2, .int v2)] [.int (0 : Int32)] h_ (some (.int (Int32.ofInt (-1000001))), h', [])))) := by
  have hA : yas mckF_A (mckF_r v1_ v2 v3 v400) (yg mckF_s) := ⟨fun q_ hq => absurd hq List.not_mem_nil, fun q_ hq => absurd hq List.not_mem_nil, fun q_ hq => absurd hq List.not_mem_nil, fun n_ hn => yg_lo hn, fun q_ hq => absurd hq List.not_mem_nil⟩
  have Hs : ysh mckF_A.1 (yg mckF_s) h_ := ysh_of2 hs (fun q_ hq => absurd hq List.not_mem_nil)
  have Ho : ymem (mckF_r v1_ v2 v3 v400) (yg mckF_s) mckF_O h_ := List.forall_mem_cons.mpr ⟨bpat_some (fxr_at hs.2 (show fxk fxl 338 3 = some 341 by decide +kernel)), List.forall_mem_cons.mpr ⟨bpat_some o0_, fun q_ hq => absurd hq List.not_mem_nil⟩⟩
  have HC : ∀ q_ ∈ mckF_C, xhold (mckF_r v1_ v2 v3 v400) q_ := fun q_ hq => absurd hq List.not_mem_nil
  rcases yrun (yis_ok mckF_k) hA Hs Ho HC with ⟨q_, hq, h', K_, G_⟩ | ⟨q_, hq, h', K_, G_⟩
  · cases hq
  · have e_ := List.mem_singleton.mp hq
    subst e_
    exact ⟨h', yfr_sm K_.2.2.2 hs K_.1 (ywa_r mckF_w List.mem_cons_self), ⟨bpat_of (K_.2.1 _ List.mem_cons_self), fun a_ j_ n0_ => yfr_bp K_.2.2.2 (List.forall_mem_cons.mpr ⟨fun e_ => n0_ ⟨e_.1.symm, e_.2.symm⟩, fun q_ hq => absurd hq List.not_mem_nil⟩), G_⟩⟩
-- mckG: 6 steps, 1 ends, 0 returns
def mckG_L : List (Nat × Nat × Nat) := []
def mckG_O : yO := [(338, .int 4, .index 342)]
def mckG_A : yA := (yZ mckG_L, [], [], [], [])
def mckG_C : List xB := []
def mckG_ss : List yS := [(45, [(3, .arg 3), (0, .index 338), (1, .arg 1), (2, .arg 2)], [.index 342, .arg 2, .arg 1, .index 338], [(338, .int 4, .index 342)], [], [])]
def mckG_rs : List yR := []
theorem mckG_w : ywa mckG_A mckG_ss mckG_rs = true := by decide +kernel
theorem mckG_k : yis (yev mckG_A 3000 60 235 [45] (29, [(3, .arg 3), (0, .index 338), (1, .arg 1), (2, .arg 2)], [.int 1], mckG_O, mckG_C, [])) mckG_ss mckG_rs = true := by decide +kernel
def mckG_r (v1_ v2 v3 : Int32) (k_ : Nat) : Value := bif Nat.beq k_ 1 then .int v1_ else (bif Nat.beq k_ 2 then .int v2 else (bif Nat.beq k_ 3 then .int v3 else (.int 0)))
def mckG_s (n_ : Nat) : Nat := 0
theorem mckG {h_ : xH} {v1_ v2 v3 : Int32} (hs : sHp h_) : ∃ h', ysm h_ h' ∧ (((∀ a_ j_ : Nat, bpat h' a_ j_ = bpat h_ a_ j_) ∧ (bldD 60 235 29 [(3, .int v3), (0, .index 338), (1, .int v1_), (2, .int v2)] [.int (1 : Int32)] h_ 45 [(3, .int v3), (0, .index 338), (1, .int v1_), (2, .int v2)] [.index 342, .int v2, .int v1_, .index 338] h'))) := by
  have hA : yas mckG_A (mckG_r v1_ v2 v3) (yg mckG_s) := ⟨fun q_ hq => absurd hq List.not_mem_nil, fun q_ hq => absurd hq List.not_mem_nil, fun q_ hq => absurd hq List.not_mem_nil, fun n_ hn => yg_lo hn, fun q_ hq => absurd hq List.not_mem_nil⟩
  have Hs : ysh mckG_A.1 (yg mckG_s) h_ := ysh_of2 hs (fun q_ hq => absurd hq List.not_mem_nil)
  have Ho : ymem (mckG_r v1_ v2 v3) (yg mckG_s) mckG_O h_ := List.forall_mem_cons.mpr ⟨bpat_some (fxr_at hs.2 (show fxk fxl 338 4 = some 342 by decide +kernel)), fun q_ hq => absurd hq List.not_mem_nil⟩
  have HC : ∀ q_ ∈ mckG_C, xhold (mckG_r v1_ v2 v3) q_ := fun q_ hq => absurd hq List.not_mem_nil
  rcases yrun (yis_ok mckG_k) hA Hs Ho HC with ⟨q_, hq, h', K_, G_⟩ | ⟨q_, hq, h', K_, G_⟩
  · have e_ := List.mem_singleton.mp hq
    subst e_
    exact ⟨h', yfr_sm K_.2.2.2 hs K_.1 (ywa_s mckG_w List.mem_cons_self), ⟨fun a_ j_ => yfr_bp K_.2.2.2 (fun q_ hq => absurd hq List.not_mem_nil), G_⟩⟩
  · cases hq
-- mckH: 2 steps, 1 ends, 0 returns
def mckH_L : List (Nat × Nat × Nat) := []
def mckH_O : yO := []
def mckH_A : yA := (yZ mckH_L, [], [], [], [])
def mckH_C : List xB := []
def mckH_ss : List yS := [(51, [(4, .int 0), (3, .arg 3), (0, .index 338), (1, .arg 1), (2, .arg 2)], [], [], [], [])]
def mckH_rs : List yR := []
theorem mckH_w : ywa mckH_A mckH_ss mckH_rs = true := by decide +kernel
theorem mckH_k : yis (yev mckH_A 3000 60 235 [51] (48, [(3, .arg 3), (0, .index 338), (1, .arg 1), (2, .arg 2)], [], mckH_O, mckH_C, [])) mckH_ss mckH_rs = true := by decide +kernel
def mckH_r (v1_ v2 v3 : Int32) (k_ : Nat) : Value := bif Nat.beq k_ 1 then .int v1_ else (bif Nat.beq k_ 2 then .int v2 else (bif Nat.beq k_ 3 then .int v3 else (.int 0)))
def mckH_s (n_ : Nat) : Nat := 0
theorem mckH {h_ : xH} {v1_ v2 v3 : Int32} (hs : sHp h_) : ∃ h', ysm h_ h' ∧ (((∀ a_ j_ : Nat, bpat h' a_ j_ = bpat h_ a_ j_) ∧ (bldD 60 235 48 [(3, .int v3), (0, .index 338), (1, .int v1_), (2, .int v2)] [] h_ 51 [(4, .int (0 : Int32)), (3, .int v3), (0, .index 338), (1, .int v1_), (2, .int v2)] [] h'))) := by
  have hA : yas mckH_A (mckH_r v1_ v2 v3) (yg mckH_s) := ⟨fun q_ hq => absurd hq List.not_mem_nil, fun q_ hq => absurd hq List.not_mem_nil, fun q_ hq => absurd hq List.not_mem_nil, fun n_ hn => yg_lo hn, fun q_ hq => absurd hq List.not_mem_nil⟩
  have Hs : ysh mckH_A.1 (yg mckH_s) h_ := ysh_of2 hs (fun q_ hq => absurd hq List.not_mem_nil)
  have Ho : ymem (mckH_r v1_ v2 v3) (yg mckH_s) mckH_O h_ := fun q_ hq => absurd hq List.not_mem_nil
  have HC : ∀ q_ ∈ mckH_C, xhold (mckH_r v1_ v2 v3) q_ := fun q_ hq => absurd hq List.not_mem_nil
  rcases yrun (yis_ok mckH_k) hA Hs Ho HC with ⟨q_, hq, h', K_, G_⟩ | ⟨q_, hq, h', K_, G_⟩
  · have e_ := List.mem_singleton.mp hq
    subst e_
    exact ⟨h', yfr_sm K_.2.2.2 hs K_.1 (ywa_s mckH_w List.mem_cons_self), ⟨fun a_ j_ => yfr_bp K_.2.2.2 (fun q_ hq => absurd hq List.not_mem_nil), G_⟩⟩
  · cases hq
-- mckT: 24 steps, 1 ends, 0 returns
def mckT_L : List (Nat × Nat × Nat) := []
def mckT_O : yO := [(338, .int 4, .index 342), (342, .int 0, .arg 300), (338, .int 0, .index 339), (339, .add (.int 744) (.arg 4), .arg 302), (342, .add (.int 1) (.arg 4), .arg 303)]
def mckT_A : yA := (yZ mckT_L, [(.add (.int 744) (.arg 4), 768), (.add (.int 1) (.arg 4), 13)], [], [], [])
def mckT_C : List xB := [(.eq, .arg 302, .arg 303, true), (.lt, .arg 4, .arg 300, true), (.lt, .arg 4, .arg 3, true)]
def mckT_ss : List yS := [(51, [(4, .add (.arg 4) (.int 1)), (3, .arg 3), (0, .index 338), (1, .arg 1), (2, .arg 2)], [], [(338, .int 4, .index 342), (342, .int 0, .arg 300), (338, .int 0, .index 339), (339, .add (.int 744) (.arg 4), .arg 302), (342, .add (.int 1) (.arg 4), .arg 303)], [(.eq, .arg 302, .arg 303, true), (.lt, .arg 4, .arg 300, true), (.lt, .arg 4, .arg 3, true)], [])]
def mckT_rs : List yR := []
theorem mckT_w : ywa mckT_A mckT_ss mckT_rs = true := by decide +kernel
theorem mckT_k : yis (yev mckT_A 3000 60 235 [51] (51, [(4, .arg 4), (3, .arg 3), (0, .index 338), (1, .arg 1), (2, .arg 2)], [], mckT_O, mckT_C, [])) mckT_ss mckT_rs = true := by decide +kernel
def mckT_r (v1_ v2 v3 v4_ v300 v302 v303 : Int32) (k_ : Nat) : Value := bif Nat.beq k_ 1 then .int v1_ else (bif Nat.beq k_ 2 then .int v2 else (bif Nat.beq k_ 3 then .int v3 else (bif Nat.beq k_ 4 then .int v4_ else (bif Nat.beq k_ 300 then .int v300 else (bif Nat.beq k_ 302 then .int v302 else (bif Nat.beq k_ 303 then .int v303 else (.int 0)))))))
def mckT_s (n_ : Nat) : Nat := 0
theorem mckT {h_ : xH} {v1_ v2 v3 v4_ v300 v302 v303 : Int32} (hs : sHp h_) (o0_ : bpat h_ 342 0 = some (.int v300)) (o1 : bpat h_ 339 (((744 : Int32) + v4_)).toInt.toNat = some (.int v302)) (o2 : bpat h_ 342 (((1 : Int32) + v4_)).toInt.toNat = some (.int v303)) (b0 : 0 ≤ (((744 : Int32) + v4_)).toInt ∧ (((744 : Int32) + v4_)).toInt < 768) (b1 : 0 ≤ (((1 : Int32) + v4_)).toInt ∧ (((1 : Int32) + v4_)).toInt < 13) (c0_ : v302 = v303) (c1_ : v4_.toInt < v300.toInt) (c2_ : v4_.toInt < v3.toInt) : ∃ h', ysm h_ h' ∧ (((∀ a_ j_ : Nat, bpat h' a_ j_ = bpat h_ a_ j_) ∧ (bldD 60 235 51 [(4, .int v4_), (3, .int v3), (0, .index 338), (1, .int v1_), (2, .int v2)] [] h_ 51 [(4, .int (v4_ + (1 : Int32))), (3, .int v3), (0, .index 338), (1, .int v1_), (2, .int v2)] [] h'))) := by
  have hA : yas mckT_A (mckT_r v1_ v2 v3 v4_ v300 v302 v303) (yg mckT_s) := ⟨List.forall_mem_cons.mpr ⟨b0, List.forall_mem_cons.mpr ⟨b1, fun q_ hq => absurd hq List.not_mem_nil⟩⟩, fun q_ hq => absurd hq List.not_mem_nil, fun q_ hq => absurd hq List.not_mem_nil, fun n_ hn => yg_lo hn, fun q_ hq => absurd hq List.not_mem_nil⟩
  have Hs : ysh mckT_A.1 (yg mckT_s) h_ := ysh_of2 hs (fun q_ hq => absurd hq List.not_mem_nil)
  have Ho : ymem (mckT_r v1_ v2 v3 v4_ v300 v302 v303) (yg mckT_s) mckT_O h_ := List.forall_mem_cons.mpr ⟨bpat_some (fxr_at hs.2 (show fxk fxl 338 4 = some 342 by decide +kernel)), List.forall_mem_cons.mpr ⟨bpat_some o0_, List.forall_mem_cons.mpr ⟨bpat_some (fxr_at hs.2 (show fxk fxl 338 0 = some 339 by decide +kernel)), List.forall_mem_cons.mpr ⟨bpat_some o1, List.forall_mem_cons.mpr ⟨bpat_some o2, fun q_ hq => absurd hq List.not_mem_nil⟩⟩⟩⟩⟩
  have HC : ∀ q_ ∈ mckT_C, xhold (mckT_r v1_ v2 v3 v4_ v300 v302 v303) q_ := List.forall_mem_cons.mpr ⟨xh_eqT2 c0_, List.forall_mem_cons.mpr ⟨xh_ltT c1_, List.forall_mem_cons.mpr ⟨xh_ltT c2_, fun q_ hq => absurd hq List.not_mem_nil⟩⟩⟩
  rcases yrun (yis_ok mckT_k) hA Hs Ho HC with ⟨q_, hq, h', K_, G_⟩ | ⟨q_, hq, h', K_, G_⟩
  · have e_ := List.mem_singleton.mp hq
    subst e_
    exact ⟨h', yfr_sm K_.2.2.2 hs K_.1 (ywa_s mckT_w List.mem_cons_self), ⟨fun a_ j_ => yfr_bp K_.2.2.2 (fun q_ hq => absurd hq List.not_mem_nil), G_⟩⟩
  · cases hq
-- mckU: 22 steps, 1 ends, 0 returns
def mckU_L : List (Nat × Nat × Nat) := []
def mckU_O : yO := [(338, .int 4, .index 342), (342, .int 0, .arg 300), (338, .int 0, .index 339), (339, .add (.int 744) (.arg 4), .arg 302), (342, .add (.int 1) (.arg 4), .arg 303)]
def mckU_A : yA := (yZ mckU_L, [(.add (.int 744) (.arg 4), 768), (.add (.int 1) (.arg 4), 13)], [], [], [])
def mckU_C : List xB := [(.eq, .arg 302, .arg 303, false), (.lt, .arg 4, .arg 300, true), (.lt, .arg 4, .arg 3, true)]
def mckU_ss : List yS := [(97, [(4, .arg 4), (3, .arg 3), (0, .index 338), (1, .arg 1), (2, .arg 2)], [], [(338, .int 4, .index 342), (342, .int 0, .arg 300), (338, .int 0, .index 339), (339, .add (.int 744) (.arg 4), .arg 302), (342, .add (.int 1) (.arg 4), .arg 303)], [(.eq, .arg 302, .arg 303, false), (.lt, .arg 4, .arg 300, true), (.lt, .arg 4, .arg 3, true)], [])]
def mckU_rs : List yR := []
theorem mckU_w : ywa mckU_A mckU_ss mckU_rs = true := by decide +kernel
theorem mckU_k : yis (yev mckU_A 3000 60 235 [97] (51, [(4, .arg 4), (3, .arg 3), (0, .index 338), (1, .arg 1), (2, .arg 2)], [], mckU_O, mckU_C, [])) mckU_ss mckU_rs = true := by decide +kernel
def mckU_r (v1_ v2 v3 v4_ v300 v302 v303 : Int32) (k_ : Nat) : Value := bif Nat.beq k_ 1 then .int v1_ else (bif Nat.beq k_ 2 then .int v2 else (bif Nat.beq k_ 3 then .int v3 else (bif Nat.beq k_ 4 then .int v4_ else (bif Nat.beq k_ 300 then .int v300 else (bif Nat.beq k_ 302 then .int v302 else (bif Nat.beq k_ 303 then .int v303 else (.int 0)))))))
def mckU_s (n_ : Nat) : Nat := 0
theorem mckU {h_ : xH} {v1_ v2 v3 v4_ v300 v302 v303 : Int32} (hs : sHp h_) (o0_ : bpat h_ 342 0 = some (.int v300)) (o1 : bpat h_ 339 (((744 : Int32) + v4_)).toInt.toNat = some (.int v302)) (o2 : bpat h_ 342 (((1 : Int32) + v4_)).toInt.toNat = some (.int v303)) (b0 : 0 ≤ (((744 : Int32) + v4_)).toInt ∧ (((744 : Int32) + v4_)).toInt < 768) (b1 : 0 ≤ (((1 : Int32) + v4_)).toInt ∧ (((1 : Int32) + v4_)).toInt < 13) (c0_ : ¬ v302 = v303) (c1_ : v4_.toInt < v300.toInt) (c2_ : v4_.toInt < v3.toInt) : ∃ h', ysm h_ h' ∧ (((∀ a_ j_ : Nat, bpat h' a_ j_ = bpat h_ a_ j_) ∧ (bldD 60 235 51 [(4, .int v4_), (3, .int v3), (0, .index 338), (1, .int v1_), (2, .int v2)] [] h_ 97 [(4, .int v4_), (3, .int v3), (0, .index 338), (1, .int v1_), (2, .int v2)] [] h'))) := by
  have hA : yas mckU_A (mckU_r v1_ v2 v3 v4_ v300 v302 v303) (yg mckU_s) := ⟨List.forall_mem_cons.mpr ⟨b0, List.forall_mem_cons.mpr ⟨b1, fun q_ hq => absurd hq List.not_mem_nil⟩⟩, fun q_ hq => absurd hq List.not_mem_nil, fun q_ hq => absurd hq List.not_mem_nil, fun n_ hn => yg_lo hn, fun q_ hq => absurd hq List.not_mem_nil⟩
  have Hs : ysh mckU_A.1 (yg mckU_s) h_ := ysh_of2 hs (fun q_ hq => absurd hq List.not_mem_nil)
  have Ho : ymem (mckU_r v1_ v2 v3 v4_ v300 v302 v303) (yg mckU_s) mckU_O h_ := List.forall_mem_cons.mpr ⟨bpat_some (fxr_at hs.2 (show fxk fxl 338 4 = some 342 by decide +kernel)), List.forall_mem_cons.mpr ⟨bpat_some o0_, List.forall_mem_cons.mpr ⟨bpat_some (fxr_at hs.2 (show fxk fxl 338 0 = some 339 by decide +kernel)), List.forall_mem_cons.mpr ⟨bpat_some o1, List.forall_mem_cons.mpr ⟨bpat_some o2, fun q_ hq => absurd hq List.not_mem_nil⟩⟩⟩⟩⟩
  have HC : ∀ q_ ∈ mckU_C, xhold (mckU_r v1_ v2 v3 v4_ v300 v302 v303) q_ := List.forall_mem_cons.mpr ⟨xh_eqF2 c0_, List.forall_mem_cons.mpr ⟨xh_ltT c1_, List.forall_mem_cons.mpr ⟨xh_ltT c2_, fun q_ hq => absurd hq List.not_mem_nil⟩⟩⟩
  rcases yrun (yis_ok mckU_k) hA Hs Ho HC with ⟨q_, hq, h', K_, G_⟩ | ⟨q_, hq, h', K_, G_⟩
  · have e_ := List.mem_singleton.mp hq
    subst e_
    exact ⟨h', yfr_sm K_.2.2.2 hs K_.1 (ywa_s mckU_w List.mem_cons_self), ⟨fun a_ j_ => yfr_bp K_.2.2.2 (fun q_ hq => absurd hq List.not_mem_nil), G_⟩⟩
  · cases hq
-- mckX: 9 steps, 1 ends, 0 returns
def mckX_L : List (Nat × Nat × Nat) := []
def mckX_O : yO := [(338, .int 4, .index 342), (342, .int 0, .arg 300)]
def mckX_A : yA := (yZ mckX_L, [], [], [], [])
def mckX_C : List xB := [(.lt, .arg 4, .arg 300, false), (.lt, .arg 4, .arg 3, true)]
def mckX_ss : List yS := [(97, [(4, .arg 4), (3, .arg 3), (0, .index 338), (1, .arg 1), (2, .arg 2)], [], [(338, .int 4, .index 342), (342, .int 0, .arg 300)], [(.lt, .arg 4, .arg 300, false), (.lt, .arg 4, .arg 3, true)], [])]
def mckX_rs : List yR := []
theorem mckX_w : ywa mckX_A mckX_ss mckX_rs = true := by decide +kernel
theorem mckX_k : yis (yev mckX_A 3000 60 235 [97] (51, [(4, .arg 4), (3, .arg 3), (0, .index 338), (1, .arg 1), (2, .arg 2)], [], mckX_O, mckX_C, [])) mckX_ss mckX_rs = true := by decide +kernel
def mckX_r (v1_ v2 v3 v4_ v300 : Int32) (k_ : Nat) : Value := bif Nat.beq k_ 1 then .int v1_ else (bif Nat.beq k_ 2 then .int v2 else (bif Nat.beq k_ 3 then .int v3 else (bif Nat.beq k_ 4 then .int v4_ else (bif Nat.beq k_ 300 then .int v300 else (.int 0)))))
def mckX_s (n_ : Nat) : Nat := 0
theorem mckX {h_ : xH} {v1_ v2 v3 v4_ v300 : Int32} (hs : sHp h_) (o0_ : bpat h_ 342 0 = some (.int v300)) (c0_ : v300.toInt ≤ v4_.toInt) (c1_ : v4_.toInt < v3.toInt) : ∃ h', ysm h_ h' ∧ (((∀ a_ j_ : Nat, bpat h' a_ j_ = bpat h_ a_ j_) ∧ (bldD 60 235 51 [(4, .int v4_), (3, .int v3), (0, .index 338), (1, .int v1_), (2, .int v2)] [] h_ 97 [(4, .int v4_), (3, .int v3), (0, .index 338), (1, .int v1_), (2, .int v2)] [] h'))) := by
  have hA : yas mckX_A (mckX_r v1_ v2 v3 v4_ v300) (yg mckX_s) := ⟨fun q_ hq => absurd hq List.not_mem_nil, fun q_ hq => absurd hq List.not_mem_nil, fun q_ hq => absurd hq List.not_mem_nil, fun n_ hn => yg_lo hn, fun q_ hq => absurd hq List.not_mem_nil⟩
  have Hs : ysh mckX_A.1 (yg mckX_s) h_ := ysh_of2 hs (fun q_ hq => absurd hq List.not_mem_nil)
  have Ho : ymem (mckX_r v1_ v2 v3 v4_ v300) (yg mckX_s) mckX_O h_ := List.forall_mem_cons.mpr ⟨bpat_some (fxr_at hs.2 (show fxk fxl 338 4 = some 342 by decide +kernel)), List.forall_mem_cons.mpr ⟨bpat_some o0_, fun q_ hq => absurd hq List.not_mem_nil⟩⟩
  have HC : ∀ q_ ∈ mckX_C, xhold (mckX_r v1_ v2 v3 v4_ v300) q_ := List.forall_mem_cons.mpr ⟨xh_ltF c0_, List.forall_mem_cons.mpr ⟨xh_ltT c1_, fun q_ hq => absurd hq List.not_mem_nil⟩⟩
  rcases yrun (yis_ok mckX_k) hA Hs Ho HC with ⟨q_, hq, h', K_, G_⟩ | ⟨q_, hq, h', K_, G_⟩
  · have e_ := List.mem_singleton.mp hq
    subst e_
    exact ⟨h', yfr_sm K_.2.2.2 hs K_.1 (ywa_s mckX_w List.mem_cons_self), ⟨fun a_ j_ => yfr_bp K_.2.2.2 (fun q_ hq => absurd hq List.not_mem_nil), G_⟩⟩
  · cases hq
-- mckY: 3 steps, 1 ends, 0 returns
def mckY_L : List (Nat × Nat × Nat) := []
def mckY_O : yO := []
def mckY_A : yA := (yZ mckY_L, [], [], [], [])
def mckY_C : List xB := [(.lt, .arg 4, .arg 3, false)]
def mckY_ss : List yS := [(97, [(4, .arg 4), (3, .arg 3), (0, .index 338), (1, .arg 1), (2, .arg 2)], [], [], [(.lt, .arg 4, .arg 3, false)], [])]
def mckY_rs : List yR := []
theorem mckY_w : ywa mckY_A mckY_ss mckY_rs = true := by decide +kernel
theorem mckY_k : yis (yev mckY_A 3000 60 235 [97] (51, [(4, .arg 4), (3, .arg 3), (0, .index 338), (1, .arg 1), (2, .arg 2)], [], mckY_O, mckY_C, [])) mckY_ss mckY_rs = true := by decide +kernel
def mckY_r (v1_ v2 v3 v4_ : Int32) (k_ : Nat) : Value := bif Nat.beq k_ 1 then .int v1_ else (bif Nat.beq k_ 2 then .int v2 else (bif Nat.beq k_ 3 then .int v3 else (bif Nat.beq k_ 4 then .int v4_ else (.int 0))))
def mckY_s (n_ : Nat) : Nat := 0
theorem mckY {h_ : xH} {v1_ v2 v3 v4_ : Int32} (hs : sHp h_) (c0_ : v3.toInt ≤ v4_.toInt) : ∃ h', ysm h_ h' ∧ (((∀ a_ j_ : Nat, bpat h' a_ j_ = bpat h_ a_ j_) ∧ (bldD 60 235 51 [(4, .int v4_), (3, .int v3), (0, .index 338), (1, .int v1_), (2, .int v2)] [] h_ 97 [(4, .int v4_), (3, .int v3), (0, .index 338), (1, .int v1_), (2, .int v2)] [] h'))) := by
  have hA : yas mckY_A (mckY_r v1_ v2 v3 v4_) (yg mckY_s) := ⟨fun q_ hq => absurd hq List.not_mem_nil, fun q_ hq => absurd hq List.not_mem_nil, fun q_ hq => absurd hq List.not_mem_nil, fun n_ hn => yg_lo hn, fun q_ hq => absurd hq List.not_mem_nil⟩
  have Hs : ysh mckY_A.1 (yg mckY_s) h_ := ysh_of2 hs (fun q_ hq => absurd hq List.not_mem_nil)
  have Ho : ymem (mckY_r v1_ v2 v3 v4_) (yg mckY_s) mckY_O h_ := fun q_ hq => absurd hq List.not_mem_nil
  have HC : ∀ q_ ∈ mckY_C, xhold (mckY_r v1_ v2 v3 v4_) q_ := List.forall_mem_cons.mpr ⟨xh_ltF c0_, fun q_ hq => absurd hq List.not_mem_nil⟩
  rcases yrun (yis_ok mckY_k) hA Hs Ho HC with ⟨q_, hq, h', K_, G_⟩ | ⟨q_, hq, h', K_, G_⟩
  · have e_ := List.mem_singleton.mp hq
    subst e_
    exact ⟨h', yfr_sm K_.2.2.2 hs K_.1 (ywa_s mckY_w List.mem_cons_self), ⟨fun a_ j_ => yfr_bp K_.2.2.2 (fun q_ hq => absurd hq List.not_mem_nil), G_⟩⟩
  · cases hq
-- mckA: 12 steps, 0 ends, 1 returns
def mckA_L : List (Nat × Nat × Nat) := []
def mckA_O : yO := [(338, .int 4, .index 342), (342, .int 0, .arg 300)]
def mckA_A : yA := (yZ mckA_L, [], [], [], [])
def mckA_C : List xB := [(.eq, .arg 4, .arg 3, true), (.eq, .arg 4, .arg 300, true)]
def mckA_ss : List yS := []
def mckA_rs : List yR := [(some (.int 0), [(338, .int 4, .index 342), (342, .int 0, .arg 300)], [(.eq, .arg 4, .arg 3, true), (.eq, .arg 4, .arg 300, true)], [])]
theorem mckA_w : ywa mckA_A mckA_ss mckA_rs = true := by decide +kernel
theorem mckA_k : yis (yev mckA_A 3000 60 235 [] (97, [(4, .arg 4), (3, .arg 3), (0, .index 338), (1, .arg 1), (2, .arg 2)], [], mckA_O, mckA_C, [])) mckA_ss mckA_rs = true := by decide +kernel
def mckA_r (v1_ v2 v3 v4_ v300 : Int32) (k_ : Nat) : Value := bif Nat.beq k_ 1 then .int v1_ else (bif Nat.beq k_ 2 then .int v2 else (bif Nat.beq k_ 3 then .int v3 else (bif Nat.beq k_ 4 then .int v4_ else (bif Nat.beq k_ 300 then .int v300 else (.int 0)))))
def mckA_s (n_ : Nat) : Nat := 0
theorem mckA {h_ : xH} {v1_ v2 v3 v4_ v300 : Int32} (hs : sHp h_) (o0_ : bpat h_ 342 0 = some (.int v300)) (c0_ : v4_ = v3) (c1_ : v4_ = v300) : ∃ h', ysm h_ h' ∧ (((∀ a_ j_ : Nat, bpat h' a_ j_ = bpat h_ a_ j_) ∧ (∀ D_, 60 ≤ D_ → xrun D_ 235 97 [(4, .int v4_), (3, .int v3), (0, .index 338), (1, .int v1_), (2, .int v2)] [] h_ (some (.int (0 : Int32)), h', [])))) := by
  have hA : yas mckA_A (mckA_r v1_ v2 v3 v4_ v300) (yg mckA_s) := ⟨fun q_ hq => absurd hq List.not_mem_nil, fun q_ hq => absurd hq List.not_mem_nil, fun q_ hq => absurd hq List.not_mem_nil, fun n_ hn => yg_lo hn, fun q_ hq => absurd hq List.not_mem_nil⟩
  have Hs : ysh mckA_A.1 (yg mckA_s) h_ := ysh_of2 hs (fun q_ hq => absurd hq List.not_mem_nil)
  have Ho : ymem (mckA_r v1_ v2 v3 v4_ v300) (yg mckA_s) mckA_O h_ := List.forall_mem_cons.mpr ⟨bpat_some (fxr_at hs.2 (show fxk fxl 338 4 = some 342 by decide +kernel)), List.forall_mem_cons.mpr ⟨bpat_some o0_, fun q_ hq => absurd hq List.not_mem_nil⟩⟩
  have HC : ∀ q_ ∈ mckA_C, xhold (mckA_r v1_ v2 v3 v4_ v300) q_ := List.forall_mem_cons.mpr ⟨xh_eqT2 c0_, List.forall_mem_cons.mpr ⟨xh_eqT2 c1_, fun q_ hq => absurd hq List.not_mem_nil⟩⟩
  rcases yrun (yis_ok mckA_k) hA Hs Ho HC with ⟨q_, hq, h', K_, G_⟩ | ⟨q_, hq, h', K_, G_⟩
  · cases hq
  · have e_ := List.mem_singleton.mp hq
    subst e_
    exact ⟨h', yfr_sm K_.2.2.2 hs K_.1 (ywa_r mckA_w List.mem_cons_self), ⟨fun a_ j_ => yfr_bp K_.2.2.2 (fun q_ hq => absurd hq List.not_mem_nil), G_⟩⟩
-- mckB: 13 steps, 0 ends, 1 returns
def mckB_L : List (Nat × Nat × Nat) := []
def mckB_O : yO := [(338, .int 4, .index 342), (342, .int 0, .arg 300)]
def mckB_A : yA := (yZ mckB_L, [], [], [], [])
def mckB_C : List xB := [(.eq, .arg 4, .arg 3, true), (.eq, .arg 4, .arg 300, false)]
def mckB_ss : List yS := []
def mckB_rs : List yR := [(some (.add (.int 1) (.arg 4)), [(338, .int 4, .index 342), (342, .int 0, .arg 300)], [(.eq, .arg 4, .arg 3, true), (.eq, .arg 4, .arg 300, false)], [])]
theorem mckB_w : ywa mckB_A mckB_ss mckB_rs = true := by decide +kernel
theorem mckB_k : yis (yev mckB_A 3000 60 235 [] (97, [(4, .arg 4), (3, .arg 3), (0, .index 338), (1, .arg 1), (2, .arg 2)], [], mckB_O, mckB_C, [])) mckB_ss mckB_rs = true := by decide +kernel
def mckB_r (v1_ v2 v3 v4_ v300 : Int32) (k_ : Nat) : Value := bif Nat.beq k_ 1 then .int v1_ else (bif Nat.beq k_ 2 then .int v2 else (bif Nat.beq k_ 3 then .int v3 else (bif Nat.beq k_ 4 then .int v4_ else (bif Nat.beq k_ 300 then .int v300 else (.int 0)))))
def mckB_s (n_ : Nat) : Nat := 0
theorem mckB {h_ : xH} {v1_ v2 v3 v4_ v300 : Int32} (hs : sHp h_) (o0_ : bpat h_ 342 0 = some (.int v300)) (c0_ : v4_ = v3) (c1_ : ¬ v4_ = v300) : ∃ h', ysm h_ h' ∧ (((∀ a_ j_ : Nat, bpat h' a_ j_ = bpat h_ a_ j_) ∧ (∀ D_, 60 ≤ D_ → xrun D_ 235 97 [(4, .int v4_), (3, .int v3), (0, .index 338), (1, .int v1_), (2, .int v2)] [] h_ (some (.int ((1 : Int32) + v4_)), h', [])))) := by
  have hA : yas mckB_A (mckB_r v1_ v2 v3 v4_ v300) (yg mckB_s) := ⟨fun q_ hq => absurd hq List.not_mem_nil, fun q_ hq => absurd hq List.not_mem_nil, fun q_ hq => absurd hq List.not_mem_nil, fun n_ hn => yg_lo hn, fun q_ hq => absurd hq List.not_mem_nil⟩
  have Hs : ysh mckB_A.1 (yg mckB_s) h_ := ysh_of2 hs (fun q_ hq => absurd hq List.not_mem_nil)
  have Ho : ymem (mckB_r v1_ v2 v3 v4_ v300) (yg mckB_s) mckB_O h_ := List.forall_mem_cons.mpr ⟨bpat_some (fxr_at hs.2 (show fxk fxl 338 4 = some 342 by decide +kernel)), List.forall_mem_cons.mpr ⟨bpat_some o0_, fun q_ hq => absurd hq List.not_mem_nil⟩⟩
  have HC : ∀ q_ ∈ mckB_C, xhold (mckB_r v1_ v2 v3 v4_ v300) q_ := List.forall_mem_cons.mpr ⟨xh_eqT2 c0_, List.forall_mem_cons.mpr ⟨xh_eqF2 c1_, fun q_ hq => absurd hq List.not_mem_nil⟩⟩
  rcases yrun (yis_ok mckB_k) hA Hs Ho HC with ⟨q_, hq, h', K_, G_⟩ | ⟨q_, hq, h', K_, G_⟩
  · cases hq
  · have e_ := List.mem_singleton.mp hq
    subst e_
    exact ⟨h', yfr_sm K_.2.2.2 hs K_.1 (ywa_r mckB_w List.mem_cons_self), ⟨fun a_ j_ => yfr_bp K_.2.2.2 (fun q_ hq => absurd hq List.not_mem_nil), G_⟩⟩
-- mckC: 7 steps, 0 ends, 1 returns
def mckC_L : List (Nat × Nat × Nat) := []
def mckC_O : yO := []
def mckC_A : yA := (yZ mckC_L, [], [], [], [])
def mckC_C : List xB := [(.eq, .arg 4, .arg 3, false)]
def mckC_ss : List yS := []
def mckC_rs : List yR := [(some (.add (.int 1) (.arg 4)), [], [(.eq, .arg 4, .arg 3, false)], [])]
theorem mckC_w : ywa mckC_A mckC_ss mckC_rs = true := by decide +kernel
theorem mckC_k : yis (yev mckC_A 3000 60 235 [] (97, [(4, .arg 4), (3, .arg 3), (0, .index 338), (1, .arg 1), (2, .arg 2)], [], mckC_O, mckC_C, [])) mckC_ss mckC_rs = true := by decide +kernel
def mckC_r (v1_ v2 v3 v4_ : Int32) (k_ : Nat) : Value := bif Nat.beq k_ 1 then .int v1_ else (bif Nat.beq k_ 2 then .int v2 else (bif Nat.beq k_ 3 then .int v3 else (bif Nat.beq k_ 4 then .int v4_ else (.int 0))))
def mckC_s (n_ : Nat) : Nat := 0
theorem mckC {h_ : xH} {v1_ v2 v3 v4_ : Int32} (hs : sHp h_) (c0_ : ¬ v4_ = v3) : ∃ h', ysm h_ h' ∧ (((∀ a_ j_ : Nat, bpat h' a_ j_ = bpat h_ a_ j_) ∧ (∀ D_, 60 ≤ D_ → xrun D_ 235 97 [(4, .int v4_), (3, .int v3), (0, .index 338), (1, .int v1_), (2, .int v2)] [] h_ (some (.int ((1 : Int32) + v4_)), h', [])))) := by
  have hA : yas mckC_A (mckC_r v1_ v2 v3 v4_) (yg mckC_s) := ⟨fun q_ hq => absurd hq List.not_mem_nil, fun q_ hq => absurd hq List.not_mem_nil, fun q_ hq => absurd hq List.not_mem_nil, fun n_ hn => yg_lo hn, fun q_ hq => absurd hq List.not_mem_nil⟩
  have Hs : ysh mckC_A.1 (yg mckC_s) h_ := ysh_of2 hs (fun q_ hq => absurd hq List.not_mem_nil)
  have Ho : ymem (mckC_r v1_ v2 v3 v4_) (yg mckC_s) mckC_O h_ := fun q_ hq => absurd hq List.not_mem_nil
  have HC : ∀ q_ ∈ mckC_C, xhold (mckC_r v1_ v2 v3 v4_) q_ := List.forall_mem_cons.mpr ⟨xh_eqF2 c0_, fun q_ hq => absurd hq List.not_mem_nil⟩
  rcases yrun (yis_ok mckC_k) hA Hs Ho HC with ⟨q_, hq, h', K_, G_⟩ | ⟨q_, hq, h', K_, G_⟩
  · cases hq
  · have e_ := List.mem_singleton.mp hq
    subst e_
    exact ⟨h', yfr_sm K_.2.2.2 hs K_.1 (ywa_r mckC_w List.mem_cons_self), ⟨fun a_ j_ => yfr_bp K_.2.2.2 (fun q_ hq => absurd hq List.not_mem_nil), G_⟩⟩
noncomputable def partF (W_ : Nat → List Int32) (V : Nat → Int32) (z_ d_ e_ : Int32) : (Nat → List Int32) × (Nat → Int32) × Int32 := pif (((0 ≤ z_.toInt ∧ z_.toInt < (V 0).toInt) ∧ isW (nR V) d_) ∧ isW (nR V) e_) (W_, V, if hrd W_ V d_ (W_ z_.toInt.toNat) = hrd W_ V e_ (W_ z_.toInt.toNat) then Int32.ofInt (-1000002) else Int32.ofNat (fuN (hrd W_ V d_ (W_ z_.toInt.toNat)) (hrd W_ V e_ (W_ z_.toInt.toNat)))) (W_, V, Int32.ofInt (-1000001))
theorem ok_part {W_ : Nat → List Int32} {V : Nat → Int32} (K_ : okS W_ V) (z_ d_ e_ : Int32) : okS (partF W_ V z_ d_ e_).1 (partF W_ V z_ d_ e_).2.1 := by
  unfold partF pif
  split <;> exact K_
theorem x_part {W_ : Nat → List Int32} {V : Nat → Int32} {h_ : xH} {z_ d_ e_ : Int32} (B_ : bInv bZ bIj h_) (K_ : okS W_ V) (H_ : SX W_ V h_) : ∃ h', ysm h_ h' ∧ (SX (partF W_ V z_ d_ e_).1 (partF W_ V z_ d_ e_).2.1 h' ∧ ∀ D_, 70 ≤ D_ → xrun D_ 97 0 [(0, .index 0), (1, .int z_), (2, .int d_), (3, .int e_)] [] h_ (some (.int (partF W_ V z_ d_ e_).2.2), h', [])) := by
  obtain ⟨y_, oy⟩ := xerr (k_ := 1) B_ (by omega)
  obtain ⟨y2, oy2⟩ := xerr (k_ := 2) B_ (by omega)
  have zz := z0_
  have zm := im1_
  unfold partF
  obtain ⟨h0, m0_, q_⟩ := xpaE (v1_ := z_) (v2 := d_) (v3 := e_) H_.1 (xNc H_) oy
  rcases q_ with ⟨g1, g2, f_, r_⟩ | ⟨g1, w0_, f_, r_⟩ | ⟨g1, g2, w0_, f_, r_⟩
  rotate_left
  · rw [pif_f (fun q_ => by omega)]; exact ⟨h0, m0_, SX_e H_ m0_ f_, fun D_ hD => r_ D_ (by omega)⟩
  · rw [pif_f (fun q_ => by omega)]; exact ⟨h0, m0_, SX_e H_ m0_ f_, fun D_ hD => r_ D_ (by omega)⟩
  have H0 := SX_fr H_ m0_ (fun c_ j_ _ => f_ c_ j_)
  obtain ⟨c_, hc_, hN_, rfl, ec⟩ := isC_n (z_ := z_) K_ ⟨by omega, by omega⟩
  obtain ⟨h1, ⟨H1_, F1_⟩, e1_⟩ := c_rdw (mi := 97) (pc := 17) (lo_ := [(0, .index 0), (1, .int (Int32.ofNat c_)), (2, .int d_), (3, .int e_)]) (z_ := d_) (s' := []) rfl (xcc_l (List.forall_mem_cons.mpr ⟨xidx_i (bcq_lt (bcq_of (n_ := 0) (z_ := (11, 15)) H0.1 rfl)), List.forall_mem_cons.mpr ⟨rfl, List.forall_mem_cons.mpr ⟨rfl, List.forall_mem_cons.mpr ⟨rfl, fun q_ hq => absurd hq List.not_mem_nil⟩⟩⟩⟩) (fun t_ ht => absurd ht List.not_mem_nil) (Nat.le_of_ble_eq_true rfl)) K_ H0 (Or.inl ⟨rfl, rfl⟩)
  have fy1 : ∀ k_, bpat h1 323 k_ = bpat h_ 323 k_ := fun k_ => (F1_.2 _ _ (by omega) (by omega)).trans (f_ _ _)
  rcases e1_ with ⟨gw, RW, ld1⟩ | ⟨gw, ld1⟩
  rotate_left
  · rw [pif_f (fun q_ => gw q_.1.2)]
    obtain ⟨h2, m2_, w0_, f2_, r2⟩ := xpaF (v1_ := Int32.ofNat c_) (v2 := d_) (v3 := e_) H1_.1 ((fy1 1).trans oy)
    exact ⟨h2, ysm_tr m0_ (ysm_tr F1_.1 m2_), SX_e H1_ m2_ f2_, fun D_ hD => r_ D_ (by omega) _ (ld1 D_ (by omega) _ (r2 D_ (by omega)))⟩
  obtain ⟨h2, m2_, f2_, ld2⟩ := xpaG (v1_ := Int32.ofNat c_) (v2 := d_) (v3 := e_) H1_.1
  have H2_ := SX_fr H1_ m2_ (fun c_ j_ _ => f2_ c_ j_)
  obtain ⟨h3, ⟨H3, F3⟩, e3_⟩ := c_rdw (mi := 97) (pc := 32) (lo_ := [(0, .index 0), (1, .int (Int32.ofNat c_)), (2, .int d_), (3, .int e_)]) (z_ := e_) (s' := []) rfl (xcc_l (List.forall_mem_cons.mpr ⟨xidx_i (bcq_lt (bcq_of (n_ := 0) (z_ := (11, 15)) H2_.1 rfl)), List.forall_mem_cons.mpr ⟨rfl, List.forall_mem_cons.mpr ⟨rfl, List.forall_mem_cons.mpr ⟨rfl, fun q_ hq => absurd hq List.not_mem_nil⟩⟩⟩⟩) (fun t_ ht => absurd ht List.not_mem_nil) (Nat.le_of_ble_eq_true rfl)) K_ H2_ (Or.inr ⟨rfl, rfl⟩)
  have fy3 : ∀ k_, bpat h3 323 k_ = bpat h_ 323 k_ := fun k_ => (F3.2 _ _ (by omega) (by omega)).trans ((f2_ _ _).trans (fy1 k_))
  have M3_ := ysm_tr m0_ (ysm_tr F1_.1 (ysm_tr m2_ F3.1))
  rcases e3_ with ⟨gw2, RW2, ld3⟩ | ⟨gw2, ld3⟩
  rotate_left
  · rw [pif_f (fun q_ => gw2 q_.2)]
    obtain ⟨h4, m4_, w0_, f4_, r4⟩ := xpaH (v1_ := Int32.ofNat c_) (v2 := d_) (v3 := e_) H3.1 ((fy3 1).trans oy)
    exact ⟨h4, ysm_tr M3_ m4_, SX_e H3 m4_ f4_, fun D_ hD => r_ D_ (by omega) _ (ld1 D_ (by omega) _ (ld2 D_ (by omega) _ (ld3 D_ (by omega) _ (r4 D_ (by omega)))))⟩
  rw [pif_t ⟨⟨⟨by omega, by omega⟩, gw⟩, gw2⟩, ec]
  obtain ⟨s1_, s2_, s3_⟩ := cl_s H3.1 hc_
  obtain ⟨h4, m4_, f4_, ld4⟩ := xpaI (v1_ := Int32.ofNat c_) (v2 := d_) (v3 := e_) H3.1 s2_ (by rw [ec]; exact s1_) ⟨by omega, by omega⟩
  have H4 := SX_fr H3 m4_ (fun c_ j_ _ => f4_ c_ j_)
  have RWa : rwx h4 314 315 4 (wyl d_) := rwx_keep (rwx_keep (rwx_keep RW m2_ (fun c_ j_ _ => f2_ c_ j_)) F3.1 (fun c_ j_ hc_ => F3.2 c_ j_ (by omega) (by omega))) m4_ (fun c_ j_ _ => f4_ c_ j_)
  have RWb : rwx h4 316 317 4 (wyl e_) := rwx_keep RW2 m4_ (fun c_ j_ _ => f4_ c_ j_)
  obtain ⟨h5, ⟨H5, F5⟩, R5, ld5⟩ := c_hear (mi := 97) (pc := 65) (lo_ := [(0, .index 0), (1, .int (Int32.ofNat c_)), (2, .int d_), (3, .int e_)]) (s' := []) rfl (xcc_l (List.forall_mem_cons.mpr ⟨xidx_i (bcq_lt (bcq_of (n_ := 0) (z_ := (11, 15)) H4.1 rfl)), List.forall_mem_cons.mpr ⟨rfl, List.forall_mem_cons.mpr ⟨rfl, List.forall_mem_cons.mpr ⟨rfl, fun q_ hq => absurd hq List.not_mem_nil⟩⟩⟩⟩) (fun t_ ht => absurd ht List.not_mem_nil) (Nat.le_of_ble_eq_true rfl)) K_ H4 (Or.inl ⟨rfl, rfl⟩) (Or.inl ⟨rfl, rfl⟩) hc_ gw RWa
  obtain ⟨t1_, t2_, t3_⟩ := cl_s H5.1 hc_
  obtain ⟨h6, m6_, f6_, ld6⟩ := xpaJ (v1_ := Int32.ofNat c_) (v2 := d_) (v3 := e_) H5.1 t2_ (by rw [ec]; exact t1_) ⟨by omega, by omega⟩
  have H6 := SX_fr H5 m6_ (fun c_ j_ _ => f6_ c_ j_)
  have RWc : rwx h6 316 317 4 (wyl e_) := rwx_keep (rwx_keep RWb F5.1 (fun c_ j_ hc_ => F5.2 c_ j_ (by omega) (by omega) (by omega) (by omega))) m6_ (fun c_ j_ _ => f6_ c_ j_)
  obtain ⟨h7, ⟨H7, F7⟩, R7, ld7⟩ := c_hear (mi := 97) (pc := 89) (lo_ := [(0, .index 0), (1, .int (Int32.ofNat c_)), (2, .int d_), (3, .int e_)]) (s' := []) rfl (xcc_l (List.forall_mem_cons.mpr ⟨xidx_i (bcq_lt (bcq_of (n_ := 0) (z_ := (11, 15)) H6.1 rfl)), List.forall_mem_cons.mpr ⟨rfl, List.forall_mem_cons.mpr ⟨rfl, List.forall_mem_cons.mpr ⟨rfl, fun q_ hq => absurd hq List.not_mem_nil⟩⟩⟩⟩) (fun t_ ht => absurd ht List.not_mem_nil) (Nat.le_of_ble_eq_true rfl)) K_ H6 (Or.inr ⟨rfl, rfl⟩) (Or.inr ⟨rfl, rfl⟩) hc_ gw2 RWc
  obtain ⟨h8, m8_, f8_, ld8⟩ := xpaK (v1_ := Int32.ofNat c_) (v2 := d_) (v3 := e_) H7.1
  have H8 := SX_fr H7 m8_ (fun c_ j_ _ => f8_ c_ j_)
  have Ra_ : rwx h8 318 319 12 (hrd W_ V d_ (W_ c_)) := rwx_keep (rwx_keep (rwx_keep R5.2.1 m6_ (fun c_ j_ _ => f6_ c_ j_)) F7.1 (fun c_ j_ hc_ => F7.2 c_ j_ (by omega) (by omega) (by omega) (by omega))) m8_ (fun c_ j_ _ => f8_ c_ j_)
  have Rb_ : rwx h8 320 321 12 (hrd W_ V e_ (W_ c_)) := rwx_keep R7.2.1 m8_ (fun c_ j_ _ => f8_ c_ j_)
  obtain ⟨h9, m9_, f9_, r9⟩ := fuX12 H8.1 Ra_ Rb_
  have ld9 := ycv (d_ := 60) (mi := 97) (pc := 100) (cm := 40) (lo_ := [(0, .index 0), (1, .int (Int32.ofNat c_)), (2, .int d_), (3, .int e_)]) (st_ := [.index 320, .index 318]) (as_ := [.index 320]) (s' := []) rfl rfl Ra_.1.1 rfl (xcc_l (List.forall_mem_cons.mpr ⟨xidx_i (bcq_lt (bcq_of (n_ := 0) (z_ := (11, 15)) H8.1 rfl)), List.forall_mem_cons.mpr ⟨rfl, List.forall_mem_cons.mpr ⟨rfl, List.forall_mem_cons.mpr ⟨rfl, fun q_ hq => absurd hq List.not_mem_nil⟩⟩⟩⟩) (fun t_ ht => absurd ht List.not_mem_nil) (Nat.le_of_ble_eq_true rfl)) r9
  have H9 := SX_fr H8 m9_ (fun c_ j_ _ => f9_ c_ j_)
  have fy9 : ∀ k_, bpat h9 323 k_ = bpat h_ 323 k_ := fun k_ => (f9_ _ _).trans ((f8_ _ _).trans ((F7.2 _ _ (by omega) (by omega) (by omega) (by omega)).trans ((f6_ _ _).trans ((F5.2 _ _ (by omega) (by omega) (by omega) (by omega)).trans ((f4_ _ _).trans (fy3 k_))))))
  have MM := ysm_tr M3_ (ysm_tr m4_ (ysm_tr F5.1 (ysm_tr m6_ (ysm_tr F7.1 (ysm_tr m8_ m9_)))))
  by_cases g_ : hrd W_ V d_ (W_ c_) = hrd W_ V e_ (W_ c_)
  · rw [if_pos g_]
    rw [g_, fuF_1] at ld9
    obtain ⟨h10, m10_, w0_, f10, r10⟩ := xpaN (v1_ := Int32.ofNat c_) (v2 := d_) (v3 := e_) (v5 := Int32.ofInt (-1)) H9.1 ((fy9 2).trans oy2) (by omega)
    exact ⟨h10, ysm_tr MM m10_, SX_e H9 m10_ f10, fun D_ hD => r_ D_ (by omega) _ (ld1 D_ (by omega) _ (ld2 D_ (by omega) _ (ld3 D_ (by omega) _ (ld4 D_ (by omega) _ (ld5 D_ (by omega) _ (ld6 D_ (by omega) _ (ld7 D_ (by omega) _ (ld8 D_ (by omega) _ (ld9 D_ (by omega) _ (r10 D_ (by omega)))))))))))⟩
  · rw [if_neg g_]
    rw [fuF_n g_] at ld9
    have fl_ := fuN_l (l1 := hrd W_ V d_ (W_ c_)) (l2 := hrd W_ V e_ (W_ c_))
    have fl2 := Ra_.2.2.1
    obtain ⟨h10, m10_, f10, r10⟩ := xpaP (v1_ := Int32.ofNat c_) (v2 := d_) (v3 := e_) (v5 := Int32.ofNat (fuN (hrd W_ V d_ (W_ c_)) (hrd W_ V e_ (W_ c_)))) H9.1 (by rw [i32n (by omega)]; omega)
    exact ⟨h10, ysm_tr MM m10_, SX_fr H9 m10_ (fun c_ j_ _ => f10 c_ j_), fun D_ hD => r_ D_ (by omega) _ (ld1 D_ (by omega) _ (ld2 D_ (by omega) _ (ld3 D_ (by omega) _ (ld4 D_ (by omega) _ (ld5 D_ (by omega) _ (ld6 D_ (by omega) _ (ld7 D_ (by omega) _ (ld8 D_ (by omega) _ (ld9 D_ (by omega) _ (r10 D_ (by omega)))))))))))⟩
theorem pa_lp {x1_ x2_ x3 : Int32} {l1 l2 : List Int32} : ∀ (r_ i_ : Nat) (h_ : xH), i_ + r_ = l1.length → rM 342 h_ l1 → rM 343 h_ l2 → (∀ j_, j_ < i_ → ∃ x_, l1[j_]? = some x_ ∧ l2[j_]? = some x_) → ∃ h', ysm h_ h' ∧ ((∀ c_ j_, bpat h' c_ j_ = bpat h_ c_ j_) ∧ ∀ D_, 60 ≤ D_ → xrun D_ 201 73 [(4, .int (Int32.ofNat (i_ + 1))), (0, .index 338), (1, .int x1_), (2, .int x2_), (3, .int x3)] [] h_ (some (.int (Int32.ofNat (fuN l1 l2))), h', [])) := by
  intro r_
  induction r_ with
  | zero =>
    intro i_ h_ hi_ R1 R2 P_
    have ll1 := R1.2.2
    have en : fuN l1 l2 = i_ := fuN_i i_ l1 l2 P_ (fun x_ q1_ q2_ => by
      have k1_ := (List.getElem?_eq_some_iff.mp q1_).1
      omega)
    obtain ⟨h1, m1_, f1_, r1_⟩ := mpaY (v1_ := x1_) (v2 := x2_) (v3 := x3) (v4_ := Int32.ofNat (i_ + 1)) (v300 := Int32.ofNat l1.length) R1.1 R1.2.1.2.1 (by rw [i32n (by omega), i32n (by omega)]; omega)
    rw [show Int32.ofNat (i_ + 1) - 1 = Int32.ofNat i_ by rw [← i32s, i32a]] at r1_
    rw [en]
    exact ⟨h1, m1_, f1_, r1_⟩
  | succ r_ ih_ =>
    intro i_ h_ hi_ R1 R2 P_
    have ll1 := R1.2.2
    have ll2 := R2.2.2
    have lt1 : i_ < l1.length := by omega
    have ii := i32n (i_ := i_ + 1) (by omega)
    have il := i32n (i_ := l1.length) (by omega)
    have il2 := i32n (i_ := l2.length) (by omega)
    have o1 := R1.2.1.2.2 i_ _ (getD_a lt1)
    rw [show 0 + 1 + i_ = i_ + 1 by omega] at o1
    by_cases lt2 : i_ < l2.length
    · have o2 := R2.2.1.2.2 i_ _ (getD_a lt2)
      rw [show 0 + 1 + i_ = i_ + 1 by omega] at o2
      by_cases g_ : l1.getD i_ 0 = l2.getD i_ 0
      · obtain ⟨h1, m1_, f1_, ld1⟩ := mpaT (v1_ := x1_) (v2 := x2_) (v3 := x3) (v4_ := Int32.ofNat (i_ + 1)) (v300 := Int32.ofNat l1.length) (v301 := Int32.ofNat l2.length) (v302 := l1.getD i_ 0) (v303 := l2.getD i_ 0) R1.1 R1.2.1.2.1 R2.2.1.2.1 (by rw [i32t (by omega)]; exact o1) (by rw [i32t (by omega)]; exact o2) ⟨by omega, by omega⟩ g_ (by omega) (by omega)
        rw [i32s] at ld1
        obtain ⟨h2, m2_, f2_, r2⟩ := ih_ (i_ + 1) h1 (by omega) (rM_all R1 m1_ f1_) (rM_all R2 m1_ f1_) (fun j_ hj => by
          by_cases gj : j_ = i_
          · subst gj
            exact ⟨_, getD_a lt1, by rw [g_]; exact getD_a lt2⟩
          · exact P_ j_ (by omega))
        exact ⟨h2, ysm_tr m1_ m2_, fun c_ j_ => (f2_ c_ j_).trans (f1_ c_ j_), fun D_ hD => ld1 D_ hD _ (r2 D_ hD)⟩
      · have en : fuN l1 l2 = i_ := fuN_i i_ l1 l2 P_ (fun x_ q1_ q2_ => g_ (by
          rw [getD_a lt1] at q1_
          rw [getD_a lt2] at q2_
          exact (Option.some.inj q1_).trans (Option.some.inj q2_).symm))
        obtain ⟨h1, m1_, f1_, r1_⟩ := mpaU (v1_ := x1_) (v2 := x2_) (v3 := x3) (v4_ := Int32.ofNat (i_ + 1)) (v300 := Int32.ofNat l1.length) (v301 := Int32.ofNat l2.length) (v302 := l1.getD i_ 0) (v303 := l2.getD i_ 0) R1.1 R1.2.1.2.1 R2.2.1.2.1 (by rw [i32t (by omega)]; exact o1) (by rw [i32t (by omega)]; exact o2) ⟨by omega, by omega⟩ g_ (by omega) (by omega)
        rw [show Int32.ofNat (i_ + 1) - 1 = Int32.ofNat i_ by rw [← i32s, i32a]] at r1_
        rw [en]
        exact ⟨h1, m1_, f1_, r1_⟩
    · have en : fuN l1 l2 = i_ := fuN_i i_ l1 l2 P_ (fun x_ q1_ q2_ => by
        have k2_ := (List.getElem?_eq_some_iff.mp q2_).1
        omega)
      obtain ⟨h1, m1_, f1_, r1_⟩ := mpaX (v1_ := x1_) (v2 := x2_) (v3 := x3) (v4_ := Int32.ofNat (i_ + 1)) (v300 := Int32.ofNat l1.length) (v301 := Int32.ofNat l2.length) R1.1 R1.2.1.2.1 R2.2.1.2.1 (by omega) (by omega)
      rw [show Int32.ofNat (i_ + 1) - 1 = Int32.ofNat i_ by rw [← i32s, i32a]] at r1_
      rw [en]
      exact ⟨h1, m1_, f1_, r1_⟩
theorem m_part {W_ : Nat → List Int32} {V : Nat → Int32} {h_ : xH} {z_ d_ e_ : Int32} (B_ : bInv bZ bIj h_) (K_ : okS W_ V) (H_ : SM W_ V h_) : ∃ h', ysm h_ h' ∧ (SM (partF W_ V z_ d_ e_).1 (partF W_ V z_ d_ e_).2.1 h' ∧ ∀ D_, 70 ≤ D_ → xrun D_ 201 0 [(0, .index 338), (1, .int z_), (2, .int d_), (3, .int e_)] [] h_ (some (.int (partF W_ V z_ d_ e_).2.2), h', [])) := by
  obtain ⟨y_, oy⟩ := merr (k_ := 1) B_ (by omega)
  obtain ⟨y2, oy2⟩ := merr (k_ := 2) B_ (by omega)
  have zz := z0_
  have kN_ := okN K_
  have n1_ := i32j (V 0) kN_.1 (by omega)
  have hz := m339 B_
  unfold partF
  obtain ⟨h0, m0_, q_⟩ := mpaE (v1_ := z_) (v2 := d_) (v3 := e_) H_.1 (mNc H_) oy
  rcases q_ with ⟨g1, g2, f_, r_⟩ | ⟨g1, w0_, f_, r_⟩ | ⟨g1, g2, w0_, f_, r_⟩
  rotate_left
  · rw [pif_f (fun q_ => by omega)]; exact ⟨h0, m0_, SM_e H_ m0_ f_, fun D_ hD => r_ D_ (by omega)⟩
  · rw [pif_f (fun q_ => by omega)]; exact ⟨h0, m0_, SM_e H_ m0_ f_, fun D_ hD => r_ D_ (by omega)⟩
  have H0 := SM_fr H_ m0_ (fun c_ j_ _ => f_ c_ j_)
  obtain ⟨c_, hc_, hN_, rfl, ec⟩ := isC_n (z_ := z_) K_ ⟨by omega, by omega⟩
  obtain ⟨h1, ⟨H1_, F1_⟩, e1_⟩ := c_isw (mi := 201) (pc := 10) (lo_ := [(0, .index 338), (1, .int (Int32.ofNat c_)), (2, .int d_), (3, .int e_)]) (z_ := d_) (s' := []) rfl (xcc_l (List.forall_mem_cons.mpr ⟨xidx_i (bcq_lt (bcq_of (n_ := 338) (z_ := (12, 26)) H0.1 rfl)), List.forall_mem_cons.mpr ⟨rfl, List.forall_mem_cons.mpr ⟨rfl, List.forall_mem_cons.mpr ⟨rfl, fun q_ hq => absurd hq List.not_mem_nil⟩⟩⟩⟩) (fun t_ ht => absurd ht List.not_mem_nil) (Nat.le_of_ble_eq_true rfl)) K_ H0
  have fy1 : ∀ k_, bpat h1 341 k_ = bpat h_ 341 k_ := fun k_ => (F1_.2 _ _).trans (f_ _ _)
  rcases e1_ with ⟨gw, ld1⟩ | ⟨gw, ld1⟩
  rotate_left
  · rw [pif_f (fun q_ => gw q_.1.2)]
    obtain ⟨h2, m2_, w0_, f2_, r2⟩ := mpaF (v1_ := Int32.ofNat c_) (v2 := d_) (v3 := e_) H1_.1 ((fy1 1).trans oy)
    exact ⟨h2, ysm_tr m0_ (ysm_tr F1_.1 m2_), SM_e H1_ m2_ f2_, fun D_ hD => r_ D_ (by omega) _ (ld1 D_ (by omega) _ (r2 D_ (by omega)))⟩
  obtain ⟨h2, m2_, f2_, ld2⟩ := mpaG (v1_ := Int32.ofNat c_) (v2 := d_) (v3 := e_) H1_.1
  have H2_ := SM_fr H1_ m2_ (fun c_ j_ _ => f2_ c_ j_)
  obtain ⟨h3, ⟨H3, F3⟩, e3_⟩ := c_isw (mi := 201) (pc := 18) (lo_ := [(0, .index 338), (1, .int (Int32.ofNat c_)), (2, .int d_), (3, .int e_)]) (z_ := e_) (s' := []) rfl (xcc_l (List.forall_mem_cons.mpr ⟨xidx_i (bcq_lt (bcq_of (n_ := 338) (z_ := (12, 26)) H2_.1 rfl)), List.forall_mem_cons.mpr ⟨rfl, List.forall_mem_cons.mpr ⟨rfl, List.forall_mem_cons.mpr ⟨rfl, fun q_ hq => absurd hq List.not_mem_nil⟩⟩⟩⟩) (fun t_ ht => absurd ht List.not_mem_nil) (Nat.le_of_ble_eq_true rfl)) K_ H2_
  have fy3 : ∀ k_, bpat h3 341 k_ = bpat h_ 341 k_ := fun k_ => (F3.2 _ _).trans ((f2_ _ _).trans (fy1 k_))
  have M3_ := ysm_tr m0_ (ysm_tr F1_.1 (ysm_tr m2_ F3.1))
  rcases e3_ with ⟨gw2, ld3⟩ | ⟨gw2, ld3⟩
  rotate_left
  · rw [pif_f (fun q_ => gw2 q_.2)]
    obtain ⟨h4, m4_, w0_, f4_, r4⟩ := mpaH (v1_ := Int32.ofNat c_) (v2 := d_) (v3 := e_) H3.1 ((fy3 1).trans oy)
    exact ⟨h4, ysm_tr M3_ m4_, SM_e H3 m4_ f4_, fun D_ hD => r_ D_ (by omega) _ (ld1 D_ (by omega) _ (ld2 D_ (by omega) _ (ld3 D_ (by omega) _ (r4 D_ (by omega)))))⟩
  rw [pif_t ⟨⟨⟨by omega, by omega⟩, gw⟩, gw2⟩, ec]
  obtain ⟨h4, m4_, f4_, ld4⟩ := mpaI (v1_ := Int32.ofNat c_) (v2 := d_) (v3 := e_) H3.1
  have H4 := SM_fr H3 m4_ (fun c_ j_ _ => f4_ c_ j_)
  have hz4 : ∀ j_, j_ < 768 → ∃ y_ : Int32, bpat h4 339 j_ = some (.int y_) := fun j_ hj => by rw [f4_, F3.2, f2_, F1_.2, f_]; exact hz j_ hj
  obtain ⟨h5, ⟨H5, F5⟩, R5, ld5⟩ := c_hears (mi := 201) (pc := 37) (lo_ := [(0, .index 338), (1, .int (Int32.ofNat c_)), (2, .int d_), (3, .int e_)]) (b_ := 342) (s' := []) rfl (xcc_l (List.forall_mem_cons.mpr ⟨xidx_i (bcq_lt (bcq_of (n_ := 338) (z_ := (12, 26)) H4.1 rfl)), List.forall_mem_cons.mpr ⟨rfl, List.forall_mem_cons.mpr ⟨rfl, List.forall_mem_cons.mpr ⟨rfl, fun q_ hq => absurd hq List.not_mem_nil⟩⟩⟩⟩) (fun t_ ht => absurd ht List.not_mem_nil) (Nat.le_of_ble_eq_true rfl)) K_ H4 (Or.inl rfl) hc_ gw hz4
  obtain ⟨h6, m6_, f6_, ld6⟩ := mpaJ (v1_ := Int32.ofNat c_) (v2 := d_) (v3 := e_) H5.1
  have H6 := SM_fr H5 m6_ (fun c_ j_ _ => f6_ c_ j_)
  obtain ⟨h7, ⟨H7, F7⟩, R7, ld7⟩ := c_hears (mi := 201) (pc := 47) (lo_ := [(0, .index 338), (1, .int (Int32.ofNat c_)), (2, .int d_), (3, .int e_)]) (b_ := 343) (s' := []) rfl (xcc_l (List.forall_mem_cons.mpr ⟨xidx_i (bcq_lt (bcq_of (n_ := 338) (z_ := (12, 26)) H6.1 rfl)), List.forall_mem_cons.mpr ⟨rfl, List.forall_mem_cons.mpr ⟨rfl, List.forall_mem_cons.mpr ⟨rfl, fun q_ hq => absurd hq List.not_mem_nil⟩⟩⟩⟩) (fun t_ ht => absurd ht List.not_mem_nil) (Nat.le_of_ble_eq_true rfl)) K_ H6 (Or.inr (Or.inl rfl)) hc_ gw2 (fun j_ hj => by rw [f6_, F5.2 _ _ (by omega) (by omega) (by omega)]; exact hz4 j_ hj)
  have Ra7 : rM 342 h7 (hrd W_ V d_ (W_ c_)) := by
    have z_ := rM_all R5 m6_ f6_
    exact ⟨F7.1.1, rwm_keep z_.2.1 F7.1 (fun j_ _ _ => F7.2 342 j_ (by omega) (by omega) (by omega)), z_.2.2⟩
  obtain ⟨h8, m8_, f8_, ld8⟩ := mpaK (v1_ := Int32.ofNat c_) (v2 := d_) (v3 := e_) H7.1
  have H8 := SM_fr H7 m8_ (fun c_ j_ _ => f8_ c_ j_)
  have Ra_ := rM_all Ra7 m8_ f8_
  have Rb_ := rM_all R7 m8_ f8_
  obtain ⟨h9, m9_, f9_, r9⟩ := alM Ra_ Rb_
  have ld9 := ycs (d_ := 60) (mi := 201) (pc := 58) (cm := 144) (lo_ := [(0, .index 338), (1, .int (Int32.ofNat c_)), (2, .int d_), (3, .int e_)]) (st_ := [.index 343, .index 342]) (as_ := [.index 342, .index 343]) (s' := []) (h_ := h8) rfl rfl rfl (xcc_l (List.forall_mem_cons.mpr ⟨xidx_i (bcq_lt (bcq_of (n_ := 338) (z_ := (12, 26)) H8.1 rfl)), List.forall_mem_cons.mpr ⟨rfl, List.forall_mem_cons.mpr ⟨rfl, List.forall_mem_cons.mpr ⟨rfl, fun q_ hq => absurd hq List.not_mem_nil⟩⟩⟩⟩) (fun t_ ht => absurd ht List.not_mem_nil) (Nat.le_of_ble_eq_true rfl)) r9
  have H9 := SM_fr H8 m9_ (fun c_ j_ _ => f9_ c_ j_)
  have fy9 : ∀ k_, bpat h9 341 k_ = bpat h_ 341 k_ := fun k_ => (f9_ _ _).trans ((f8_ _ _).trans ((F7.2 _ _ (by omega) (by omega) (by omega)).trans ((f6_ _ _).trans ((F5.2 _ _ (by omega) (by omega) (by omega)).trans ((f4_ _ _).trans (fy3 k_))))))
  have MM := ysm_tr M3_ (ysm_tr m4_ (ysm_tr F5.1 (ysm_tr m6_ (ysm_tr F7.1 (ysm_tr m8_ m9_)))))
  by_cases g_ : hrd W_ V d_ (W_ c_) = hrd W_ V e_ (W_ c_)
  · rw [if_pos g_]
    rw [if_pos g_] at ld9
    obtain ⟨h10, m10_, w0_, f10, r10⟩ := mpaL (v1_ := Int32.ofNat c_) (v2 := d_) (v3 := e_) H9.1 ((fy9 2).trans oy2)
    exact ⟨h10, ysm_tr MM m10_, SM_e H9 m10_ f10, fun D_ hD => r_ D_ (by omega) _ (ld1 D_ (by omega) _ (ld2 D_ (by omega) _ (ld3 D_ (by omega) _ (ld4 D_ (by omega) _ (ld5 D_ (by omega) _ (ld6 D_ (by omega) _ (ld7 D_ (by omega) _ (ld8 D_ (by omega) _ (ld9 D_ (by omega) _ (r10 D_ (by omega)))))))))))⟩
  · rw [if_neg g_]
    rw [if_neg g_] at ld9
    obtain ⟨h10, m10_, f10, ld10⟩ := mpaM (v1_ := Int32.ofNat c_) (v2 := d_) (v3 := e_) H9.1
    have H10 := SM_fr H9 m10_ (fun c_ j_ _ => f10 c_ j_)
    obtain ⟨h11, m11_, f11_, r11⟩ := pa_lp (l1 := hrd W_ V d_ (W_ c_)) (l2 := hrd W_ V e_ (W_ c_)) (hrd W_ V d_ (W_ c_)).length 0 h10 (by omega) (rM_all (rM_all Ra_ m9_ f9_) m10_ f10) (rM_all (rM_all Rb_ m9_ f9_) m10_ f10) (fun j_ hj => by omega)
    exact ⟨h11, ysm_tr MM (ysm_tr m10_ m11_), SM_fr H10 m11_ (fun c_ j_ _ => f11_ c_ j_), fun D_ hD => r_ D_ (by omega) _ (ld1 D_ (by omega) _ (ld2 D_ (by omega) _ (ld3 D_ (by omega) _ (ld4 D_ (by omega) _ (ld5 D_ (by omega) _ (ld6 D_ (by omega) _ (ld7 D_ (by omega) _ (ld8 D_ (by omega) _ (ld9 D_ (by omega) _ (ld10 D_ (by omega) _ (r11 D_ (by omega))))))))))))⟩
-- ===== check
noncomputable def checkF (W_ : Nat → List Int32) (V : Nat → Int32) (z_ d_ : Int32) : (Nat → List Int32) × (Nat → Int32) × Int32 := (upR W_ 21 [], V, pif ((0 ≤ z_.toInt ∧ z_.toInt < (V 0).toInt) ∧ isW (nR V) d_) (1 + fuF (W_ 21) (hrd W_ V d_ (W_ z_.toInt.toNat))) (Int32.ofInt (-1000001)))
theorem ok_check {W_ : Nat → List Int32} {V : Nat → Int32} (K_ : okS W_ V) (z_ d_ : Int32) : okS (checkF W_ V z_ d_).1 (checkF W_ V z_ d_).2.1 := okS_wait K_ (Nat.zero_le _)
theorem k21 : (7, 8, 24, 21) ∈ wrX := by decide
/-- none waits any more, an ERROR was counted -/
theorem SX_w0 {W_ : Nat → List Int32} {V : Nat → Int32} {h_ h' : xH} (H_ : SX W_ V h_) (m_ : ysm h_ h') (e_ : bpat h' 7 1 = some (.int 0)) (f_ : ∀ c_ j_, ¬ (c_ = 7 ∧ j_ = 1) → ¬ (c_ = 323 ∧ j_ = 1) → bpat h' c_ j_ = bpat h_ c_ j_) : SX (upR W_ 21 []) V h' := SX_r H_ m_ k21 (rwx_nil (SX_w H_ k21) m_ e_ (fun j_ n_ => f_ _ j_ (fun q_ => n_ q_.2) (fun q_ => by omega))) (fun c_ j_ hc_ n1_ _ => f_ c_ j_ (fun q_ => n1_ q_.1) (fun q_ => by rw [q_.1] at hc_; exact absurd hc_ (by decide)))
theorem xT_check {W_ : Nat → List Int32} {V : Nat → Int32} {h_ : xH} {z_ d_ : Int32} (B_ : bInv bZ bIj h_) (K_ : okS W_ V) (H_ : SX W_ V h_) : ∃ h', ysm h_ h' ∧ (SX (checkF W_ V z_ d_).1 (checkF W_ V z_ d_).2.1 h' ∧ ∀ D_, 70 ≤ D_ → xrun D_ 115 0 [(0, .index 0), (1, .int z_), (2, .int d_)] [] h_ (some (.int (checkF W_ V z_ d_).2.2), h', [])) := by
  obtain ⟨y_, oy⟩ := xerr (k_ := 1) B_ (by omega)
  have zz := z0_
  unfold checkF
  obtain ⟨h0, m0_, q_⟩ := xckE (v1_ := z_) (v2 := d_) H_.1 (xNc H_) oy
  rcases q_ with ⟨g1, g2, f_, r_⟩ | ⟨g1, w0_, w1_, f_, r_⟩ | ⟨g1, g2, w0_, w1_, f_, r_⟩
  rotate_left
  · rw [pif_f (fun q_ => by omega)]; exact ⟨h0, m0_, SX_w0 H_ m0_ w1_ (fun c_ j_ n1_ n2_ => f_ c_ j_ n2_ n1_), fun D_ hD => r_ D_ (by omega)⟩
  · rw [pif_f (fun q_ => by omega)]; exact ⟨h0, m0_, SX_w0 H_ m0_ w1_ (fun c_ j_ n1_ n2_ => f_ c_ j_ n2_ n1_), fun D_ hD => r_ D_ (by omega)⟩
  have H0 := SX_fr H_ m0_ (fun c_ j_ _ => f_ c_ j_)
  obtain ⟨c_, hc_, hN_, rfl, ec⟩ := isC_n (z_ := z_) K_ ⟨by omega, by omega⟩
  obtain ⟨h1, ⟨H1_, F1_⟩, e1_⟩ := c_rdw (mi := 115) (pc := 17) (lo_ := [(0, .index 0), (1, .int (Int32.ofNat c_)), (2, .int d_)]) (z_ := d_) (s' := []) rfl (xcc_l (List.forall_mem_cons.mpr ⟨xidx_i (bcq_lt (bcq_of (n_ := 0) (z_ := (11, 15)) H0.1 rfl)), List.forall_mem_cons.mpr ⟨rfl, List.forall_mem_cons.mpr ⟨rfl, fun q_ hq => absurd hq List.not_mem_nil⟩⟩⟩) (fun t_ ht => absurd ht List.not_mem_nil) (Nat.le_of_ble_eq_true rfl)) K_ H0 (Or.inl ⟨rfl, rfl⟩)
  have fy : bpat h1 323 1 = some (.int y_) := (F1_.2 _ _ (by omega) (by omega)).trans ((f_ _ _).trans oy)
  rcases e1_ with ⟨gw, RW, ld1⟩ | ⟨gw, ld1⟩
  · rw [pif_t ⟨⟨by omega, by omega⟩, gw⟩, ec]
    obtain ⟨s1_, s2_, s3_⟩ := cl_s H1_.1 hc_
    obtain ⟨h2, m2_, f2_, ld2⟩ := xckG (v1_ := Int32.ofNat c_) (v2 := d_) H1_.1 s2_ (by rw [ec]; exact s1_) ⟨by omega, by omega⟩
    have H2_ := SX_fr H1_ m2_ (fun c_ j_ _ => f2_ c_ j_)
    obtain ⟨h3, ⟨H3, F3⟩, R3, ld3⟩ := c_hear (mi := 115) (pc := 60) (lo_ := [(0, .index 0), (1, .int (Int32.ofNat c_)), (2, .int d_)]) (s' := []) rfl (xcc_l (List.forall_mem_cons.mpr ⟨xidx_i (bcq_lt (bcq_of (n_ := 0) (z_ := (11, 15)) H2_.1 rfl)), List.forall_mem_cons.mpr ⟨rfl, List.forall_mem_cons.mpr ⟨rfl, fun q_ hq => absurd hq List.not_mem_nil⟩⟩⟩) (fun t_ ht => absurd ht List.not_mem_nil) (Nat.le_of_ble_eq_true rfl)) K_ H2_ (Or.inl ⟨rfl, rfl⟩) (Or.inl ⟨rfl, rfl⟩) hc_ gw (rwx_keep RW m2_ (fun c_ j_ _ => f2_ c_ j_))
    obtain ⟨h4, m4_, f4_, ld4⟩ := xckH (v1_ := Int32.ofNat c_) (v2 := d_) H3.1
    have H4 := SX_fr H3 m4_ (fun c_ j_ _ => f4_ c_ j_)
    have R4 := rW_all R3 m4_ f4_
    have RC := SX_w H4 k21
    obtain ⟨h5, m5_, f5_, r5_⟩ := fuX24 H4.1 RC R4.2.1
    have ld5 := ycv (d_ := 60) (mi := 115) (pc := 74) (cm := 40) (lo_ := [(0, .index 0), (1, .int (Int32.ofNat c_)), (2, .int d_)]) (st_ := [.index 318, .index 7]) (as_ := [.index 318]) (s' := []) rfl rfl RC.1.1 rfl (xcc_l (List.forall_mem_cons.mpr ⟨xidx_i (bcq_lt (bcq_of (n_ := 0) (z_ := (11, 15)) H4.1 rfl)), List.forall_mem_cons.mpr ⟨rfl, List.forall_mem_cons.mpr ⟨rfl, fun q_ hq => absurd hq List.not_mem_nil⟩⟩⟩) (fun t_ ht => absurd ht List.not_mem_nil) (Nat.le_of_ble_eq_true rfl)) r5_
    have H5 := SX_fr H4 m5_ (fun c_ j_ _ => f5_ c_ j_)
    obtain ⟨h6, m6_, e6_, f6_, r6⟩ := xckR (v1_ := Int32.ofNat c_) (v2 := d_) (v5 := fuF (W_ 21) (hrd W_ V d_ (W_ c_))) H5.1
    exact ⟨h6, ysm_tr m0_ (ysm_tr F1_.1 (ysm_tr m2_ (ysm_tr F3.1 (ysm_tr m4_ (ysm_tr m5_ m6_))))), SX_w0 H5 m6_ e6_ (fun c_ j_ n1_ _ => f6_ c_ j_ n1_), fun D_ hD => r_ D_ (by omega) _ (ld1 D_ (by omega) _ (ld2 D_ (by omega) _ (ld3 D_ (by omega) _ (ld4 D_ (by omega) _ (ld5 D_ (by omega) _ (r6 D_ (by omega)))))))⟩
  · rw [pif_f (fun q_ => gw q_.2)]
    obtain ⟨h2, m2_, w0_, e7_, f2_, r2⟩ := xckF (v1_ := Int32.ofNat c_) (v2 := d_) H1_.1 fy
    exact ⟨h2, ysm_tr m0_ (ysm_tr F1_.1 m2_), SX_w0 H1_ m2_ e7_ (fun c_ j_ n1_ n2_ => f2_ c_ j_ n2_ n1_), fun D_ hD => r_ D_ (by omega) _ (ld1 D_ (by omega) _ (r2 D_ (by omega)))⟩
theorem ck_lp {x1_ x2_ : Int32} {l1 l2 : List Int32} (hl1 : l1.length ≤ 24) : ∀ (r_ i_ : Nat) (h_ : xH), i_ + r_ = l1.length → rM 342 h_ l2 → (∀ j_ x_, l1[j_]? = some x_ → bpat h_ 339 (744 + j_) = some (.int x_)) → (∀ j_, j_ < i_ → ∃ x_, l1[j_]? = some x_ ∧ l2[j_]? = some x_) → ∃ h', ysm h_ h' ∧ ((∀ c_ j_, bpat h' c_ j_ = bpat h_ c_ j_) ∧ ∀ D_, 60 ≤ D_ → xrun D_ 235 51 [(4, .int (Int32.ofNat i_)), (3, .int (Int32.ofNat l1.length)), (0, .index 338), (1, .int x1_), (2, .int x2_)] [] h_ (some (.int (1 + fuF l1 l2)), h', [])) := by
  intro r_
  -- behind the loop
  have fin_ : ∀ (i_ : Nat) (h_ : xH), i_ ≤ l1.length → rM 342 h_ l2 → (∀ j_, j_ < i_ → ∃ x_, l1[j_]? = some x_ ∧ l2[j_]? = some x_) → (∀ x_, l1[i_]? = some x_ → l2[i_]? = some x_ → False) → ∃ h', ysm h_ h' ∧ ((∀ c_ j_, bpat h' c_ j_ = bpat h_ c_ j_) ∧ ∀ D_, 60 ≤ D_ → xrun D_ 235 97 [(4, .int (Int32.ofNat i_)), (3, .int (Int32.ofNat l1.length)), (0, .index 338), (1, .int x1_), (2, .int x2_)] [] h_ (some (.int (1 + fuF l1 l2)), h', [])) := by
    intro i_ h_ hi_ R2 P_ N_
    have ll2 := R2.2.2
    have en : fuN l1 l2 = i_ := fuN_i i_ l1 l2 P_ N_
    have jn : ∀ n_ m_ : Nat, n_ < 1000 → m_ < 1000 → Int32.ofNat n_ = Int32.ofNat m_ → n_ = m_ := fun n_ m_ q1_ q2_ q_ => by
      have q_ := congrArg Int32.toInt q_
      rw [i32n (by omega), i32n (by omega)] at q_
      omega
    have lm2 : i_ ≤ l2.length := by
      rcases Nat.lt_or_ge l2.length i_ with g_ | g_
      · obtain ⟨x_, -, e2_⟩ := P_ l2.length g_
        rw [List.getElem?_eq_none_iff.mpr (Nat.le_refl _)] at e2_
        cases e2_
      · exact g_
    by_cases g1 : i_ = l1.length
    · by_cases g2 : i_ = l2.length
      · have e0_ : l1 = l2 := fu_eq (by omega) (fun j_ hj => P_ j_ (by omega))
        obtain ⟨h1, m1_, f1_, r1_⟩ := mckA (v1_ := x1_) (v2 := x2_) (v3 := Int32.ofNat l1.length) (v4_ := Int32.ofNat i_) (v300 := Int32.ofNat l2.length) R2.1 R2.2.1.2.1 (by rw [g1]) (by rw [g2])
        have ez : (1 : Int32) + fuF l1 l2 = 0 := by rw [e0_, fuF_1]; decide
        rw [ez]
        exact ⟨h1, m1_, f1_, r1_⟩
      · have e0_ : ¬ l1 = l2 := fun q_ => g2 (by rw [← q_]; exact g1)
        obtain ⟨h1, m1_, f1_, r1_⟩ := mckB (v1_ := x1_) (v2 := x2_) (v3 := Int32.ofNat l1.length) (v4_ := Int32.ofNat i_) (v300 := Int32.ofNat l2.length) R2.1 R2.2.1.2.1 (by rw [g1]) (fun q_ => g2 (jn _ _ (by omega) (by omega) q_))
        rw [fuF_n e0_, en]
        exact ⟨h1, m1_, f1_, r1_⟩
    · have e0_ : ¬ l1 = l2 := fun q_ => by
        have lt_ : i_ < l1.length := by omega
        exact N_ _ (getD_a lt_) (by rw [← q_]; exact getD_a lt_)
      obtain ⟨h1, m1_, f1_, r1_⟩ := mckC (v1_ := x1_) (v2 := x2_) (v3 := Int32.ofNat l1.length) (v4_ := Int32.ofNat i_) R2.1 (fun q_ => g1 (jn _ _ (by omega) (by omega) q_))
      rw [fuF_n e0_, en]
      exact ⟨h1, m1_, f1_, r1_⟩
  induction r_ with
  | zero =>
    intro i_ h_ hi_ R2 S_ P_
    obtain ⟨h1, m1_, f1_, ld1⟩ := mckY (v1_ := x1_) (v2 := x2_) (v3 := Int32.ofNat l1.length) (v4_ := Int32.ofNat i_) R2.1 (by rw [i32n (by omega), i32n (by omega)]; omega)
    obtain ⟨h2, m2_, f2_, r2⟩ := fin_ i_ h1 (by omega) (rM_all R2 m1_ f1_) P_ (fun x_ q1_ q2_ => by
      have k1_ := (List.getElem?_eq_some_iff.mp q1_).1
      omega)
    exact ⟨h2, ysm_tr m1_ m2_, fun c_ j_ => (f2_ c_ j_).trans (f1_ c_ j_), fun D_ hD => ld1 D_ hD _ (r2 D_ hD)⟩
  | succ r_ ih_ =>
    intro i_ h_ hi_ R2 S_ P_
    have ll2 := R2.2.2
    have lt1 : i_ < l1.length := by omega
    have ii := i32n (i_ := i_) (by omega)
    have il := i32n (i_ := l1.length) (by omega)
    have il2 := i32n (i_ := l2.length) (by omega)
    have o1 := S_ i_ _ (getD_a lt1)
    have e1_ : (744 : Int32) + Int32.ofNat i_ = Int32.ofNat (744 + i_) := i32p 744 i_
    have t1_ : ((744 : Int32) + Int32.ofNat i_).toInt = ((744 + i_ : Nat) : Int) := by rw [e1_]; exact i32n (by omega)
    have n1_ : ((744 : Int32) + Int32.ofNat i_).toInt.toNat = 744 + i_ := by rw [t1_]; rfl
    have e2_ : (1 : Int32) + Int32.ofNat i_ = Int32.ofNat (1 + i_) := i32p 1 i_
    have t2_ : ((1 : Int32) + Int32.ofNat i_).toInt = ((1 + i_ : Nat) : Int) := by rw [e2_]; exact i32n (by omega)
    have n2_ : ((1 : Int32) + Int32.ofNat i_).toInt.toNat = 1 + i_ := by rw [t2_]; rfl
    by_cases lt2 : i_ < l2.length
    · have o2 := R2.2.1.2.2 i_ _ (getD_a lt2)
      rw [Nat.zero_add] at o2
      by_cases g_ : l1.getD i_ 0 = l2.getD i_ 0
      · obtain ⟨h1, m1_, f1_, ld1⟩ := mckT (v1_ := x1_) (v2 := x2_) (v3 := Int32.ofNat l1.length) (v4_ := Int32.ofNat i_) (v300 := Int32.ofNat l2.length) (v302 := l1.getD i_ 0) (v303 := l2.getD i_ 0) R2.1 R2.2.1.2.1 (by rw [n1_]; exact o1) (by rw [n2_]; exact o2) ⟨by omega, by omega⟩ ⟨by omega, by omega⟩ g_ (by omega) (by omega)
        rw [i32s] at ld1
        obtain ⟨h2, m2_, f2_, r2⟩ := ih_ (i_ + 1) h1 (by omega) (rM_all R2 m1_ f1_) (fun j_ x_ hx => (f1_ _ _).trans (S_ j_ x_ hx)) (fun j_ hj => by
          by_cases gj : j_ = i_
          · subst gj
            exact ⟨_, getD_a lt1, by rw [g_]; exact getD_a lt2⟩
          · exact P_ j_ (by omega))
        exact ⟨h2, ysm_tr m1_ m2_, fun c_ j_ => (f2_ c_ j_).trans (f1_ c_ j_), fun D_ hD => ld1 D_ hD _ (r2 D_ hD)⟩
      · obtain ⟨h1, m1_, f1_, ld1⟩ := mckU (v1_ := x1_) (v2 := x2_) (v3 := Int32.ofNat l1.length) (v4_ := Int32.ofNat i_) (v300 := Int32.ofNat l2.length) (v302 := l1.getD i_ 0) (v303 := l2.getD i_ 0) R2.1 R2.2.1.2.1 (by rw [n1_]; exact o1) (by rw [n2_]; exact o2) ⟨by omega, by omega⟩ ⟨by omega, by omega⟩ g_ (by omega) (by omega)
        obtain ⟨h2, m2_, f2_, r2⟩ := fin_ i_ h1 (by omega) (rM_all R2 m1_ f1_) P_ (fun x_ q1_ q2_ => g_ (by
          rw [getD_a lt1] at q1_
          rw [getD_a lt2] at q2_
          exact (Option.some.inj q1_).trans (Option.some.inj q2_).symm))
        exact ⟨h2, ysm_tr m1_ m2_, fun c_ j_ => (f2_ c_ j_).trans (f1_ c_ j_), fun D_ hD => ld1 D_ hD _ (r2 D_ hD)⟩
    · obtain ⟨h1, m1_, f1_, ld1⟩ := mckX (v1_ := x1_) (v2 := x2_) (v3 := Int32.ofNat l1.length) (v4_ := Int32.ofNat i_) (v300 := Int32.ofNat l2.length) R2.1 R2.2.1.2.1 (by omega) (by omega)
      obtain ⟨h2, m2_, f2_, r2⟩ := fin_ i_ h1 (by omega) (rM_all R2 m1_ f1_) P_ (fun x_ q1_ q2_ => by
        have k2_ := (List.getElem?_eq_some_iff.mp q2_).1
        omega)
      exact ⟨h2, ysm_tr m1_ m2_, fun c_ j_ => (f2_ c_ j_).trans (f1_ c_ j_), fun D_ hD => ld1 D_ hD _ (r2 D_ hD)⟩
theorem mT_check {W_ : Nat → List Int32} {V : Nat → Int32} {h_ : xH} {z_ d_ : Int32} (B_ : bInv bZ bIj h_) (K_ : okS W_ V) (H_ : SM W_ V h_) : ∃ h', ysm h_ h' ∧ (SM (checkF W_ V z_ d_).1 (checkF W_ V z_ d_).2.1 h' ∧ ∀ D_, 70 ≤ D_ → xrun D_ 235 0 [(0, .index 338), (1, .int z_), (2, .int d_)] [] h_ (some (.int (checkF W_ V z_ d_).2.2), h', [])) := by
  obtain ⟨y_, oy⟩ := merr (k_ := 1) B_ (by omega)
  have zz := z0_
  have kN_ := okN K_
  have n1_ := i32j (V 0) kN_.1 (by omega)
  have hz := m339 B_
  have k21 : (7, 744, 1, 24, 21) ∈ wrM := by decide
  have R21 := SM_w H_ k21
  have w24 : ∀ {h_ h' : xH}, SM W_ V h_ → ysm h_ h' → bpat h' 339 7 = some (.int 0) → (∀ c_ j_, ¬ (c_ = 339 ∧ j_ = 7) → ¬ (c_ = 341 ∧ j_ = 1) → bpat h' c_ j_ = bpat h_ c_ j_) → SM (upR W_ 21 []) V h' := fun H_ m_ e_ f_ => SM_r H_ (lenS_ok K_) m_ k21 (rwq_nil e_) (fun c_ j_ hc_ n_ => f_ c_ j_ (fun q_ => n_ ⟨q_.1, by rw [q_.2]; rfl⟩) (fun q_ => by rw [q_.1] at hc_; exact absurd hc_ (by simp [smc])))
  have K' : okS (upR W_ 21 []) V := okS_wait K_ (Nat.zero_le _)
  unfold checkF
  obtain ⟨h0, m0_, q_⟩ := mckE (v1_ := z_) (v2 := d_) (v307 := Int32.ofNat (W_ 21).length) H_.1 R21.1 (mNc H_) oy
  rcases q_ with ⟨g1, g2, w0_, f_, r_⟩ | ⟨g1, w0_, w1_, f_, r_⟩ | ⟨g1, g2, w0_, w1_, f_, r_⟩
  rotate_left
  · rw [pif_f (fun q_ => by omega)]; exact ⟨h0, m0_, w24 H_ m0_ w1_ (fun c_ j_ n1_ n2_ => f_ c_ j_ n2_ n1_), fun D_ hD => r_ D_ (by omega)⟩
  · rw [pif_f (fun q_ => by omega)]; exact ⟨h0, m0_, w24 H_ m0_ w1_ (fun c_ j_ n1_ n2_ => f_ c_ j_ n2_ n1_), fun D_ hD => r_ D_ (by omega)⟩
  have H0 := w24 H_ m0_ w0_ (fun c_ j_ n1_ _ => f_ c_ j_ n1_)
  obtain ⟨c_, hc_, hN_, rfl, ec⟩ := isC_n (z_ := z_) K_ ⟨by omega, by omega⟩
  obtain ⟨h1, ⟨H1_, F1_⟩, e1_⟩ := c_isw (mi := 235) (pc := 26) (lo_ := [(3, .int (Int32.ofNat (W_ 21).length)), (0, .index 338), (1, .int (Int32.ofNat c_)), (2, .int d_)]) (z_ := d_) (s' := []) rfl (xcc_l (List.forall_mem_cons.mpr ⟨rfl, List.forall_mem_cons.mpr ⟨xidx_i (bcq_lt (bcq_of (n_ := 338) (z_ := (12, 26)) H0.1 rfl)), List.forall_mem_cons.mpr ⟨rfl, List.forall_mem_cons.mpr ⟨rfl, fun q_ hq => absurd hq List.not_mem_nil⟩⟩⟩⟩) (fun t_ ht => absurd ht List.not_mem_nil) (Nat.le_of_ble_eq_true rfl)) K' H0
  have fy : bpat h1 341 1 = some (.int y_) := (F1_.2 _ _).trans ((f_ _ _ (by omega)).trans oy)
  rcases e1_ with ⟨gw, ld1⟩ | ⟨gw, ld1⟩
  · rw [pif_t ⟨⟨by omega, by omega⟩, gw⟩, ec]
    obtain ⟨h2, m2_, f2_, ld2⟩ := mckG (v1_ := Int32.ofNat c_) (v2 := d_) (v3 := Int32.ofNat (W_ 21).length) H1_.1
    have H2_ := SM_fr H1_ m2_ (fun c_ j_ _ => f2_ c_ j_)
    obtain ⟨h3, ⟨H3, F3⟩, R3, ld3⟩ := c_hears (mi := 235) (pc := 45) (lo_ := [(3, .int (Int32.ofNat (W_ 21).length)), (0, .index 338), (1, .int (Int32.ofNat c_)), (2, .int d_)]) (b_ := 342) (s' := []) rfl (xcc_l (List.forall_mem_cons.mpr ⟨rfl, List.forall_mem_cons.mpr ⟨xidx_i (bcq_lt (bcq_of (n_ := 338) (z_ := (12, 26)) H2_.1 rfl)), List.forall_mem_cons.mpr ⟨rfl, List.forall_mem_cons.mpr ⟨rfl, fun q_ hq => absurd hq List.not_mem_nil⟩⟩⟩⟩) (fun t_ ht => absurd ht List.not_mem_nil) (Nat.le_of_ble_eq_true rfl)) K' H2_ (Or.inl rfl) hc_ gw (fun j_ hj => by
      by_cases g7 : j_ = 7
      · exact ⟨0, by rw [g7, f2_, F1_.2]; exact w0_⟩
      · rw [f2_, F1_.2, f_ _ _ (by omega)]
        exact hz j_ hj)
    have eh : hrd (upR W_ 21 []) V d_ (upR W_ 21 [] c_) = hrd W_ V d_ (W_ c_) := by
      have e1_ : upR W_ 21 [] c_ = W_ c_ := upR_ne (by omega)
      have e2_ : upR W_ 21 [] 23 = W_ 23 := upR_ne (by omega)
      unfold hrd
      rw [e1_, e2_]
    rw [eh] at R3
    obtain ⟨h4, m4_, f4_, ld4⟩ := mckH (v1_ := Int32.ofNat c_) (v2 := d_) (v3 := Int32.ofNat (W_ 21).length) H3.1
    have H4 := SM_fr H3 m4_ (fun c_ j_ _ => f4_ c_ j_)
    obtain ⟨h5, m5_, f5_, r5_⟩ := ck_lp (x1_ := Int32.ofNat c_) (x2_ := d_) (l1 := W_ 21) (lenS_ok K_ |>.1 _ k21) (W_ 21).length 0 h4 (by omega) (rM_all R3 m4_ f4_) (fun j_ x_ hx => by
      have e_ := R21.2 j_ x_ hx
      rw [Nat.one_mul] at e_
      rw [f4_, F3.2 _ _ (by omega) (by omega) (by omega), f2_, F1_.2, f_ _ _ (by omega)]
      exact e_) (fun j_ hj => by omega)
    exact ⟨h5, ysm_tr m0_ (ysm_tr F1_.1 (ysm_tr m2_ (ysm_tr F3.1 (ysm_tr m4_ m5_)))), SM_fr H4 m5_ (fun c_ j_ _ => f5_ c_ j_), fun D_ hD => r_ D_ (by omega) _ (ld1 D_ (by omega) _ (ld2 D_ (by omega) _ (ld3 D_ (by omega) _ (ld4 D_ (by omega) _ (r5_ D_ (by omega))))))⟩
  · rw [pif_f (fun q_ => gw q_.2)]
    obtain ⟨h2, m2_, w1_, f2_, r2⟩ := mckF (v1_ := Int32.ofNat c_) (v2 := d_) (v3 := Int32.ofNat (W_ 21).length) H1_.1 fy
    exact ⟨h2, ysm_tr m0_ (ysm_tr F1_.1 m2_), SM_e H1_ m2_ f2_, fun D_ hD => r_ D_ (by omega) _ (ld1 D_ (by omega) _ (r2 D_ (by omega)))⟩
