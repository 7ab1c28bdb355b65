-- ===== need
-- xndE: 57 steps, 1 ends, 2 returns
def xndE_L : List (Nat × Nat × Nat) := []
def xndE_O : yO := [(0, .int 0, .index 1), (1, .int 9, .arg 310), (0, .int 13, .index 323), (323, .int 1, .arg 400), (0, .int 8, .index 314)]
def xndE_A : yA := (yZ xndE_L, [], [], [], [])
def xndE_C : List xB := []
def xndE_ss : List yS := [(17, [(0, .index 0), (1, .arg 1), (2, .arg 2), (3, .arg 3)], [.index 314, .arg 2, .index 1], [(0, .int 0, .index 1), (1, .int 9, .arg 310), (0, .int 13, .index 323), (323, .int 1, .arg 400), (0, .int 8, .index 314)], [(.lt, .arg 1, .arg 310, true), (.lt, .arg 1, .int 0, false)], [])]
def xndE_rs : List yR := [(some (.int (Int32.ofInt (-1000001))), [(323, .int 1, .add (.arg 400) (.int 1)), (0, .int 0, .index 1), (1, .int 9, .arg 310), (0, .int 13, .index 323), (0, .int 8, .index 314)], [(.lt, .arg 1, .int 0, true)], [(323, .int 1)]),
  (some (.int (Int32.ofInt (-1000001))), [(323, .int 1, .add (.arg 400) (.int 1)), (0, .int 0, .index 1), (1, .int 9, .arg 310), (0, .int 13, .index 323), (0, .int 8, .index 314)], [(.lt, .arg 1, .arg 310, false), (.lt, .arg 1, .int 0, false)], [(323, .int 1)])]
theorem xndE_w : ywa xndE_A xndE_ss xndE_rs = true := by decide +kernel
theorem xndE_k : yis (yev xndE_A 3000 60 93 [17] (0, [(0, .index 0), (1, .arg 1), (2, .arg 2), (3, .arg 3)], [], xndE_O, xndE_C, [])) xndE_ss xndE_rs = true := by decide +kernel
def xndE_r (v1_ v2 v3 v310 v400 : Int32) (k_ : Nat) : Value := bif Nat.beq k_ 1 then .int v1_ else (bif Nat.beq k_ 2 then .int v2 else (bif Nat.beq k_ 3 then .int v3 else (bif Nat.beq k_ 310 then .int v310 else (bif Nat.beq k_ 400 then .int v400 else (.int 0)))))
def xndE_s (n_ : Nat) : Nat := 0
theorem xndE {h_ : xH} {v1_ v2 v3 v310 v400 : Int32} (hs : sHp h_) (o0_ : bpat h_ 1 9 = some (.int v310)) (o1 : bpat h_ 323 1 = some (.int v400)) : ∃ h', ysm h_ h' ∧ (((v1_.toInt < v310.toInt) ∧ ((0 : Int32).toInt ≤ v1_.toInt) ∧ (∀ a_ j_ : Nat, bpat h' a_ j_ = bpat h_ a_ j_) ∧ (bldD 60 93 0 [(0, .index 0), (1, .int v1_), (2, .int v2), (3, .int v3)] [] h_ 17 [(0, .index 0), (1, .int v1_), (2, .int v2), (3, .int v3)] [.index 314, .int v2, .index 1] h'))
  ∨ ((v1_.toInt < (0 : Int32).toInt) ∧ (bpat h' 323 1 = some (.int (v400 + (1 : Int32)))) ∧ (∀ a_ j_ : Nat, ¬ (a_ = 323 ∧ j_ = 1) → bpat h' a_ j_ = bpat h_ a_ j_) ∧ (∀ D_, 60 ≤ D_ → xrun D_ 93 0 [(0, .index 0), (1, .int v1_), (2, .int v2), (3, .int v3)] [] h_ (some (.int (Int32.ofInt (-1000001))), h', [])))
  ∨ ((v310.toInt ≤ v1_.toInt) ∧ ((0 : Int32).toInt ≤ v1_.toInt) ∧ (bpat h' 323 1 = some (.int (v400 + (1 : Int32)))) ∧ (∀ a_ j_ : Nat, ¬ (a_ = 323 ∧ j_ = 1) → bpat h' a_ j_ = bpat h_ a_ j_) ∧ (∀ D_, 60 ≤ D_ → xrun D_ 93 0 [(0, .index 0), (1, .int v1_), (2, .int v2), (3, .int v3)] [] h_ (some (.int (Int32.ofInt (-1000001))), h', [])))) := by
  have hA : yas xndE_A (xndE_r v1_ v2 v3 v310 v400) (yg xndE_s) := ⟨fun q_ hq => absurd hq List.not_mem_nil, fun q_ hq => absurd hq List.not_mem_nil, fun q_ hq => absurd hq List.not_mem_nil, fun n_ hn => yg_lo hn, fun q_ hq => absurd hq List.not_mem_nil⟩
  have Hs : ysh xndE_A.1 (yg xndE_s) h_ := ysh_of2 hs (fun q_ hq => absurd hq List.not_mem_nil)
  have Ho : ymem (xndE_r v1_ v2 v3 v310 v400) (yg xndE_s) xndE_O h_ := List.forall_mem_cons.mpr ⟨bpat_some (fxr_at hs.2 (show fxk fxl 0 0 = some 1 by decide +kernel)), List.forall_mem_cons.mpr ⟨bpat_some o0_, List.forall_mem_cons.mpr ⟨bpat_some (fxr_at hs.2 (show fxk fxl 0 13 = some 323 by decide +kernel)), List.forall_mem_cons.mpr ⟨bpat_some o1, List.forall_mem_cons.mpr ⟨bpat_some (fxr_at hs.2 (show fxk fxl 0 8 = some 314 by decide +kernel)), fun q_ hq => absurd hq List.not_mem_nil⟩⟩⟩⟩⟩
  have HC : ∀ q_ ∈ xndE_C, xhold (xndE_r v1_ v2 v3 v310 v400) q_ := fun q_ hq => absurd hq List.not_mem_nil
  rcases yrun (yis_ok xndE_k) hA Hs Ho HC with ⟨q_, hq, h', K_, G_⟩ | ⟨q_, hq, h', K_, G_⟩
  · have e_ := List.mem_singleton.mp hq
    subst e_
    exact ⟨h', yfr_sm K_.2.2.2 hs K_.1 (ywa_s xndE_w List.mem_cons_self), Or.inl (⟨xq_ltT rfl rfl (K_.2.2.1 _ List.mem_cons_self), xq_ltF rfl rfl (K_.2.2.1 _ (List.mem_cons_of_mem _ List.mem_cons_self)), fun a_ j_ => yfr_bp K_.2.2.2 (fun q_ hq => absurd hq List.not_mem_nil), G_⟩)⟩
  · rcases List.mem_cons.mp hq with e_ | hq
    · subst e_
      exact ⟨h', yfr_sm K_.2.2.2 hs K_.1 (ywa_r xndE_w List.mem_cons_self), Or.inr (Or.inl (⟨xq_ltT rfl rfl (K_.2.2.1 _ List.mem_cons_self), bpat_of (K_.2.1 _ List.mem_cons_self), fun a_ j_ n0_ => yfr_bp K_.2.2.2 (List.forall_mem_cons.mpr ⟨fun e_ => n0_ ⟨e_.1.symm, e_.2.symm⟩, fun q_ hq => absurd hq List.not_mem_nil⟩), G_⟩))⟩
    have e_ := List.mem_singleton.mp hq
    subst e_
    exact ⟨h', yfr_sm K_.2.2.2 hs K_.1 (ywa_r xndE_w (List.mem_cons_of_mem _ List.mem_cons_self)), Or.inr (Or.inr (⟨xq_ltF rfl rfl (K_.2.2.1 _ List.mem_cons_self), xq_ltF rfl rfl (K_.2.2.1 _ (List.mem_cons_of_mem _ List.mem_cons_self)), bpat_of (K_.2.1 _ List.mem_cons_self), fun a_ j_ n0_ => yfr_bp K_.2.2.2 (List.forall_mem_cons.mpr ⟨fun e_ => n0_ ⟨e_.1.symm, e_.2.symm⟩, fun q_ hq => absurd hq List.not_mem_nil⟩), G_⟩))⟩
-- xndF: 17 steps, 0 ends, 1 returns
def xndF_L : List (Nat × Nat × Nat) := []
def xndF_O : yO := [(0, .int 13, .index 323), (323, .int 1, .arg 400)]
def xndF_A : yA := (yZ xndF_L, [], [], [], [])
def xndF_C : List xB := []
def xndF_ss : List yS := []
def xndF_rs : List yR := [(some (.int (Int32.ofInt (-1000001))), [(323, .int 1, .add (.arg 400) (.int 1)), (0, .int 13, .index 323)], [], [(323, .int 1)])]
theorem xndF_w : ywa xndF_A xndF_ss xndF_rs = true := by decide +kernel
theorem xndF_k : yis (yev xndF_A 3000 60 93 [] (20, [(0, .index 0), (1, .arg 1), (2, .arg 2), (3, .arg 3)], [.int 0], xndF_O, xndF_C, [])) xndF_ss xndF_rs = true := by decide +kernel
def xndF_r (v1_ v2 v3 v400 : Int32) (k_ : Nat) : Value := bif Nat.beq k_ 1 then .int v1_ else (bif Nat.beq k_ 2 then .int v2 else (bif Nat.beq k_ 3 then .int v3 else (bif Nat.beq k_ 400 then .int v400 else (.int 0))))
def xndF_s (n_ : Nat) : Nat := 0
theorem xndF {h_ : xH} {v1_ v2 v3 v400 : Int32} (hs : sHp h_) (o0_ : bpat h_ 323 1 = some (.int v400)) : ∃ h', ysm h_ h' ∧ (((bpat h' 323 1 = some (.int (v400 + (1 : Int32)))) ∧ (∀ a_ j_ : Nat, ¬ (a_ = 323 ∧ j_ = 1) → bpat h' a_ j_ = bpat h_ a_ j_) ∧ (∀ D_, 60 ≤ D_ → xrun D_ 93 20 [(0, .index 0), (1, .int v1_), (2, .int v2), (3, .int v3)] [.int (0 : Int32)] h_ (some (.int (Int32.ofInt (-1000001))), h', [])))) := by
  have hA : yas xndF_A (xndF_r v1_ v2 v3 v400) (yg xndF_s) := ⟨fun q_ hq => absurd hq List.not_mem_nil, fun q_ hq => absurd hq List.not_mem_nil, fun q_ hq => absurd hq List.not_mem_nil, fun n_ hn => yg_lo hn, fun q_ hq => absurd hq List.not_mem_nil⟩
  have Hs : ysh xndF_A.1 (yg xndF_s) h_ := ysh_of2 hs (fun q_ hq => absurd hq List.not_mem_nil)
  have Ho : ymem (xndF_r v1_ v2 v3 v400) (yg xndF_s) xndF_O h_ := List.forall_mem_cons.mpr ⟨bpat_some (fxr_at hs.2 (show fxk fxl 0 13 = some 323 by decide +kernel)), List.forall_mem_cons.mpr ⟨bpat_some o0_, fun q_ hq => absurd hq List.not_mem_nil⟩⟩
  have HC : ∀ q_ ∈ xndF_C, xhold (xndF_r v1_ v2 v3 v400) q_ := fun q_ hq => absurd hq List.not_mem_nil
  rcases yrun (yis_ok xndF_k) hA Hs Ho HC with ⟨q_, hq, h', K_, G_⟩ | ⟨q_, hq, h', K_, G_⟩
  · cases hq
  · have e_ := List.mem_singleton.mp hq
    subst e_
    exact ⟨h', yfr_sm K_.2.2.2 hs K_.1 (ywa_r xndF_w List.mem_cons_self), ⟨bpat_of (K_.2.1 _ List.mem_cons_self), fun a_ j_ n0_ => yfr_bp K_.2.2.2 (List.forall_mem_cons.mpr ⟨fun e_ => n0_ ⟨e_.1.symm, e_.2.symm⟩, fun q_ hq => absurd hq List.not_mem_nil⟩), G_⟩⟩
-- xndI: 20 steps, 0 ends, 1 returns
def xndI_L : List (Nat × Nat × Nat) := []
def xndI_O : yO := [(0, .int 13, .index 323), (323, .int 1, .arg 400)]
def xndI_A : yA := (yZ xndI_L, [], [], [], [])
def xndI_C : List xB := [(.lt, .arg 3, .int (Int32.ofInt (-1)), true)]
def xndI_ss : List yS := []
def xndI_rs : List yR := [(some (.int (Int32.ofInt (-1000001))), [(323, .int 1, .add (.arg 400) (.int 1)), (0, .int 13, .index 323)], [(.lt, .arg 3, .int (Int32.ofInt (-1)), true)], [(323, .int 1)])]
theorem xndI_w : ywa xndI_A xndI_ss xndI_rs = true := by decide +kernel
theorem xndI_k : yis (yev xndI_A 3000 60 93 [] (20, [(0, .index 0), (1, .arg 1), (2, .arg 2), (3, .arg 3)], [.int 1], xndI_O, xndI_C, [])) xndI_ss xndI_rs = true := by decide +kernel
def xndI_r (v1_ v2 v3 v400 : Int32) (k_ : Nat) : Value := bif Nat.beq k_ 1 then .int v1_ else (bif Nat.beq k_ 2 then .int v2 else (bif Nat.beq k_ 3 then .int v3 else (bif Nat.beq k_ 400 then .int v400 else (.int 0))))
def xndI_s (n_ : Nat) : Nat := 0
theorem xndI {h_ : xH} {v1_ v2 v3 v400 : Int32} (hs : sHp h_) (o0_ : bpat h_ 323 1 = some (.int v400)) (c0_ : v3.toInt < (Int32.ofInt (-1)).toInt) : ∃ h', ysm h_ h' ∧ (((bpat h' 323 1 = some (.int (v400 + (1 : Int32)))) ∧ (∀ a_ j_ : Nat, ¬ (a_ = 323 ∧ j_ = 1) → bpat h' a_ j_ = bpat h_ a_ j_) ∧ (∀ D_, 60 ≤ D_ → xrun D_ 93 20 [(0, .index 0), (1, .int v1_), (2, .int v2), (3, .int v3)] [.int (1 : Int32)] h_ (some (.int (Int32.ofInt (-1000001))), h', [])))) := by
  have hA : yas xndI_A (xndI_r v1_ v2 v3 v400) (yg xndI_s) := ⟨fun q_ hq => absurd hq List.not_mem_nil, fun q_ hq => absurd hq List.not_mem_nil, fun q_ hq => absurd hq List.not_mem_nil, fun n_ hn => yg_lo hn, fun q_ hq => absurd hq List.not_mem_nil⟩
  have Hs : ysh xndI_A.1 (yg xndI_s) h_ := ysh_of2 hs (fun q_ hq => absurd hq List.not_mem_nil)
  have Ho : ymem (xndI_r v1_ v2 v3 v400) (yg xndI_s) xndI_O h_ := List.forall_mem_cons.mpr ⟨bpat_some (fxr_at hs.2 (show fxk fxl 0 13 = some 323 by decide +kernel)), List.forall_mem_cons.mpr ⟨bpat_some o0_, fun q_ hq => absurd hq List.not_mem_nil⟩⟩
  have HC : ∀ q_ ∈ xndI_C, xhold (xndI_r v1_ v2 v3 v400) q_ := List.forall_mem_cons.mpr ⟨xh_ltT c0_, fun q_ hq => absurd hq List.not_mem_nil⟩
  rcases yrun (yis_ok xndI_k) hA Hs Ho HC with ⟨q_, hq, h', K_, G_⟩ | ⟨q_, hq, h', K_, G_⟩
  · cases hq
  · have e_ := List.mem_singleton.mp hq
    subst e_
    exact ⟨h', yfr_sm K_.2.2.2 hs K_.1 (ywa_r xndI_w List.mem_cons_self), ⟨bpat_of (K_.2.1 _ List.mem_cons_self), fun a_ j_ n0_ => yfr_bp K_.2.2.2 (List.forall_mem_cons.mpr ⟨fun e_ => n0_ ⟨e_.1.symm, e_.2.symm⟩, fun q_ hq => absurd hq List.not_mem_nil⟩), G_⟩⟩
-- xndG: 11 steps, 1 ends, 0 returns
def xndG_L : List (Nat × Nat × Nat) := [(1000, 6, 2)]
def xndG_O : yO := [(0, .int 10, .index 318), (0, .int 0, .index 1), (1, .int 0, .index 2), (2, .arg 1, .index 1000)]
def xndG_A : yA := (yZ xndG_L, [(.arg 1, 12)], [], [], [])
def xndG_C : List xB := [(.lt, .arg 3, .int (Int32.ofInt (-1)), false)]
def xndG_ss : List yS := [(47, [(0, .index 0), (1, .arg 1), (2, .arg 2), (3, .arg 3)], [.index 1000, .index 318], [(0, .int 10, .index 318), (0, .int 0, .index 1), (1, .int 0, .index 2), (2, .arg 1, .index 1000)], [(.lt, .arg 3, .int (Int32.ofInt (-1)), false)], [])]
def xndG_rs : List yR := []
theorem xndG_w : ywa xndG_A xndG_ss xndG_rs = true := by decide +kernel
theorem xndG_k : yis (yev xndG_A 3000 60 93 [47] (20, [(0, .index 0), (1, .arg 1), (2, .arg 2), (3, .arg 3)], [.int 1], xndG_O, xndG_C, [])) xndG_ss xndG_rs = true := by decide +kernel
def xndG_r (v1_ v2 v3 : Int32) (k_ : Nat) : Value := bif Nat.beq k_ 1 then .int v1_ else (bif Nat.beq k_ 2 then .int v2 else (bif Nat.beq k_ 3 then .int v3 else (.int 0)))
def xndG_s (a1000 : Nat) (n_ : Nat) : Nat := bif Nat.beq n_ 1000 then a1000 else (0)
theorem xndG {h_ : xH} {a1000 : Nat} {v1_ v2 v3 : Int32} (hs : sHp h_) (k1000 : bcq h_ a1000 6 2) (o0_ : bpat h_ 2 (v1_).toInt.toNat = some (.index a1000)) (b0 : 0 ≤ (v1_).toInt ∧ (v1_).toInt < 12) (c0_ : (Int32.ofInt (-1)).toInt ≤ v3.toInt) : ∃ h', ysm h_ h' ∧ (((∀ a_ j_ : Nat, bpat h' a_ j_ = bpat h_ a_ j_) ∧ (bldD 60 93 20 [(0, .index 0), (1, .int v1_), (2, .int v2), (3, .int v3)] [.int (1 : Int32)] h_ 47 [(0, .index 0), (1, .int v1_), (2, .int v2), (3, .int v3)] [.index a1000, .index 318] h'))) := by
  have hA : yas xndG_A (xndG_r v1_ v2 v3) (yg (xndG_s a1000)) := ⟨List.forall_mem_cons.mpr ⟨b0, fun q_ hq => absurd hq List.not_mem_nil⟩, fun q_ hq => absurd hq List.not_mem_nil, fun q_ hq => absurd hq List.not_mem_nil, fun n_ hn => yg_lo hn, fun q_ hq => absurd hq List.not_mem_nil⟩
  have Hs : ysh xndG_A.1 (yg (xndG_s a1000)) h_ := ysh_of2 hs (List.forall_mem_cons.mpr ⟨⟨by decide, k1000⟩, fun q_ hq => absurd hq List.not_mem_nil⟩)
  have Ho : ymem (xndG_r v1_ v2 v3) (yg (xndG_s a1000)) xndG_O h_ := List.forall_mem_cons.mpr ⟨bpat_some (fxr_at hs.2 (show fxk fxl 0 10 = some 318 by decide +kernel)), List.forall_mem_cons.mpr ⟨bpat_some (fxr_at hs.2 (show fxk fxl 0 0 = some 1 by decide +kernel)), List.forall_mem_cons.mpr ⟨bpat_some (fxr_at hs.2 (show fxk fxl 1 0 = some 2 by decide +kernel)), List.forall_mem_cons.mpr ⟨bpat_some o0_, fun q_ hq => absurd hq List.not_mem_nil⟩⟩⟩⟩
  have HC : ∀ q_ ∈ xndG_C, xhold (xndG_r v1_ v2 v3) q_ := List.forall_mem_cons.mpr ⟨xh_ltF c0_, fun q_ hq => absurd hq List.not_mem_nil⟩
  rcases yrun (yis_ok xndG_k) hA Hs Ho HC with ⟨q_, hq, h', K_, G_⟩ | ⟨q_, hq, h', K_, G_⟩
  · have e_ := List.mem_singleton.mp hq
    subst e_
    exact ⟨h', yfr_sm K_.2.2.2 hs K_.1 (ywa_s xndG_w List.mem_cons_self), ⟨fun a_ j_ => yfr_bp K_.2.2.2 (fun q_ hq => absurd hq List.not_mem_nil), G_⟩⟩
  · cases hq
-- xndH: 6 steps, 1 ends, 0 returns
def xndH_L : List (Nat × Nat × Nat) := []
def xndH_O : yO := [(0, .int 8, .index 314), (314, .int 1, .arg 300)]
def xndH_A : yA := (yZ xndH_L, [], [], [], [])
def xndH_C : List xB := []
def xndH_ss : List yS := [(61, [(4, .sub (.arg 300) (.int 1)), (0, .index 0), (1, .arg 1), (2, .arg 2), (3, .arg 3)], [], [(0, .int 8, .index 314), (314, .int 1, .arg 300)], [], [])]
def xndH_rs : List yR := []
theorem xndH_w : ywa xndH_A xndH_ss xndH_rs = true := by decide +kernel
theorem xndH_k : yis (yev xndH_A 3000 60 93 [61] (50, [(0, .index 0), (1, .arg 1), (2, .arg 2), (3, .arg 3)], [], xndH_O, xndH_C, [])) xndH_ss xndH_rs = true := by decide +kernel
def xndH_r (v1_ v2 v3 v300 : Int32) (k_ : Nat) : Value := bif Nat.beq k_ 1 then .int v1_ else (bif Nat.beq k_ 2 then .int v2 else (bif Nat.beq k_ 3 then .int v3 else (bif Nat.beq k_ 300 then .int v300 else (.int 0))))
def xndH_s (n_ : Nat) : Nat := 0
theorem xndH {h_ : xH} {v1_ v2 v3 v300 : Int32} (hs : sHp h_) (o0_ : bpat h_ 314 1 = some (.int v300)) : ∃ h', ysm h_ h' ∧ (((∀ a_ j_ : Nat, bpat h' a_ j_ = bpat h_ a_ j_) ∧ (bldD 60 93 50 [(0, .index 0), (1, .int v1_), (2, .int v2), (3, .int v3)] [] h_ 61 [(4, .int (v300 - (1 : Int32))), (0, .index 0), (1, .int v1_), (2, .int v2), (3, .int v3)] [] h'))) := by
  have hA : yas xndH_A (xndH_r v1_ v2 v3 v300) (yg xndH_s) := ⟨fun q_ hq => absurd hq List.not_mem_nil, fun q_ hq => absurd hq List.not_mem_nil, fun q_ hq => absurd hq List.not_mem_nil, fun n_ hn => yg_lo hn, fun q_ hq => absurd hq List.not_mem_nil⟩
  have Hs : ysh xndH_A.1 (yg xndH_s) h_ := ysh_of2 hs (fun q_ hq => absurd hq List.not_mem_nil)
  have Ho : ymem (xndH_r v1_ v2 v3 v300) (yg xndH_s) xndH_O h_ := List.forall_mem_cons.mpr ⟨bpat_some (fxr_at hs.2 (show fxk fxl 0 8 = some 314 by decide +kernel)), List.forall_mem_cons.mpr ⟨bpat_some o0_, fun q_ hq => absurd hq List.not_mem_nil⟩⟩
  have HC : ∀ q_ ∈ xndH_C, xhold (xndH_r v1_ v2 v3 v300) q_ := fun q_ hq => absurd hq List.not_mem_nil
  rcases yrun (yis_ok xndH_k) hA Hs Ho HC with ⟨q_, hq, h', K_, G_⟩ | ⟨q_, hq, h', K_, G_⟩
  · have e_ := List.mem_singleton.mp hq
    subst e_
    exact ⟨h', yfr_sm K_.2.2.2 hs K_.1 (ywa_s xndH_w List.mem_cons_self), ⟨fun a_ j_ => yfr_bp K_.2.2.2 (fun q_ hq => absurd hq List.not_mem_nil), G_⟩⟩
  · cases hq
-- xndXA: 6 steps, 1 ends, 0 returns
def xndXA_L : List (Nat × Nat × Nat) := []
def xndXA_O : yO := [(0, .int 10, .index 318)]
def xndXA_A : yA := (yZ xndXA_L, [], [], [], [])
def xndXA_C : List xB := [(.lt, .arg 4, .int 0, true)]
def xndXA_ss : List yS := [(125, [(4, .arg 4), (0, .index 0), (1, .arg 1), (2, .arg 2), (3, .arg 3)], [.arg 3, .index 318, .index 0], [(0, .int 10, .index 318)], [(.lt, .arg 4, .int 0, true)], [])]
def xndXA_rs : List yR := []
theorem xndXA_w : ywa xndXA_A xndXA_ss xndXA_rs = true := by decide +kernel
theorem xndXA_k : yis (yev xndXA_A 3000 60 93 [125] (61, [(4, .arg 4), (0, .index 0), (1, .arg 1), (2, .arg 2), (3, .arg 3)], [], xndXA_O, xndXA_C, [])) xndXA_ss xndXA_rs = true := by decide +kernel
def xndXA_r (v1_ v2 v3 v4_ : Int32) (k_ : Nat) : Value := bif Nat.beq k_ 1 then .int v1_ else (bif Nat.beq k_ 2 then .int v2 else (bif Nat.beq k_ 3 then .int v3 else (bif Nat.beq k_ 4 then .int v4_ else (.int 0))))
def xndXA_s (n_ : Nat) : Nat := 0
theorem xndXA {h_ : xH} {v1_ v2 v3 v4_ : Int32} (hs : sHp h_) (c0_ : v4_.toInt < (0 : Int32).toInt) : ∃ h', ysm h_ h' ∧ (((∀ a_ j_ : Nat, bpat h' a_ j_ = bpat h_ a_ j_) ∧ (bldD 60 93 61 [(4, .int v4_), (0, .index 0), (1, .int v1_), (2, .int v2), (3, .int v3)] [] h_ 125 [(4, .int v4_), (0, .index 0), (1, .int v1_), (2, .int v2), (3, .int v3)] [.int v3, .index 318, .index 0] h'))) := by
  have hA : yas xndXA_A (xndXA_r v1_ v2 v3 v4_) (yg xndXA_s) := ⟨fun q_ hq => absurd hq List.not_mem_nil, fun q_ hq => absurd hq List.not_mem_nil, fun q_ hq => absurd hq List.not_mem_nil, fun n_ hn => yg_lo hn, fun q_ hq => absurd hq List.not_mem_nil⟩
  have Hs : ysh xndXA_A.1 (yg xndXA_s) h_ := ysh_of2 hs (fun q_ hq => absurd hq List.not_mem_nil)
  have Ho : ymem (xndXA_r v1_ v2 v3 v4_) (yg xndXA_s) xndXA_O h_ := List.forall_mem_cons.mpr ⟨bpat_some (fxr_at hs.2 (show fxk fxl 0 10 = some 318 by decide +kernel)), fun q_ hq => absurd hq List.not_mem_nil⟩
  have HC : ∀ q_ ∈ xndXA_C, xhold (xndXA_r v1_ v2 v3 v4_) q_ := List.forall_mem_cons.mpr ⟨xh_ltT c0_, fun q_ hq => absurd hq List.not_mem_nil⟩
  rcases yrun (yis_ok xndXA_k) hA Hs Ho HC with ⟨q_, hq, h', K_, G_⟩ | ⟨q_, hq, h', K_, G_⟩
  · have e_ := List.mem_singleton.mp hq
    subst e_
    exact ⟨h', yfr_sm K_.2.2.2 hs K_.1 (ywa_s xndXA_w List.mem_cons_self), ⟨fun a_ j_ => yfr_bp K_.2.2.2 (fun q_ hq => absurd hq List.not_mem_nil), G_⟩⟩
  · cases hq
-- xndTA: 31 steps, 1 ends, 0 returns
def xndTA_L : List (Nat × Nat × Nat) := [(1000, 5, 3)]
def xndTA_O : yO := [(0, .int 0, .index 1), (1, .int 1, .index 3), (0, .int 8, .index 314), (314, .int 0, .index 315), (315, .arg 4, .arg 301), (3, .arg 301, .index 1000), (1000, .int 0, .arg 302), (0, .int 10, .index 318)]
def xndTA_A : yA := (yZ xndTA_L, [(.arg 4, 4), (.arg 301, 8)], [], [], [])
def xndTA_C : List xB := [(.eq, .arg 302, .int 6, false), (.eq, .arg 302, .int 5, false), (.lt, .arg 4, .int 0, false)]
def xndTA_ss : List yS := [(110, [(5, .index 1000), (4, .arg 4), (0, .index 0), (1, .arg 1), (2, .arg 2), (3, .arg 3)], [.index 318, .index 1000, .index 1], [(0, .int 0, .index 1), (1, .int 1, .index 3), (0, .int 8, .index 314), (314, .int 0, .index 315), (315, .arg 4, .arg 301), (3, .arg 301, .index 1000), (1000, .int 0, .arg 302), (0, .int 10, .index 318)], [(.eq, .arg 302, .int 6, false), (.eq, .arg 302, .int 5, false), (.lt, .arg 4, .int 0, false)], [])]
def xndTA_rs : List yR := []
theorem xndTA_w : ywa xndTA_A xndTA_ss xndTA_rs = true := by decide +kernel
theorem xndTA_k : yis (yev xndTA_A 3000 60 93 [110] (61, [(4, .arg 4), (0, .index 0), (1, .arg 1), (2, .arg 2), (3, .arg 3)], [], xndTA_O, xndTA_C, [])) xndTA_ss xndTA_rs = true := by decide +kernel
def xndTA_r (v1_ v2 v3 v4_ v301 v302 : Int32) (k_ : Nat) : Value := bif Nat.beq k_ 1 then .int v1_ else (bif Nat.beq k_ 2 then .int v2 else (bif Nat.beq k_ 3 then .int v3 else (bif Nat.beq k_ 4 then .int v4_ else (bif Nat.beq k_ 301 then .int v301 else (bif Nat.beq k_ 302 then .int v302 else (.int 0))))))
def xndTA_s (a1000 : Nat) (n_ : Nat) : Nat := bif Nat.beq n_ 1000 then a1000 else (0)
theorem xndTA {h_ : xH} {a1000 : Nat} {v1_ v2 v3 v4_ v301 v302 : Int32} (hs : sHp h_) (k1000 : bcq h_ a1000 5 3) (o0_ : bpat h_ 315 (v4_).toInt.toNat = some (.int v301)) (o1 : bpat h_ 3 (v301).toInt.toNat = some (.index a1000)) (o2 : bpat h_ a1000 0 = some (.int v302)) (b0 : 0 ≤ (v4_).toInt ∧ (v4_).toInt < 4) (b1 : 0 ≤ (v301).toInt ∧ (v301).toInt < 8) (c0_ : ¬ v302 = (6 : Int32)) (c1_ : ¬ v302 = (5 : Int32)) (c2_ : (0 : Int32).toInt ≤ v4_.toInt) : ∃ h', ysm h_ h' ∧ (((∀ a_ j_ : Nat, bpat h' a_ j_ = bpat h_ a_ j_) ∧ (bldD 60 93 61 [(4, .int v4_), (0, .index 0), (1, .int v1_), (2, .int v2), (3, .int v3)] [] h_ 110 [(5, .index a1000), (4, .int v4_), (0, .index 0), (1, .int v1_), (2, .int v2), (3, .int v3)] [.index 318, .index a1000, .index 1] h'))) := by
  have hA : yas xndTA_A (xndTA_r v1_ v2 v3 v4_ v301 v302) (yg (xndTA_s a1000)) := ⟨List.forall_mem_cons.mpr ⟨b0, List.forall_mem_cons.mpr ⟨b1, fun q_ hq => absurd hq List.not_mem_nil⟩⟩, fun q_ hq => absurd hq List.not_mem_nil, fun q_ hq => absurd hq List.not_mem_nil, fun n_ hn => yg_lo hn, fun q_ hq => absurd hq List.not_mem_nil⟩
  have Hs : ysh xndTA_A.1 (yg (xndTA_s a1000)) h_ := ysh_of2 hs (List.forall_mem_cons.mpr ⟨⟨by decide, k1000⟩, fun q_ hq => absurd hq List.not_mem_nil⟩)
  have Ho : ymem (xndTA_r v1_ v2 v3 v4_ v301 v302) (yg (xndTA_s a1000)) xndTA_O h_ := List.forall_mem_cons.mpr ⟨bpat_some (fxr_at hs.2 (show fxk fxl 0 0 = some 1 by decide +kernel)), List.forall_mem_cons.mpr ⟨bpat_some (fxr_at hs.2 (show fxk fxl 1 1 = some 3 by decide +kernel)), List.forall_mem_cons.mpr ⟨bpat_some (fxr_at hs.2 (show fxk fxl 0 8 = some 314 by decide +kernel)), List.forall_mem_cons.mpr ⟨bpat_some (fxr_at hs.2 (show fxk fxl 314 0 = some 315 by decide +kernel)), List.forall_mem_cons.mpr ⟨bpat_some o0_, List.forall_mem_cons.mpr ⟨bpat_some o1, List.forall_mem_cons.mpr ⟨bpat_some o2, List.forall_mem_cons.mpr ⟨bpat_some (fxr_at hs.2 (show fxk fxl 0 10 = some 318 by decide +kernel)), fun q_ hq => absurd hq List.not_mem_nil⟩⟩⟩⟩⟩⟩⟩⟩
  have HC : ∀ q_ ∈ xndTA_C, xhold (xndTA_r v1_ v2 v3 v4_ v301 v302) q_ := List.forall_mem_cons.mpr ⟨xh_eqF2 c0_, List.forall_mem_cons.mpr ⟨xh_eqF2 c1_, List.forall_mem_cons.mpr ⟨xh_ltF c2_, fun q_ hq => absurd hq List.not_mem_nil⟩⟩⟩
  rcases yrun (yis_ok xndTA_k) hA Hs Ho HC with ⟨q_, hq, h', K_, G_⟩ | ⟨q_, hq, h', K_, G_⟩
  · have e_ := List.mem_singleton.mp hq
    subst e_
    exact ⟨h', yfr_sm K_.2.2.2 hs K_.1 (ywa_s xndTA_w List.mem_cons_self), ⟨fun a_ j_ => yfr_bp K_.2.2.2 (fun q_ hq => absurd hq List.not_mem_nil), G_⟩⟩
  · cases hq
-- xndS5A: 37 steps, 0 ends, 1 returns
def xndS5A_L : List (Nat × Nat × Nat) := [(1000, 5, 3)]
def xndS5A_O : yO := [(0, .int 0, .index 1), (1, .int 1, .index 3), (0, .int 8, .index 314), (314, .int 0, .index 315), (315, .arg 4, .arg 301), (3, .arg 301, .index 1000), (1000, .int 0, .arg 302), (0, .int 13, .index 323), (323, .int 3, .arg 400)]
def xndS5A_A : yA := (yZ xndS5A_L, [(.arg 4, 4), (.arg 301, 8)], [], [], [])
def xndS5A_C : List xB := [(.eq, .arg 302, .int 5, true), (.lt, .arg 4, .int 0, false)]
def xndS5A_ss : List yS := []
def xndS5A_rs : List yR := [(some (.int (Int32.ofInt (-1000003))), [(323, .int 3, .add (.arg 400) (.int 1)), (0, .int 0, .index 1), (1, .int 1, .index 3), (0, .int 8, .index 314), (314, .int 0, .index 315), (315, .arg 4, .arg 301), (3, .arg 301, .index 1000), (1000, .int 0, .arg 302), (0, .int 13, .index 323)], [(.eq, .arg 302, .int 5, true), (.lt, .arg 4, .int 0, false)], [(323, .int 3)])]
theorem xndS5A_w : ywa xndS5A_A xndS5A_ss xndS5A_rs = true := by decide +kernel
theorem xndS5A_k : yis (yev xndS5A_A 3000 60 93 [] (61, [(4, .arg 4), (0, .index 0), (1, .arg 1), (2, .arg 2), (3, .arg 3)], [], xndS5A_O, xndS5A_C, [])) xndS5A_ss xndS5A_rs = true := by decide +kernel
def xndS5A_r (v1_ v2 v3 v4_ v301 v302 v400 : Int32) (k_ : Nat) : Value := bif Nat.beq k_ 1 then .int v1_ else (bif Nat.beq k_ 2 then .int v2 else (bif Nat.beq k_ 3 then .int v3 else (bif Nat.beq k_ 4 then .int v4_ else (bif Nat.beq k_ 301 then .int v301 else (bif Nat.beq k_ 302 then .int v302 else (bif Nat.beq k_ 400 then .int v400 else (.int 0)))))))
def xndS5A_s (a1000 : Nat) (n_ : Nat) : Nat := bif Nat.beq n_ 1000 then a1000 else (0)
theorem xndS5A {h_ : xH} {a1000 : Nat} {v1_ v2 v3 v4_ v301 v302 v400 : Int32} (hs : sHp h_) (k1000 : bcq h_ a1000 5 3) (o0_ : bpat h_ 315 (v4_).toInt.toNat = some (.int v301)) (o1 : bpat h_ 3 (v301).toInt.toNat = some (.index a1000)) (o2 : bpat h_ a1000 0 = some (.int v302)) (o3_ : bpat h_ 323 3 = some (.int v400)) (b0 : 0 ≤ (v4_).toInt ∧ (v4_).toInt < 4) (b1 : 0 ≤ (v301).toInt ∧ (v301).toInt < 8) (c0_ : v302 = (5 : Int32)) (c1_ : (0 : Int32).toInt ≤ v4_.toInt) : ∃ h', ysm h_ h' ∧ (((bpat h' 323 3 = some (.int (v400 + (1 : Int32)))) ∧ (∀ a_ j_ : Nat, ¬ (a_ = 323 ∧ j_ = 3) → bpat h' a_ j_ = bpat h_ a_ j_) ∧ (∀ D_, 60 ≤ D_ → xrun D_ 93 61 [(4, .int v4_), (0, .index 0), (1, .int v1_), (2, .int v2), (3, .int v3)] [] h_ (some (.int (Int32.ofInt (-1000003))), h', [])))) := by
  have hA : yas xndS5A_A (xndS5A_r v1_ v2 v3 v4_ v301 v302 v400) (yg (xndS5A_s a1000)) := ⟨List.forall_mem_cons.mpr ⟨b0, List.forall_mem_cons.mpr ⟨b1, fun q_ hq => absurd hq List.not_mem_nil⟩⟩, fun q_ hq => absurd hq List.not_mem_nil, fun q_ hq => absurd hq List.not_mem_nil, fun n_ hn => yg_lo hn, fun q_ hq => absurd hq List.not_mem_nil⟩
  have Hs : ysh xndS5A_A.1 (yg (xndS5A_s a1000)) h_ := ysh_of2 hs (List.forall_mem_cons.mpr ⟨⟨by decide, k1000⟩, fun q_ hq => absurd hq List.not_mem_nil⟩)
  have Ho : ymem (xndS5A_r v1_ v2 v3 v4_ v301 v302 v400) (yg (xndS5A_s a1000)) xndS5A_O h_ := List.forall_mem_cons.mpr ⟨bpat_some (fxr_at hs.2 (show fxk fxl 0 0 = some 1 by decide +kernel)), List.forall_mem_cons.mpr ⟨bpat_some (fxr_at hs.2 (show fxk fxl 1 1 = some 3 by decide +kernel)), List.forall_mem_cons.mpr ⟨bpat_some (fxr_at hs.2 (show fxk fxl 0 8 = some 314 by decide +kernel)), List.forall_mem_cons.mpr ⟨bpat_some (fxr_at hs.2 (show fxk fxl 314 0 = some 315 by decide +kernel)), List.forall_mem_cons.mpr ⟨bpat_some o0_, List.forall_mem_cons.mpr ⟨bpat_some o1, List.forall_mem_cons.mpr ⟨bpat_some o2, List.forall_mem_cons.mpr ⟨bpat_some (fxr_at hs.2 (show fxk fxl 0 13 = some 323 by decide +kernel)), List.forall_mem_cons.mpr ⟨bpat_some o3_, fun q_ hq => absurd hq List.not_mem_nil⟩⟩⟩⟩⟩⟩⟩⟩⟩
  have HC : ∀ q_ ∈ xndS5A_C, xhold (xndS5A_r v1_ v2 v3 v4_ v301 v302 v400) q_ := List.forall_mem_cons.mpr ⟨xh_eqT2 c0_, List.forall_mem_cons.mpr ⟨xh_ltF c1_, fun q_ hq => absurd hq List.not_mem_nil⟩⟩
  rcases yrun (yis_ok xndS5A_k) hA Hs Ho HC with ⟨q_, hq, h', K_, G_⟩ | ⟨q_, hq, h', K_, G_⟩
  · cases hq
  · have e_ := List.mem_singleton.mp hq
    subst e_
    exact ⟨h', yfr_sm K_.2.2.2 hs K_.1 (ywa_r xndS5A_w List.mem_cons_self), ⟨bpat_of (K_.2.1 _ List.mem_cons_self), fun a_ j_ n0_ => yfr_bp K_.2.2.2 (List.forall_mem_cons.mpr ⟨fun e_ => n0_ ⟨e_.1.symm, e_.2.symm⟩, fun q_ hq => absurd hq List.not_mem_nil⟩), G_⟩⟩
-- xndS6A: 41 steps, 0 ends, 1 returns
def xndS6A_L : List (Nat × Nat × Nat) := [(1000, 5, 3)]
def xndS6A_O : yO := [(0, .int 0, .index 1), (1, .int 1, .index 3), (0, .int 8, .index 314), (314, .int 0, .index 315), (315, .arg 4, .arg 301), (3, .arg 301, .index 1000), (1000, .int 0, .arg 302), (0, .int 13, .index 323), (323, .int 3, .arg 400)]
def xndS6A_A : yA := (yZ xndS6A_L, [(.arg 4, 4), (.arg 301, 8)], [], [], [])
def xndS6A_C : List xB := [(.eq, .arg 302, .int 6, true), (.lt, .arg 4, .int 0, false), (.eq, .arg 302, .int 5, false)]
def xndS6A_ss : List yS := []
def xndS6A_rs : List yR := [(some (.int (Int32.ofInt (-1000003))), [(323, .int 3, .add (.arg 400) (.int 1)), (0, .int 0, .index 1), (1, .int 1, .index 3), (0, .int 8, .index 314), (314, .int 0, .index 315), (315, .arg 4, .arg 301), (3, .arg 301, .index 1000), (1000, .int 0, .arg 302), (0, .int 13, .index 323)], [(.eq, .arg 302, .int 6, true), (.lt, .arg 4, .int 0, false), (.eq, .arg 302, .int 5, false)], [(323, .int 3)])]
theorem xndS6A_w : ywa xndS6A_A xndS6A_ss xndS6A_rs = true := by decide +kernel
theorem xndS6A_k : yis (yev xndS6A_A 3000 60 93 [] (61, [(4, .arg 4), (0, .index 0), (1, .arg 1), (2, .arg 2), (3, .arg 3)], [], xndS6A_O, xndS6A_C, [])) xndS6A_ss xndS6A_rs = true := by decide +kernel
def xndS6A_r (v1_ v2 v3 v4_ v301 v302 v400 : Int32) (k_ : Nat) : Value := bif Nat.beq k_ 1 then .int v1_ else (bif Nat.beq k_ 2 then .int v2 else (bif Nat.beq k_ 3 then .int v3 else (bif Nat.beq k_ 4 then .int v4_ else (bif Nat.beq k_ 301 then .int v301 else (bif Nat.beq k_ 302 then .int v302 else (bif Nat.beq k_ 400 then .int v400 else (.int 0)))))))
def xndS6A_s (a1000 : Nat) (n_ : Nat) : Nat := bif Nat.beq n_ 1000 then a1000 else (0)
theorem xndS6A {h_ : xH} {a1000 : Nat} {v1_ v2 v3 v4_ v301 v302 v400 : Int32} (hs : sHp h_) (k1000 : bcq h_ a1000 5 3) (o0_ : bpat h_ 315 (v4_).toInt.toNat = some (.int v301)) (o1 : bpat h_ 3 (v301).toInt.toNat = some (.index a1000)) (o2 : bpat h_ a1000 0 = some (.int v302)) (o3_ : bpat h_ 323 3 = some (.int v400)) (b0 : 0 ≤ (v4_).toInt ∧ (v4_).toInt < 4) (b1 : 0 ≤ (v301).toInt ∧ (v301).toInt < 8) (c0_ : v302 = (6 : Int32)) (c1_ : (0 : Int32).toInt ≤ v4_.toInt) (c2_ : ¬ v302 = (5 : Int32)) : ∃ h', ysm h_ h' ∧ (((bpat h' 323 3 = some (.int (v400 + (1 : Int32)))) ∧ (∀ a_ j_ : Nat, ¬ (a_ = 323 ∧ j_ = 3) → bpat h' a_ j_ = bpat h_ a_ j_) ∧ (∀ D_, 60 ≤ D_ → xrun D_ 93 61 [(4, .int v4_), (0, .index 0), (1, .int v1_), (2, .int v2), (3, .int v3)] [] h_ (some (.int (Int32.ofInt (-1000003))), h', [])))) := by
  have hA : yas xndS6A_A (xndS6A_r v1_ v2 v3 v4_ v301 v302 v400) (yg (xndS6A_s a1000)) := ⟨List.forall_mem_cons.mpr ⟨b0, List.forall_mem_cons.mpr ⟨b1, fun q_ hq => absurd hq List.not_mem_nil⟩⟩, fun q_ hq => absurd hq List.not_mem_nil, fun q_ hq => absurd hq List.not_mem_nil, fun n_ hn => yg_lo hn, fun q_ hq => absurd hq List.not_mem_nil⟩
  have Hs : ysh xndS6A_A.1 (yg (xndS6A_s a1000)) h_ := ysh_of2 hs (List.forall_mem_cons.mpr ⟨⟨by decide, k1000⟩, fun q_ hq => absurd hq List.not_mem_nil⟩)
  have Ho : ymem (xndS6A_r v1_ v2 v3 v4_ v301 v302 v400) (yg (xndS6A_s a1000)) xndS6A_O h_ := List.forall_mem_cons.mpr ⟨bpat_some (fxr_at hs.2 (show fxk fxl 0 0 = some 1 by decide +kernel)), List.forall_mem_cons.mpr ⟨bpat_some (fxr_at hs.2 (show fxk fxl 1 1 = some 3 by decide +kernel)), List.forall_mem_cons.mpr ⟨bpat_some (fxr_at hs.2 (show fxk fxl 0 8 = some 314 by decide +kernel)), List.forall_mem_cons.mpr ⟨bpat_some (fxr_at hs.2 (show fxk fxl 314 0 = some 315 by decide +kernel)), List.forall_mem_cons.mpr ⟨bpat_some o0_, List.forall_mem_cons.mpr ⟨bpat_some o1, List.forall_mem_cons.mpr ⟨bpat_some o2, List.forall_mem_cons.mpr ⟨bpat_some (fxr_at hs.2 (show fxk fxl 0 13 = some 323 by decide +kernel)), List.forall_mem_cons.mpr ⟨bpat_some o3_, fun q_ hq => absurd hq List.not_mem_nil⟩⟩⟩⟩⟩⟩⟩⟩⟩
  have HC : ∀ q_ ∈ xndS6A_C, xhold (xndS6A_r v1_ v2 v3 v4_ v301 v302 v400) q_ := List.forall_mem_cons.mpr ⟨xh_eqT2 c0_, List.forall_mem_cons.mpr ⟨xh_ltF c1_, List.forall_mem_cons.mpr ⟨xh_eqF2 c2_, fun q_ hq => absurd hq List.not_mem_nil⟩⟩⟩
  rcases yrun (yis_ok xndS6A_k) hA Hs Ho HC with ⟨q_, hq, h', K_, G_⟩ | ⟨q_, hq, h', K_, G_⟩
  · cases hq
  · have e_ := List.mem_singleton.mp hq
    subst e_
    exact ⟨h', yfr_sm K_.2.2.2 hs K_.1 (ywa_r xndS6A_w List.mem_cons_self), ⟨bpat_of (K_.2.1 _ List.mem_cons_self), fun a_ j_ n0_ => yfr_bp K_.2.2.2 (List.forall_mem_cons.mpr ⟨fun e_ => n0_ ⟨e_.1.symm, e_.2.symm⟩, fun q_ hq => absurd hq List.not_mem_nil⟩), G_⟩⟩
-- xndXB: 6 steps, 1 ends, 0 returns
def xndXB_L : List (Nat × Nat × Nat) := [(1009, 5, 3)]
def xndXB_O : yO := [(0, .int 10, .index 318)]
def xndXB_A : yA := (yZ xndXB_L, [], [], [], [])
def xndXB_C : List xB := [(.lt, .arg 4, .int 0, true)]
def xndXB_ss : List yS := [(125, [(4, .arg 4), (5, .index 1009), (0, .index 0), (1, .arg 1), (2, .arg 2), (3, .arg 3)], [.arg 3, .index 318, .index 0], [(0, .int 10, .index 318)], [(.lt, .arg 4, .int 0, true)], [])]
def xndXB_rs : List yR := []
theorem xndXB_w : ywa xndXB_A xndXB_ss xndXB_rs = true := by decide +kernel
theorem xndXB_k : yis (yev xndXB_A 3000 60 93 [125] (61, [(4, .arg 4), (5, .index 1009), (0, .index 0), (1, .arg 1), (2, .arg 2), (3, .arg 3)], [], xndXB_O, xndXB_C, [])) xndXB_ss xndXB_rs = true := by decide +kernel
def xndXB_r (v1_ v2 v3 v4_ : Int32) (k_ : Nat) : Value := bif Nat.beq k_ 1 then .int v1_ else (bif Nat.beq k_ 2 then .int v2 else (bif Nat.beq k_ 3 then .int v3 else (bif Nat.beq k_ 4 then .int v4_ else (.int 0))))
def xndXB_s (a1009 : Nat) (n_ : Nat) : Nat := bif Nat.beq n_ 1009 then a1009 else (0)
theorem xndXB {h_ : xH} {a1009 : Nat} {v1_ v2 v3 v4_ : Int32} (hs : sHp h_) (k1009 : bcq h_ a1009 5 3) (c0_ : v4_.toInt < (0 : Int32).toInt) : ∃ h', ysm h_ h' ∧ (((∀ a_ j_ : Nat, bpat h' a_ j_ = bpat h_ a_ j_) ∧ (bldD 60 93 61 [(4, .int v4_), (5, .index a1009), (0, .index 0), (1, .int v1_), (2, .int v2), (3, .int v3)] [] h_ 125 [(4, .int v4_), (5, .index a1009), (0, .index 0), (1, .int v1_), (2, .int v2), (3, .int v3)] [.int v3, .index 318, .index 0] h'))) := by
  have hA : yas xndXB_A (xndXB_r v1_ v2 v3 v4_) (yg (xndXB_s a1009)) := ⟨fun q_ hq => absurd hq List.not_mem_nil, fun q_ hq => absurd hq List.not_mem_nil, fun q_ hq => absurd hq List.not_mem_nil, fun n_ hn => yg_lo hn, fun q_ hq => absurd hq List.not_mem_nil⟩
  have Hs : ysh xndXB_A.1 (yg (xndXB_s a1009)) h_ := ysh_of2 hs (List.forall_mem_cons.mpr ⟨⟨by decide, k1009⟩, fun q_ hq => absurd hq List.not_mem_nil⟩)
  have Ho : ymem (xndXB_r v1_ v2 v3 v4_) (yg (xndXB_s a1009)) xndXB_O h_ := List.forall_mem_cons.mpr ⟨bpat_some (fxr_at hs.2 (show fxk fxl 0 10 = some 318 by decide +kernel)), fun q_ hq => absurd hq List.not_mem_nil⟩
  have HC : ∀ q_ ∈ xndXB_C, xhold (xndXB_r v1_ v2 v3 v4_) q_ := List.forall_mem_cons.mpr ⟨xh_ltT c0_, fun q_ hq => absurd hq List.not_mem_nil⟩
  rcases yrun (yis_ok xndXB_k) hA Hs Ho HC with ⟨q_, hq, h', K_, G_⟩ | ⟨q_, hq, h', K_, G_⟩
  · have e_ := List.mem_singleton.mp hq
    subst e_
    exact ⟨h', yfr_sm K_.2.2.2 hs K_.1 (ywa_s xndXB_w List.mem_cons_self), ⟨fun a_ j_ => yfr_bp K_.2.2.2 (fun q_ hq => absurd hq List.not_mem_nil), G_⟩⟩
  · cases hq
-- xndTB: 31 steps, 1 ends, 0 returns
def xndTB_L : List (Nat × Nat × Nat) := [(1000, 5, 3), (1009, 5, 3)]
def xndTB_O : yO := [(0, .int 0, .index 1), (1, .int 1, .index 3), (0, .int 8, .index 314), (314, .int 0, .index 315), (315, .arg 4, .arg 301), (3, .arg 301, .index 1000), (1000, .int 0, .arg 302), (0, .int 10, .index 318)]
def xndTB_A : yA := (yZ xndTB_L, [(.arg 4, 4), (.arg 301, 8)], [], [], [])
def xndTB_C : List xB := [(.eq, .arg 302, .int 6, false), (.eq, .arg 302, .int 5, false), (.lt, .arg 4, .int 0, false)]
def xndTB_ss : List yS := [(110, [(5, .index 1000), (4, .arg 4), (0, .index 0), (1, .arg 1), (2, .arg 2), (3, .arg 3)], [.index 318, .index 1000, .index 1], [(0, .int 0, .index 1), (1, .int 1, .index 3), (0, .int 8, .index 314), (314, .int 0, .index 315), (315, .arg 4, .arg 301), (3, .arg 301, .index 1000), (1000, .int 0, .arg 302), (0, .int 10, .index 318)], [(.eq, .arg 302, .int 6, false), (.eq, .arg 302, .int 5, false), (.lt, .arg 4, .int 0, false)], [])]
def xndTB_rs : List yR := []
theorem xndTB_w : ywa xndTB_A xndTB_ss xndTB_rs = true := by decide +kernel
theorem xndTB_k : yis (yev xndTB_A 3000 60 93 [110] (61, [(4, .arg 4), (5, .index 1009), (0, .index 0), (1, .arg 1), (2, .arg 2), (3, .arg 3)], [], xndTB_O, xndTB_C, [])) xndTB_ss xndTB_rs = true := by decide +kernel
def xndTB_r (v1_ v2 v3 v4_ v301 v302 : Int32) (k_ : Nat) : Value := bif Nat.beq k_ 1 then .int v1_ else (bif Nat.beq k_ 2 then .int v2 else (bif Nat.beq k_ 3 then .int v3 else (bif Nat.beq k_ 4 then .int v4_ else (bif Nat.beq k_ 301 then .int v301 else (bif Nat.beq k_ 302 then .int v302 else (.int 0))))))
def xndTB_s (a1000 a1009 : Nat) (n_ : Nat) : Nat := bif Nat.beq n_ 1000 then a1000 else (bif Nat.beq n_ 1009 then a1009 else (0))
theorem xndTB {h_ : xH} {a1000 a1009 : Nat} {v1_ v2 v3 v4_ v301 v302 : Int32} (hs : sHp h_) (k1000 : bcq h_ a1000 5 3) (k1009 : bcq h_ a1009 5 3) (o0_ : bpat h_ 315 (v4_).toInt.toNat = some (.int v301)) (o1 : bpat h_ 3 (v301).toInt.toNat = some (.index a1000)) (o2 : bpat h_ a1000 0 = some (.int v302)) (b0 : 0 ≤ (v4_).toInt ∧ (v4_).toInt < 4) (b1 : 0 ≤ (v301).toInt ∧ (v301).toInt < 8) (c0_ : ¬ v302 = (6 : Int32)) (c1_ : ¬ v302 = (5 : Int32)) (c2_ : (0 : Int32).toInt ≤ v4_.toInt) : ∃ h', ysm h_ h' ∧ (((∀ a_ j_ : Nat, bpat h' a_ j_ = bpat h_ a_ j_) ∧ (bldD 60 93 61 [(4, .int v4_), (5, .index a1009), (0, .index 0), (1, .int v1_), (2, .int v2), (3, .int v3)] [] h_ 110 [(5, .index a1000), (4, .int v4_), (0, .index 0), (1, .int v1_), (2, .int v2), (3, .int v3)] [.index 318, .index a1000, .index 1] h'))) := by
  have hA : yas xndTB_A (xndTB_r v1_ v2 v3 v4_ v301 v302) (yg (xndTB_s a1000 a1009)) := ⟨List.forall_mem_cons.mpr ⟨b0, List.forall_mem_cons.mpr ⟨b1, fun q_ hq => absurd hq List.not_mem_nil⟩⟩, fun q_ hq => absurd hq List.not_mem_nil, fun q_ hq => absurd hq List.not_mem_nil, fun n_ hn => yg_lo hn, fun q_ hq => absurd hq List.not_mem_nil⟩
  have Hs : ysh xndTB_A.1 (yg (xndTB_s a1000 a1009)) h_ := ysh_of2 hs (List.forall_mem_cons.mpr ⟨⟨by decide, k1000⟩, List.forall_mem_cons.mpr ⟨⟨by decide, k1009⟩, fun q_ hq => absurd hq List.not_mem_nil⟩⟩)
  have Ho : ymem (xndTB_r v1_ v2 v3 v4_ v301 v302) (yg (xndTB_s a1000 a1009)) xndTB_O h_ := List.forall_mem_cons.mpr ⟨bpat_some (fxr_at hs.2 (show fxk fxl 0 0 = some 1 by decide +kernel)), List.forall_mem_cons.mpr ⟨bpat_some (fxr_at hs.2 (show fxk fxl 1 1 = some 3 by decide +kernel)), List.forall_mem_cons.mpr ⟨bpat_some (fxr_at hs.2 (show fxk fxl 0 8 = some 314 by decide +kernel)), List.forall_mem_cons.mpr ⟨bpat_some (fxr_at hs.2 (show fxk fxl 314 0 = some 315 by decide +kernel)), List.forall_mem_cons.mpr ⟨bpat_some o0_, List.forall_mem_cons.mpr ⟨bpat_some o1, List.forall_mem_cons.mpr ⟨bpat_some o2, List.forall_mem_cons.mpr ⟨bpat_some (fxr_at hs.2 (show fxk fxl 0 10 = some 318 by decide +kernel)), fun q_ hq => absurd hq List.not_mem_nil⟩⟩⟩⟩⟩⟩⟩⟩
  have HC : ∀ q_ ∈ xndTB_C, xhold (xndTB_r v1_ v2 v3 v4_ v301 v302) q_ := List.forall_mem_cons.mpr ⟨xh_eqF2 c0_, List.forall_mem_cons.mpr ⟨xh_eqF2 c1_, List.forall_mem_cons.mpr ⟨xh_ltF c2_, fun q_ hq => absurd hq List.not_mem_nil⟩⟩⟩
  rcases yrun (yis_ok xndTB_k) hA Hs Ho HC with ⟨q_, hq, h', K_, G_⟩ | ⟨q_, hq, h', K_, G_⟩
  · have e_ := List.mem_singleton.mp hq
    subst e_
    exact ⟨h', yfr_sm K_.2.2.2 hs K_.1 (ywa_s xndTB_w List.mem_cons_self), ⟨fun a_ j_ => yfr_bp K_.2.2.2 (fun q_ hq => absurd hq List.not_mem_nil), G_⟩⟩
  · cases hq
-- xndS5B: 37 steps, 0 ends, 1 returns
def xndS5B_L : List (Nat × Nat × Nat) := [(1000, 5, 3), (1009, 5, 3)]
def xndS5B_O : yO := [(0, .int 0, .index 1), (1, .int 1, .index 3), (0, .int 8, .index 314), (314, .int 0, .index 315), (315, .arg 4, .arg 301), (3, .arg 301, .index 1000), (1000, .int 0, .arg 302), (0, .int 13, .index 323), (323, .int 3, .arg 400)]
def xndS5B_A : yA := (yZ xndS5B_L, [(.arg 4, 4), (.arg 301, 8)], [], [], [])
def xndS5B_C : List xB := [(.eq, .arg 302, .int 5, true), (.lt, .arg 4, .int 0, false)]
def xndS5B_ss : List yS := []
def xndS5B_rs : List yR := [(some (.int (Int32.ofInt (-1000003))), [(323, .int 3, .add (.arg 400) (.int 1)), (0, .int 0, .index 1), (1, .int 1, .index 3), (0, .int 8, .index 314), (314, .int 0, .index 315), (315, .arg 4, .arg 301), (3, .arg 301, .index 1000), (1000, .int 0, .arg 302), (0, .int 13, .index 323)], [(.eq, .arg 302, .int 5, true), (.lt, .arg 4, .int 0, false)], [(323, .int 3)])]
theorem xndS5B_w : ywa xndS5B_A xndS5B_ss xndS5B_rs = true := by decide +kernel
theorem xndS5B_k : yis (yev xndS5B_A 3000 60 93 [] (61, [(4, .arg 4), (5, .index 1009), (0, .index 0), (1, .arg 1), (2, .arg 2), (3, .arg 3)], [], xndS5B_O, xndS5B_C, [])) xndS5B_ss xndS5B_rs = true := by decide +kernel
def xndS5B_r (v1_ v2 v3 v4_ v301 v302 v400 : Int32) (k_ : Nat) : Value := bif Nat.beq k_ 1 then .int v1_ else (bif Nat.beq k_ 2 then .int v2 else (bif Nat.beq k_ 3 then .int v3 else (bif Nat.beq k_ 4 then .int v4_ else (bif Nat.beq k_ 301 then .int v301 else (bif Nat.beq k_ 302 then .int v302 else (bif Nat.beq k_ 400 then .int v400 else (.int 0)))))))
def xndS5B_s (a1000 a1009 : Nat) (n_ : Nat) : Nat := bif Nat.beq n_ 1000 then a1000 else (bif Nat.beq n_ 1009 then a1009 else (0))
theorem xndS5B {h_ : xH} {a1000 a1009 : Nat} {v1_ v2 v3 v4_ v301 v302 v400 : Int32} (hs : sHp h_) (k1000 : bcq h_ a1000 5 3) (k1009 : bcq h_ a1009 5 3) (o0_ : bpat h_ 315 (v4_).toInt.toNat = some (.int v301)) (o1 : bpat h_ 3 (v301).toInt.toNat = some (.index a1000)) (o2 : bpat h_ a1000 0 = some (.int v302)) (o3_ : bpat h_ 323 3 = some (.int v400)) (b0 : 0 ≤ (v4_).toInt ∧ (v4_).toInt < 4) (b1 : 0 ≤ (v301).toInt ∧ (v301).toInt < 8) (c0_ : v302 = (5 : Int32)) (c1_ : (0 : Int32).toInt ≤ v4_.toInt) : ∃ h', ysm h_ h' ∧ (((bpat h' 323 3 = some (.int (v400 + (1 : Int32)))) ∧ (∀ a_ j_ : Nat, ¬ (a_ = 323 ∧ j_ = 3) → bpat h' a_ j_ = bpat h_ a_ j_) ∧ (∀ D_, 60 ≤ D_ → xrun D_ 93 61 [(4, .int v4_), (5, .index a1009), (0, .index 0), (1, .int v1_), (2, .int v2), (3, .int v3)] [] h_ (some (.int (Int32.ofInt (-1000003))), h', [])))) := by
  have hA : yas xndS5B_A (xndS5B_r v1_ v2 v3 v4_ v301 v302 v400) (yg (xndS5B_s a1000 a1009)) := ⟨List.forall_mem_cons.mpr ⟨b0, List.forall_mem_cons.mpr ⟨b1, fun q_ hq => absurd hq List.not_mem_nil⟩⟩, fun q_ hq => absurd hq List.not_mem_nil, fun q_ hq => absurd hq List.not_mem_nil, fun n_ hn => yg_lo hn, fun q_ hq => absurd hq List.not_mem_nil⟩
  have Hs : ysh xndS5B_A.1 (yg (xndS5B_s a1000 a1009)) h_ := ysh_of2 hs (List.forall_mem_cons.mpr ⟨⟨by decide, k1000⟩, List.forall_mem_cons.mpr ⟨⟨by decide, k1009⟩, fun q_ hq => absurd hq List.not_mem_nil⟩⟩)
  have Ho : ymem (xndS5B_r v1_ v2 v3 v4_ v301 v302 v400) (yg (xndS5B_s a1000 a1009)) xndS5B_O h_ := List.forall_mem_cons.mpr ⟨bpat_some (fxr_at hs.2 (show fxk fxl 0 0 = some 1 by decide +kernel)), List.forall_mem_cons.mpr ⟨bpat_some (fxr_at hs.2 (show fxk fxl 1 1 = some 3 by decide +kernel)), List.forall_mem_cons.mpr ⟨bpat_some (fxr_at hs.2 (show fxk fxl 0 8 = some 314 by decide +kernel)), List.forall_mem_cons.mpr ⟨bpat_some (fxr_at hs.2 (show fxk fxl 314 0 = some 315 by decide +kernel)), List.forall_mem_cons.mpr ⟨bpat_some o0_, List.forall_mem_cons.mpr ⟨bpat_some o1, List.forall_mem_cons.mpr ⟨bpat_some o2, List.forall_mem_cons.mpr ⟨bpat_some (fxr_at hs.2 (show fxk fxl 0 13 = some 323 by decide +kernel)), List.forall_mem_cons.mpr ⟨bpat_some o3_, fun q_ hq => absurd hq List.not_mem_nil⟩⟩⟩⟩⟩⟩⟩⟩⟩
  have HC : ∀ q_ ∈ xndS5B_C, xhold (xndS5B_r v1_ v2 v3 v4_ v301 v302 v400) q_ := List.forall_mem_cons.mpr ⟨xh_eqT2 c0_, List.forall_mem_cons.mpr ⟨xh_ltF c1_, fun q_ hq => absurd hq List.not_mem_nil⟩⟩
  rcases yrun (yis_ok xndS5B_k) hA Hs Ho HC with ⟨q_, hq, h', K_, G_⟩ | ⟨q_, hq, h', K_, G_⟩
  · cases hq
  · have e_ := List.mem_singleton.mp hq
    subst e_
    exact ⟨h', yfr_sm K_.2.2.2 hs K_.1 (ywa_r xndS5B_w List.mem_cons_self), ⟨bpat_of (K_.2.1 _ List.mem_cons_self), fun a_ j_ n0_ => yfr_bp K_.2.2.2 (List.forall_mem_cons.mpr ⟨fun e_ => n0_ ⟨e_.1.symm, e_.2.symm⟩, fun q_ hq => absurd hq List.not_mem_nil⟩), G_⟩⟩
-- xndS6B: 41 steps, 0 ends, 1 returns
def xndS6B_L : List (Nat × Nat × Nat) := [(1000, 5, 3), (1009, 5, 3)]
def xndS6B_O : yO := [(0, .int 0, .index 1), (1, .int 1, .index 3), (0, .int 8, .index 314), (314, .int 0, .index 315), (315, .arg 4, .arg 301), (3, .arg 301, .index 1000), (1000, .int 0, .arg 302), (0, .int 13, .index 323), (323, .int 3, .arg 400)]
def xndS6B_A : yA := (yZ xndS6B_L, [(.arg 4, 4), (.arg 301, 8)], [], [], [])
def xndS6B_C : List xB := [(.eq, .arg 302, .int 6, true), (.lt, .arg 4, .int 0, false), (.eq, .arg 302, .int 5, false)]
def xndS6B_ss : List yS := []
def xndS6B_rs : List yR := [(some (.int (Int32.ofInt (-1000003))), [(323, .int 3, .add (.arg 400) (.int 1)), (0, .int 0, .index 1), (1, .int 1, .index 3), (0, .int 8, .index 314), (314, .int 0, .index 315), (315, .arg 4, .arg 301), (3, .arg 301, .index 1000), (1000, .int 0, .arg 302), (0, .int 13, .index 323)], [(.eq, .arg 302, .int 6, true), (.lt, .arg 4, .int 0, false), (.eq, .arg 302, .int 5, false)], [(323, .int 3)])]
theorem xndS6B_w : ywa xndS6B_A xndS6B_ss xndS6B_rs = true := by decide +kernel
theorem xndS6B_k : yis (yev xndS6B_A 3000 60 93 [] (61, [(4, .arg 4), (5, .index 1009), (0, .index 0), (1, .arg 1), (2, .arg 2), (3, .arg 3)], [], xndS6B_O, xndS6B_C, [])) xndS6B_ss xndS6B_rs = true := by decide +kernel
def xndS6B_r (v1_ v2 v3 v4_ v301 v302 v400 : Int32) (k_ : Nat) : Value := bif Nat.beq k_ 1 then .int v1_ else (bif Nat.beq k_ 2 then .int v2 else (bif Nat.beq k_ 3 then .int v3 else (bif Nat.beq k_ 4 then .int v4_ else (bif Nat.beq k_ 301 then .int v301 else (bif Nat.beq k_ 302 then .int v302 else (bif Nat.beq k_ 400 then .int v400 else (.int 0)))))))
def xndS6B_s (a1000 a1009 : Nat) (n_ : Nat) : Nat := bif Nat.beq n_ 1000 then a1000 else (bif Nat.beq n_ 1009 then a1009 else (0))
theorem xndS6B {h_ : xH} {a1000 a1009 : Nat} {v1_ v2 v3 v4_ v301 v302 v400 : Int32} (hs : sHp h_) (k1000 : bcq h_ a1000 5 3) (k1009 : bcq h_ a1009 5 3) (o0_ : bpat h_ 315 (v4_).toInt.toNat = some (.int v301)) (o1 : bpat h_ 3 (v301).toInt.toNat = some (.index a1000)) (o2 : bpat h_ a1000 0 = some (.int v302)) (o3_ : bpat h_ 323 3 = some (.int v400)) (b0 : 0 ≤ (v4_).toInt ∧ (v4_).toInt < 4) (b1 : 0 ≤ (v301).toInt ∧ (v301).toInt < 8) (c0_ : v302 = (6 : Int32)) (c1_ : (0 : Int32).toInt ≤ v4_.toInt) (c2_ : ¬ v302 = (5 : Int32)) : ∃ h', ysm h_ h' ∧ (((bpat h' 323 3 = some (.int (v400 + (1 : Int32)))) ∧ (∀ a_ j_ : Nat, ¬ (a_ = 323 ∧ j_ = 3) → bpat h' a_ j_ = bpat h_ a_ j_) ∧ (∀ D_, 60 ≤ D_ → xrun D_ 93 61 [(4, .int v4_), (5, .index a1009), (0, .index 0), (1, .int v1_), (2, .int v2), (3, .int v3)] [] h_ (some (.int (Int32.ofInt (-1000003))), h', [])))) := by
  have hA : yas xndS6B_A (xndS6B_r v1_ v2 v3 v4_ v301 v302 v400) (yg (xndS6B_s a1000 a1009)) := ⟨List.forall_mem_cons.mpr ⟨b0, List.forall_mem_cons.mpr ⟨b1, fun q_ hq => absurd hq List.not_mem_nil⟩⟩, fun q_ hq => absurd hq List.not_mem_nil, fun q_ hq => absurd hq List.not_mem_nil, fun n_ hn => yg_lo hn, fun q_ hq => absurd hq List.not_mem_nil⟩
  have Hs : ysh xndS6B_A.1 (yg (xndS6B_s a1000 a1009)) h_ := ysh_of2 hs (List.forall_mem_cons.mpr ⟨⟨by decide, k1000⟩, List.forall_mem_cons.mpr ⟨⟨by decide, k1009⟩, fun q_ hq => absurd hq List.not_mem_nil⟩⟩)
  have Ho : ymem (xndS6B_r v1_ v2 v3 v4_ v301 v302 v400) (yg (xndS6B_s a1000 a1009)) xndS6B_O h_ := List.forall_mem_cons.mpr ⟨bpat_some (fxr_at hs.2 (show fxk fxl 0 0 = some 1 by decide +kernel)), List.forall_mem_cons.mpr ⟨bpat_some (fxr_at hs.2 (show fxk fxl 1 1 = some 3 by decide +kernel)), List.forall_mem_cons.mpr ⟨bpat_some (fxr_at hs.2 (show fxk fxl 0 8 = some 314 by decide +kernel)), List.forall_mem_cons.mpr ⟨bpat_some (fxr_at hs.2 (show fxk fxl 314 0 = some 315 by decide +kernel)), List.forall_mem_cons.mpr ⟨bpat_some o0_, List.forall_mem_cons.mpr ⟨bpat_some o1, List.forall_mem_cons.mpr ⟨bpat_some o2, List.forall_mem_cons.mpr ⟨bpat_some (fxr_at hs.2 (show fxk fxl 0 13 = some 323 by decide +kernel)), List.forall_mem_cons.mpr ⟨bpat_some o3_, fun q_ hq => absurd hq List.not_mem_nil⟩⟩⟩⟩⟩⟩⟩⟩⟩
  have HC : ∀ q_ ∈ xndS6B_C, xhold (xndS6B_r v1_ v2 v3 v4_ v301 v302 v400) q_ := List.forall_mem_cons.mpr ⟨xh_eqT2 c0_, List.forall_mem_cons.mpr ⟨xh_ltF c1_, List.forall_mem_cons.mpr ⟨xh_eqF2 c2_, fun q_ hq => absurd hq List.not_mem_nil⟩⟩⟩
  rcases yrun (yis_ok xndS6B_k) hA Hs Ho HC with ⟨q_, hq, h', K_, G_⟩ | ⟨q_, hq, h', K_, G_⟩
  · cases hq
  · have e_ := List.mem_singleton.mp hq
    subst e_
    exact ⟨h', yfr_sm K_.2.2.2 hs K_.1 (ywa_r xndS6B_w List.mem_cons_self), ⟨bpat_of (K_.2.1 _ List.mem_cons_self), fun a_ j_ n0_ => yfr_bp K_.2.2.2 (List.forall_mem_cons.mpr ⟨fun e_ => n0_ ⟨e_.1.symm, e_.2.symm⟩, fun q_ hq => absurd hq List.not_mem_nil⟩), G_⟩⟩
-- xndN: 2 steps, 1 ends, 0 returns
def xndN_L : List (Nat × Nat × Nat) := [(1000, 5, 3)]
def xndN_O : yO := []
def xndN_A : yA := (yZ xndN_L, [], [], [], [])
def xndN_C : List xB := []
def xndN_ss : List yS := [(61, [(4, .add (.arg 4) (.int (Int32.ofInt (-1)))), (5, .index 1000), (0, .index 0), (1, .arg 1), (2, .arg 2), (3, .arg 3)], [], [], [], [])]
def xndN_rs : List yR := []
theorem xndN_w : ywa xndN_A xndN_ss xndN_rs = true := by decide +kernel
theorem xndN_k : yis (yev xndN_A 3000 60 93 [61] (113, [(5, .index 1000), (4, .arg 4), (0, .index 0), (1, .arg 1), (2, .arg 2), (3, .arg 3)], [], xndN_O, xndN_C, [])) xndN_ss xndN_rs = true := by decide +kernel
def xndN_r (v1_ v2 v3 v4_ : Int32) (k_ : Nat) : Value := bif Nat.beq k_ 1 then .int v1_ else (bif Nat.beq k_ 2 then .int v2 else (bif Nat.beq k_ 3 then .int v3 else (bif Nat.beq k_ 4 then .int v4_ else (.int 0))))
def xndN_s (a1000 : Nat) (n_ : Nat) : Nat := bif Nat.beq n_ 1000 then a1000 else (0)
theorem xndN {h_ : xH} {a1000 : Nat} {v1_ v2 v3 v4_ : Int32} (hs : sHp h_) (k1000 : bcq h_ a1000 5 3) : ∃ h', ysm h_ h' ∧ (((∀ a_ j_ : Nat, bpat h' a_ j_ = bpat h_ a_ j_) ∧ (bldD 60 93 113 [(5, .index a1000), (4, .int v4_), (0, .index 0), (1, .int v1_), (2, .int v2), (3, .int v3)] [] h_ 61 [(4, .int (v4_ + (Int32.ofInt (-1)))), (5, .index a1000), (0, .index 0), (1, .int v1_), (2, .int v2), (3, .int v3)] [] h'))) := by
  have hA : yas xndN_A (xndN_r v1_ v2 v3 v4_) (yg (xndN_s a1000)) := ⟨fun q_ hq => absurd hq List.not_mem_nil, fun q_ hq => absurd hq List.not_mem_nil, fun q_ hq => absurd hq List.not_mem_nil, fun n_ hn => yg_lo hn, fun q_ hq => absurd hq List.not_mem_nil⟩
  have Hs : ysh xndN_A.1 (yg (xndN_s a1000)) h_ := ysh_of2 hs (List.forall_mem_cons.mpr ⟨⟨by decide, k1000⟩, fun q_ hq => absurd hq List.not_mem_nil⟩)
  have Ho : ymem (xndN_r v1_ v2 v3 v4_) (yg (xndN_s a1000)) xndN_O h_ := fun q_ hq => absurd hq List.not_mem_nil
  have HC : ∀ q_ ∈ xndN_C, xhold (xndN_r v1_ v2 v3 v4_) q_ := fun q_ hq => absurd hq List.not_mem_nil
  rcases yrun (yis_ok xndN_k) hA Hs Ho HC with ⟨q_, hq, h', K_, G_⟩ | ⟨q_, hq, h', K_, G_⟩
  · have e_ := List.mem_singleton.mp hq
    subst e_
    exact ⟨h', yfr_sm K_.2.2.2 hs K_.1 (ywa_s xndN_w List.mem_cons_self), ⟨fun a_ j_ => yfr_bp K_.2.2.2 (fun q_ hq => absurd hq List.not_mem_nil), G_⟩⟩
  · cases hq
-- xndR: 1 steps, 0 ends, 1 returns
def xndR_L : List (Nat × Nat × Nat) := []
def xndR_O : yO := []
def xndR_A : yA := (yZ xndR_L, [], [], [], [])
def xndR_C : List xB := []
def xndR_ss : List yS := []
def xndR_rs : List yR := [(some (.arg 6), [], [], [])]
theorem xndR_w : ywa xndR_A xndR_ss xndR_rs = true := by decide +kernel
theorem xndR_k : yis (yev xndR_A 3000 60 93 [] (128, [(4, .arg 4), (0, .index 0), (1, .arg 1), (2, .arg 2), (3, .arg 3)], [.arg 6], xndR_O, xndR_C, [])) xndR_ss xndR_rs = true := by decide +kernel
def xndR_r (v1_ v2 v3 v4_ v6 : Int32) (k_ : Nat) : Value := bif Nat.beq k_ 1 then .int v1_ else (bif Nat.beq k_ 2 then .int v2 else (bif Nat.beq k_ 3 then .int v3 else (bif Nat.beq k_ 4 then .int v4_ else (bif Nat.beq k_ 6 then .int v6 else (.int 0)))))
def xndR_s (n_ : Nat) : Nat := 0
theorem xndR {h_ : xH} {v1_ v2 v3 v4_ v6 : Int32} (hs : sHp h_) : ∃ h', ysm h_ h' ∧ (((∀ a_ j_ : Nat, bpat h' a_ j_ = bpat h_ a_ j_) ∧ (∀ D_, 60 ≤ D_ → xrun D_ 93 128 [(4, .int v4_), (0, .index 0), (1, .int v1_), (2, .int v2), (3, .int v3)] [.int v6] h_ (some (.int v6), h', [])))) := by
  have hA : yas xndR_A (xndR_r v1_ v2 v3 v4_ v6) (yg xndR_s) := ⟨fun q_ hq => absurd hq List.not_mem_nil, fun q_ hq => absurd hq List.not_mem_nil, fun q_ hq => absurd hq List.not_mem_nil, fun n_ hn => yg_lo hn, fun q_ hq => absurd hq List.not_mem_nil⟩
  have Hs : ysh xndR_A.1 (yg xndR_s) h_ := ysh_of2 hs (fun q_ hq => absurd hq List.not_mem_nil)
  have Ho : ymem (xndR_r v1_ v2 v3 v4_ v6) (yg xndR_s) xndR_O h_ := fun q_ hq => absurd hq List.not_mem_nil
  have HC : ∀ q_ ∈ xndR_C, xhold (xndR_r v1_ v2 v3 v4_ v6) q_ := fun q_ hq => absurd hq List.not_mem_nil
  rcases yrun (yis_ok xndR_k) hA Hs Ho HC with ⟨q_, hq, h', K_, G_⟩ | ⟨q_, hq, h', K_, G_⟩
  · cases hq
  · have e_ := List.mem_singleton.mp hq
    subst e_
    exact ⟨h', yfr_sm K_.2.2.2 hs K_.1 (ywa_r xndR_w List.mem_cons_self), ⟨fun a_ j_ => yfr_bp K_.2.2.2 (fun q_ hq => absurd hq List.not_mem_nil), G_⟩⟩
-- xndRB: 1 steps, 0 ends, 1 returns
def xndRB_L : List (Nat × Nat × Nat) := [(1009, 5, 3)]
def xndRB_O : yO := []
def xndRB_A : yA := (yZ xndRB_L, [], [], [], [])
def xndRB_C : List xB := []
def xndRB_ss : List yS := []
def xndRB_rs : List yR := [(some (.arg 6), [], [], [])]
theorem xndRB_w : ywa xndRB_A xndRB_ss xndRB_rs = true := by decide +kernel
theorem xndRB_k : yis (yev xndRB_A 3000 60 93 [] (128, [(4, .arg 4), (5, .index 1009), (0, .index 0), (1, .arg 1), (2, .arg 2), (3, .arg 3)], [.arg 6], xndRB_O, xndRB_C, [])) xndRB_ss xndRB_rs = true := by decide +kernel
def xndRB_r (v1_ v2 v3 v4_ v6 : Int32) (k_ : Nat) : Value := bif Nat.beq k_ 1 then .int v1_ else (bif Nat.beq k_ 2 then .int v2 else (bif Nat.beq k_ 3 then .int v3 else (bif Nat.beq k_ 4 then .int v4_ else (bif Nat.beq k_ 6 then .int v6 else (.int 0)))))
def xndRB_s (a1009 : Nat) (n_ : Nat) : Nat := bif Nat.beq n_ 1009 then a1009 else (0)
theorem xndRB {h_ : xH} {a1009 : Nat} {v1_ v2 v3 v4_ v6 : Int32} (hs : sHp h_) (k1009 : bcq h_ a1009 5 3) : ∃ h', ysm h_ h' ∧ (((∀ a_ j_ : Nat, bpat h' a_ j_ = bpat h_ a_ j_) ∧ (∀ D_, 60 ≤ D_ → xrun D_ 93 128 [(4, .int v4_), (5, .index a1009), (0, .index 0), (1, .int v1_), (2, .int v2), (3, .int v3)] [.int v6] h_ (some (.int v6), h', [])))) := by
  have hA : yas xndRB_A (xndRB_r v1_ v2 v3 v4_ v6) (yg (xndRB_s a1009)) := ⟨fun q_ hq => absurd hq List.not_mem_nil, fun q_ hq => absurd hq List.not_mem_nil, fun q_ hq => absurd hq List.not_mem_nil, fun n_ hn => yg_lo hn, fun q_ hq => absurd hq List.not_mem_nil⟩
  have Hs : ysh xndRB_A.1 (yg (xndRB_s a1009)) h_ := ysh_of2 hs (List.forall_mem_cons.mpr ⟨⟨by decide, k1009⟩, fun q_ hq => absurd hq List.not_mem_nil⟩)
  have Ho : ymem (xndRB_r v1_ v2 v3 v4_ v6) (yg (xndRB_s a1009)) xndRB_O h_ := fun q_ hq => absurd hq List.not_mem_nil
  have HC : ∀ q_ ∈ xndRB_C, xhold (xndRB_r v1_ v2 v3 v4_ v6) q_ := fun q_ hq => absurd hq List.not_mem_nil
  rcases yrun (yis_ok xndRB_k) hA Hs Ho HC with ⟨q_, hq, h', K_, G_⟩ | ⟨q_, hq, h', K_, G_⟩
  · cases hq
  · have e_ := List.mem_singleton.mp hq
    subst e_
    exact ⟨h', yfr_sm K_.2.2.2 hs K_.1 (ywa_r xndRB_w List.mem_cons_self), ⟨fun a_ j_ => yfr_bp K_.2.2.2 (fun q_ hq => absurd hq List.not_mem_nil), G_⟩⟩
-- mndE: 65 steps, 1 ends, 2 returns
def mndE_L : List (Nat × Nat × Nat) := []
def mndE_O : yO := [(338, .int 0, .index 339), (339, .int 0, .arg 310), (338, .int 3, .index 341), (341, .int 1, .arg 400)]
def mndE_A : yA := (yZ mndE_L, [], [], [], [])
def mndE_C : List xB := []
def mndE_ss : List yS := [(10, [(0, .index 338), (1, .arg 1), (2, .arg 2), (3, .arg 3)], [.arg 2, .index 338], [(338, .int 0, .index 339), (339, .int 0, .arg 310), (338, .int 3, .index 341), (341, .int 1, .arg 400)], [(.le, .arg 1, .sub (.arg 310) (.int 1), true), (.lt, .arg 1, .int 0, false)], [])]
def mndE_rs : List yR := [(some (.int (Int32.ofInt (-1000001))), [(341, .int 1, .add (.arg 400) (.int 1)), (338, .int 0, .index 339), (339, .int 0, .arg 310), (338, .int 3, .index 341)], [(.lt, .arg 1, .int 0, true)], [(341, .int 1)]),
  (some (.int (Int32.ofInt (-1000001))), [(341, .int 1, .add (.arg 400) (.int 1)), (338, .int 0, .index 339), (339, .int 0, .arg 310), (338, .int 3, .index 341)], [(.le, .arg 1, .sub (.arg 310) (.int 1), false), (.lt, .arg 1, .int 0, false)], [(341, .int 1)])]
theorem mndE_w : ywa mndE_A mndE_ss mndE_rs = true := by decide +kernel
theorem mndE_k : yis (yev mndE_A 3000 60 195 [10] (0, [(0, .index 338), (1, .arg 1), (2, .arg 2), (3, .arg 3)], [], mndE_O, mndE_C, [])) mndE_ss mndE_rs = true := by decide +kernel
def mndE_r (v1_ v2 v3 v310 v400 : Int32) (k_ : Nat) : Value := bif Nat.beq k_ 1 then .int v1_ else (bif Nat.beq k_ 2 then .int v2 else (bif Nat.beq k_ 3 then .int v3 else (bif Nat.beq k_ 310 then .int v310 else (bif Nat.beq k_ 400 then .int v400 else (.int 0)))))
def mndE_s (n_ : Nat) : Nat := 0
theorem mndE {h_ : xH} {v1_ v2 v3 v310 v400 : Int32} (hs : sHp h_) (o0_ : bpat h_ 339 0 = some (.int v310)) (o1 : bpat h_ 341 1 = some (.int v400)) : ∃ h', ysm h_ h' ∧ (((v1_.toInt ≤ (v310 - (1 : Int32)).toInt) ∧ ((0 : Int32).toInt ≤ v1_.toInt) ∧ (∀ a_ j_ : Nat, bpat h' a_ j_ = bpat h_ a_ j_) ∧ (bldD 60 195 0 [(0, .index 338), (1, .int v1_), (2, .int v2), (3, .int v3)] [] h_ 10 [(0, .index 338), (1, .int v1_), (2, .int v2), (3, .int v3)] [.int v2, .index 338] h'))
  ∨ ((v1_.toInt < (0 : Int32).toInt) ∧ (bpat h' 341 1 = some (.int (v400 + (1 : Int32)))) ∧ (∀ a_ j_ : Nat, ¬ (a_ = 341 ∧ j_ = 1) → bpat h' a_ j_ = bpat h_ a_ j_) ∧ (∀ D_, 60 ≤ D_ → xrun D_ 195 0 [(0, .index 338), (1, .int v1_), (2, .int v2), (3, .int v3)] [] h_ (some (.int (Int32.ofInt (-1000001))), h', [])))
  ∨ (((v310 - (1 : Int32)).toInt < v1_.toInt) ∧ ((0 : Int32).toInt ≤ v1_.toInt) ∧ (bpat h' 341 1 = some (.int (v400 + (1 : Int32)))) ∧ (∀ a_ j_ : Nat, ¬ (a_ = 341 ∧ j_ = 1) → bpat h' a_ j_ = bpat h_ a_ j_) ∧ (∀ D_, 60 ≤ D_ → xrun D_ 195 0 [(0, .index 338), (1, .int v1_), (2, .int v2), (3, .int v3)] [] h_ (some (.int (Int32.ofInt (-1000001))), h', [])))) := by
  have hA : yas mndE_A (mndE_r v1_ v2 v3 v310 v400) (yg mndE_s) := ⟨fun q_ hq => absurd hq List.not_mem_nil, fun q_ hq => absurd hq List.not_mem_nil, fun q_ hq => absurd hq List.not_mem_nil, fun n_ hn => yg_lo hn, fun q_ hq => absurd hq List.not_mem_nil⟩
  have Hs : ysh mndE_A.1 (yg mndE_s) h_ := ysh_of2 hs (fun q_ hq => absurd hq List.not_mem_nil)
  have Ho : ymem (mndE_r v1_ v2 v3 v310 v400) (yg mndE_s) mndE_O h_ := List.forall_mem_cons.mpr ⟨bpat_some (fxr_at hs.2 (show fxk fxl 338 0 = some 339 by decide +kernel)), List.forall_mem_cons.mpr ⟨bpat_some o0_, List.forall_mem_cons.mpr ⟨bpat_some (fxr_at hs.2 (show fxk fxl 338 3 = some 341 by decide +kernel)), List.forall_mem_cons.mpr ⟨bpat_some o1, fun q_ hq => absurd hq List.not_mem_nil⟩⟩⟩⟩
  have HC : ∀ q_ ∈ mndE_C, xhold (mndE_r v1_ v2 v3 v310 v400) q_ := fun q_ hq => absurd hq List.not_mem_nil
  rcases yrun (yis_ok mndE_k) hA Hs Ho HC with ⟨q_, hq, h', K_, G_⟩ | ⟨q_, hq, h', K_, G_⟩
  · have e_ := List.mem_singleton.mp hq
    subst e_
    exact ⟨h', yfr_sm K_.2.2.2 hs K_.1 (ywa_s mndE_w List.mem_cons_self), Or.inl (⟨xq_leT rfl (yv_sub2 rfl rfl) (K_.2.2.1 _ List.mem_cons_self), xq_ltF rfl rfl (K_.2.2.1 _ (List.mem_cons_of_mem _ List.mem_cons_self)), fun a_ j_ => yfr_bp K_.2.2.2 (fun q_ hq => absurd hq List.not_mem_nil), G_⟩)⟩
  · rcases List.mem_cons.mp hq with e_ | hq
    · subst e_
      exact ⟨h', yfr_sm K_.2.2.2 hs K_.1 (ywa_r mndE_w List.mem_cons_self), Or.inr (Or.inl (⟨xq_ltT rfl rfl (K_.2.2.1 _ List.mem_cons_self), bpat_of (K_.2.1 _ List.mem_cons_self), fun a_ j_ n0_ => yfr_bp K_.2.2.2 (List.forall_mem_cons.mpr ⟨fun e_ => n0_ ⟨e_.1.symm, e_.2.symm⟩, fun q_ hq => absurd hq List.not_mem_nil⟩), G_⟩))⟩
    have e_ := List.mem_singleton.mp hq
    subst e_
    exact ⟨h', yfr_sm K_.2.2.2 hs K_.1 (ywa_r mndE_w (List.mem_cons_of_mem _ List.mem_cons_self)), Or.inr (Or.inr (⟨xq_leF rfl (yv_sub2 rfl rfl) (K_.2.2.1 _ List.mem_cons_self), xq_ltF rfl rfl (K_.2.2.1 _ (List.mem_cons_of_mem _ List.mem_cons_self)), bpat_of (K_.2.1 _ List.mem_cons_self), fun a_ j_ n0_ => yfr_bp K_.2.2.2 (List.forall_mem_cons.mpr ⟨fun e_ => n0_ ⟨e_.1.symm, e_.2.symm⟩, fun q_ hq => absurd hq List.not_mem_nil⟩), G_⟩))⟩
-- mndF: 17 steps, 0 ends, 1 returns
def mndF_L : List (Nat × Nat × Nat) := []
def mndF_O : yO := [(338, .int 3, .index 341), (341, .int 1, .arg 400)]
def mndF_A : yA := (yZ mndF_L, [], [], [], [])
def mndF_C : List xB := []
def mndF_ss : List yS := []
def mndF_rs : List yR := [(some (.int (Int32.ofInt (-1000001))), [(341, .int 1, .add (.arg 400) (.int 1)), (338, .int 3, .index 341)], [], [(341, .int 1)])]
theorem mndF_w : ywa mndF_A mndF_ss mndF_rs = true := by decide +kernel
theorem mndF_k : yis (yev mndF_A 3000 60 195 [] (13, [(0, .index 338), (1, .arg 1), (2, .arg 2), (3, .arg 3)], [.int 0], mndF_O, mndF_C, [])) mndF_ss mndF_rs = true := by decide +kernel
def mndF_r (v1_ v2 v3 v400 : Int32) (k_ : Nat) : Value := bif Nat.beq k_ 1 then .int v1_ else (bif Nat.beq k_ 2 then .int v2 else (bif Nat.beq k_ 3 then .int v3 else (bif Nat.beq k_ 400 then .int v400 else (.int 0))))
def mndF_s (n_ : Nat) : Nat := 0
theorem mndF {h_ : xH} {v1_ v2 v3 v400 : Int32} (hs : sHp h_) (o0_ : bpat h_ 341 1 = some (.int v400)) : ∃ h', ysm h_ h' ∧ (((bpat h' 341 1 = some (.int (v400 + (1 : Int32)))) ∧ (∀ a_ j_ : Nat, ¬ (a_ = 341 ∧ j_ = 1) → bpat h' a_ j_ = bpat h_ a_ j_) ∧ (∀ D_, 60 ≤ D_ → xrun D_ 195 13 [(0, .index 338), (1, .int v1_), (2, .int v2), (3, .int v3)] [.int (0 : Int32)] h_ (some (.int (Int32.ofInt (-1000001))), h', [])))) := by
  have hA : yas mndF_A (mndF_r v1_ v2 v3 v400) (yg mndF_s) := ⟨fun q_ hq => absurd hq List.not_mem_nil, fun q_ hq => absurd hq List.not_mem_nil, fun q_ hq => absurd hq List.not_mem_nil, fun n_ hn => yg_lo hn, fun q_ hq => absurd hq List.not_mem_nil⟩
  have Hs : ysh mndF_A.1 (yg mndF_s) h_ := ysh_of2 hs (fun q_ hq => absurd hq List.not_mem_nil)
  have Ho : ymem (mndF_r v1_ v2 v3 v400) (yg mndF_s) mndF_O h_ := List.forall_mem_cons.mpr ⟨bpat_some (fxr_at hs.2 (show fxk fxl 338 3 = some 341 by decide +kernel)), List.forall_mem_cons.mpr ⟨bpat_some o0_, fun q_ hq => absurd hq List.not_mem_nil⟩⟩
  have HC : ∀ q_ ∈ mndF_C, xhold (mndF_r v1_ v2 v3 v400) q_ := fun q_ hq => absurd hq List.not_mem_nil
  rcases yrun (yis_ok mndF_k) hA Hs Ho HC with ⟨q_, hq, h', K_, G_⟩ | ⟨q_, hq, h', K_, G_⟩
  · cases hq
  · have e_ := List.mem_singleton.mp hq
    subst e_
    exact ⟨h', yfr_sm K_.2.2.2 hs K_.1 (ywa_r mndF_w List.mem_cons_self), ⟨bpat_of (K_.2.1 _ List.mem_cons_self), fun a_ j_ n0_ => yfr_bp K_.2.2.2 (List.forall_mem_cons.mpr ⟨fun e_ => n0_ ⟨e_.1.symm, e_.2.symm⟩, fun q_ hq => absurd hq List.not_mem_nil⟩), G_⟩⟩
-- mndI: 20 steps, 0 ends, 1 returns
def mndI_L : List (Nat × Nat × Nat) := []
def mndI_O : yO := [(338, .int 3, .index 341), (341, .int 1, .arg 400)]
def mndI_A : yA := (yZ mndI_L, [], [], [], [])
def mndI_C : List xB := [(.lt, .arg 3, .int (Int32.ofInt (-1)), true)]
def mndI_ss : List yS := []
def mndI_rs : List yR := [(some (.int (Int32.ofInt (-1000001))), [(341, .int 1, .add (.arg 400) (.int 1)), (338, .int 3, .index 341)], [(.lt, .arg 3, .int (Int32.ofInt (-1)), true)], [(341, .int 1)])]
theorem mndI_w : ywa mndI_A mndI_ss mndI_rs = true := by decide +kernel
theorem mndI_k : yis (yev mndI_A 3000 60 195 [] (13, [(0, .index 338), (1, .arg 1), (2, .arg 2), (3, .arg 3)], [.int 1], mndI_O, mndI_C, [])) mndI_ss mndI_rs = true := by decide +kernel
def mndI_r (v1_ v2 v3 v400 : Int32) (k_ : Nat) : Value := bif Nat.beq k_ 1 then .int v1_ else (bif Nat.beq k_ 2 then .int v2 else (bif Nat.beq k_ 3 then .int v3 else (bif Nat.beq k_ 400 then .int v400 else (.int 0))))
def mndI_s (n_ : Nat) : Nat := 0
theorem mndI {h_ : xH} {v1_ v2 v3 v400 : Int32} (hs : sHp h_) (o0_ : bpat h_ 341 1 = some (.int v400)) (c0_ : v3.toInt < (Int32.ofInt (-1)).toInt) : ∃ h', ysm h_ h' ∧ (((bpat h' 341 1 = some (.int (v400 + (1 : Int32)))) ∧ (∀ a_ j_ : Nat, ¬ (a_ = 341 ∧ j_ = 1) → bpat h' a_ j_ = bpat h_ a_ j_) ∧ (∀ D_, 60 ≤ D_ → xrun D_ 195 13 [(0, .index 338), (1, .int v1_), (2, .int v2), (3, .int v3)] [.int (1 : Int32)] h_ (some (.int (Int32.ofInt (-1000001))), h', [])))) := by
  have hA : yas mndI_A (mndI_r v1_ v2 v3 v400) (yg mndI_s) := ⟨fun q_ hq => absurd hq List.not_mem_nil, fun q_ hq => absurd hq List.not_mem_nil, fun q_ hq => absurd hq List.not_mem_nil, fun n_ hn => yg_lo hn, fun q_ hq => absurd hq List.not_mem_nil⟩
  have Hs : ysh mndI_A.1 (yg mndI_s) h_ := ysh_of2 hs (fun q_ hq => absurd hq List.not_mem_nil)
  have Ho : ymem (mndI_r v1_ v2 v3 v400) (yg mndI_s) mndI_O h_ := List.forall_mem_cons.mpr ⟨bpat_some (fxr_at hs.2 (show fxk fxl 338 3 = some 341 by decide +kernel)), List.forall_mem_cons.mpr ⟨bpat_some o0_, fun q_ hq => absurd hq List.not_mem_nil⟩⟩
  have HC : ∀ q_ ∈ mndI_C, xhold (mndI_r v1_ v2 v3 v400) q_ := List.forall_mem_cons.mpr ⟨xh_ltT c0_, fun q_ hq => absurd hq List.not_mem_nil⟩
  rcases yrun (yis_ok mndI_k) hA Hs Ho HC with ⟨q_, hq, h', K_, G_⟩ | ⟨q_, hq, h', K_, G_⟩
  · cases hq
  · have e_ := List.mem_singleton.mp hq
    subst e_
    exact ⟨h', yfr_sm K_.2.2.2 hs K_.1 (ywa_r mndI_w List.mem_cons_self), ⟨bpat_of (K_.2.1 _ List.mem_cons_self), fun a_ j_ n0_ => yfr_bp K_.2.2.2 (List.forall_mem_cons.mpr ⟨fun e_ => n0_ ⟨e_.1.symm, e_.2.symm⟩, fun q_ hq => absurd hq List.not_mem_nil⟩), G_⟩⟩
-- mndG: 6 steps, 1 ends, 0 returns
def mndG_L : List (Nat × Nat × Nat) := []
def mndG_O : yO := []
def mndG_A : yA := (yZ mndG_L, [], [], [], [])
def mndG_C : List xB := [(.lt, .arg 3, .int (Int32.ofInt (-1)), false)]
def mndG_ss : List yS := [(29, [(0, .index 338), (1, .arg 1), (2, .arg 2), (3, .arg 3)], [.arg 2, .index 338], [], [(.lt, .arg 3, .int (Int32.ofInt (-1)), false)], [])]
def mndG_rs : List yR := []
theorem mndG_w : ywa mndG_A mndG_ss mndG_rs = true := by decide +kernel
theorem mndG_k : yis (yev mndG_A 3000 60 195 [29] (13, [(0, .index 338), (1, .arg 1), (2, .arg 2), (3, .arg 3)], [.int 1], mndG_O, mndG_C, [])) mndG_ss mndG_rs = true := by decide +kernel
def mndG_r (v1_ v2 v3 : Int32) (k_ : Nat) : Value := bif Nat.beq k_ 1 then .int v1_ else (bif Nat.beq k_ 2 then .int v2 else (bif Nat.beq k_ 3 then .int v3 else (.int 0)))
def mndG_s (n_ : Nat) : Nat := 0
theorem mndG {h_ : xH} {v1_ v2 v3 : Int32} (hs : sHp h_) (c0_ : (Int32.ofInt (-1)).toInt ≤ v3.toInt) : ∃ h', ysm h_ h' ∧ (((∀ a_ j_ : Nat, bpat h' a_ j_ = bpat h_ a_ j_) ∧ (bldD 60 195 13 [(0, .index 338), (1, .int v1_), (2, .int v2), (3, .int v3)] [.int (1 : Int32)] h_ 29 [(0, .index 338), (1, .int v1_), (2, .int v2), (3, .int v3)] [.int v2, .index 338] h'))) := by
  have hA : yas mndG_A (mndG_r v1_ v2 v3) (yg mndG_s) := ⟨fun q_ hq => absurd hq List.not_mem_nil, fun q_ hq => absurd hq List.not_mem_nil, fun q_ hq => absurd hq List.not_mem_nil, fun n_ hn => yg_lo hn, fun q_ hq => absurd hq List.not_mem_nil⟩
  have Hs : ysh mndG_A.1 (yg mndG_s) h_ := ysh_of2 hs (fun q_ hq => absurd hq List.not_mem_nil)
  have Ho : ymem (mndG_r v1_ v2 v3) (yg mndG_s) mndG_O h_ := fun q_ hq => absurd hq List.not_mem_nil
  have HC : ∀ q_ ∈ mndG_C, xhold (mndG_r v1_ v2 v3) q_ := List.forall_mem_cons.mpr ⟨xh_ltF c0_, fun q_ hq => absurd hq List.not_mem_nil⟩
  rcases yrun (yis_ok mndG_k) hA Hs Ho HC with ⟨q_, hq, h', K_, G_⟩ | ⟨q_, hq, h', K_, G_⟩
  · have e_ := List.mem_singleton.mp hq
    subst e_
    exact ⟨h', yfr_sm K_.2.2.2 hs K_.1 (ywa_s mndG_w List.mem_cons_self), ⟨fun a_ j_ => yfr_bp K_.2.2.2 (fun q_ hq => absurd hq List.not_mem_nil), G_⟩⟩
  · cases hq
-- mndS: 17 steps, 0 ends, 1 returns
def mndS_L : List (Nat × Nat × Nat) := []
def mndS_O : yO := [(338, .int 3, .index 341), (341, .int 3, .arg 400)]
def mndS_A : yA := (yZ mndS_L, [], [], [], [])
def mndS_C : List xB := []
def mndS_ss : List yS := []
def mndS_rs : List yR := [(some (.int (Int32.ofInt (-1000003))), [(341, .int 3, .add (.arg 400) (.int 1)), (338, .int 3, .index 341)], [], [(341, .int 3)])]
theorem mndS_w : ywa mndS_A mndS_ss mndS_rs = true := by decide +kernel
theorem mndS_k : yis (yev mndS_A 3000 60 195 [] (32, [(0, .index 338), (1, .arg 1), (2, .arg 2), (3, .arg 3)], [.int 0], mndS_O, mndS_C, [])) mndS_ss mndS_rs = true := by decide +kernel
def mndS_r (v1_ v2 v3 v400 : Int32) (k_ : Nat) : Value := bif Nat.beq k_ 1 then .int v1_ else (bif Nat.beq k_ 2 then .int v2 else (bif Nat.beq k_ 3 then .int v3 else (bif Nat.beq k_ 400 then .int v400 else (.int 0))))
def mndS_s (n_ : Nat) : Nat := 0
theorem mndS {h_ : xH} {v1_ v2 v3 v400 : Int32} (hs : sHp h_) (o0_ : bpat h_ 341 3 = some (.int v400)) : ∃ h', ysm h_ h' ∧ (((bpat h' 341 3 = some (.int (v400 + (1 : Int32)))) ∧ (∀ a_ j_ : Nat, ¬ (a_ = 341 ∧ j_ = 3) → bpat h' a_ j_ = bpat h_ a_ j_) ∧ (∀ D_, 60 ≤ D_ → xrun D_ 195 32 [(0, .index 338), (1, .int v1_), (2, .int v2), (3, .int v3)] [.int (0 : Int32)] h_ (some (.int (Int32.ofInt (-1000003))), h', [])))) := by
  have hA : yas mndS_A (mndS_r v1_ v2 v3 v400) (yg mndS_s) := ⟨fun q_ hq => absurd hq List.not_mem_nil, fun q_ hq => absurd hq List.not_mem_nil, fun q_ hq => absurd hq List.not_mem_nil, fun n_ hn => yg_lo hn, fun q_ hq => absurd hq List.not_mem_nil⟩
  have Hs : ysh mndS_A.1 (yg mndS_s) h_ := ysh_of2 hs (fun q_ hq => absurd hq List.not_mem_nil)
  have Ho : ymem (mndS_r v1_ v2 v3 v400) (yg mndS_s) mndS_O h_ := List.forall_mem_cons.mpr ⟨bpat_some (fxr_at hs.2 (show fxk fxl 338 3 = some 341 by decide +kernel)), List.forall_mem_cons.mpr ⟨bpat_some o0_, fun q_ hq => absurd hq List.not_mem_nil⟩⟩
  have HC : ∀ q_ ∈ mndS_C, xhold (mndS_r v1_ v2 v3 v400) q_ := fun q_ hq => absurd hq List.not_mem_nil
  rcases yrun (yis_ok mndS_k) hA Hs Ho HC with ⟨q_, hq, h', K_, G_⟩ | ⟨q_, hq, h', K_, G_⟩
  · cases hq
  · have e_ := List.mem_singleton.mp hq
    subst e_
    exact ⟨h', yfr_sm K_.2.2.2 hs K_.1 (ywa_r mndS_w List.mem_cons_self), ⟨bpat_of (K_.2.1 _ List.mem_cons_self), fun a_ j_ n0_ => yfr_bp K_.2.2.2 (List.forall_mem_cons.mpr ⟨fun e_ => n0_ ⟨e_.1.symm, e_.2.symm⟩, fun q_ hq => absurd hq List.not_mem_nil⟩), G_⟩⟩
-- mndH: 6 steps, 1 ends, 0 returns
def mndH_L : List (Nat × Nat × Nat) := []
def mndH_O : yO := [(338, .int 4, .index 342)]
def mndH_A : yA := (yZ mndH_L, [], [], [], [])
def mndH_C : List xB := []
def mndH_ss : List yS := [(48, [(0, .index 338), (1, .arg 1), (2, .arg 2), (3, .arg 3)], [.index 342, .arg 2, .arg 1, .index 338], [(338, .int 4, .index 342)], [], [])]
def mndH_rs : List yR := []
theorem mndH_w : ywa mndH_A mndH_ss mndH_rs = true := by decide +kernel
theorem mndH_k : yis (yev mndH_A 3000 60 195 [48] (32, [(0, .index 338), (1, .arg 1), (2, .arg 2), (3, .arg 3)], [.int 1], mndH_O, mndH_C, [])) mndH_ss mndH_rs = true := by decide +kernel
def mndH_r (v1_ v2 v3 : Int32) (k_ : Nat) : Value := bif Nat.beq k_ 1 then .int v1_ else (bif Nat.beq k_ 2 then .int v2 else (bif Nat.beq k_ 3 then .int v3 else (.int 0)))
def mndH_s (n_ : Nat) : Nat := 0
theorem mndH {h_ : xH} {v1_ v2 v3 : Int32} (hs : sHp h_) : ∃ h', ysm h_ h' ∧ (((∀ a_ j_ : Nat, bpat h' a_ j_ = bpat h_ a_ j_) ∧ (bldD 60 195 32 [(0, .index 338), (1, .int v1_), (2, .int v2), (3, .int v3)] [.int (1 : Int32)] h_ 48 [(0, .index 338), (1, .int v1_), (2, .int v2), (3, .int v3)] [.index 342, .int v2, .int v1_, .index 338] h'))) := by
  have hA : yas mndH_A (mndH_r v1_ v2 v3) (yg mndH_s) := ⟨fun q_ hq => absurd hq List.not_mem_nil, fun q_ hq => absurd hq List.not_mem_nil, fun q_ hq => absurd hq List.not_mem_nil, fun n_ hn => yg_lo hn, fun q_ hq => absurd hq List.not_mem_nil⟩
  have Hs : ysh mndH_A.1 (yg mndH_s) h_ := ysh_of2 hs (fun q_ hq => absurd hq List.not_mem_nil)
  have Ho : ymem (mndH_r v1_ v2 v3) (yg mndH_s) mndH_O h_ := List.forall_mem_cons.mpr ⟨bpat_some (fxr_at hs.2 (show fxk fxl 338 4 = some 342 by decide +kernel)), fun q_ hq => absurd hq List.not_mem_nil⟩
  have HC : ∀ q_ ∈ mndH_C, xhold (mndH_r v1_ v2 v3) q_ := fun q_ hq => absurd hq List.not_mem_nil
  rcases yrun (yis_ok mndH_k) hA Hs Ho HC with ⟨q_, hq, h', K_, G_⟩ | ⟨q_, hq, h', K_, G_⟩
  · have e_ := List.mem_singleton.mp hq
    subst e_
    exact ⟨h', yfr_sm K_.2.2.2 hs K_.1 (ywa_s mndH_w List.mem_cons_self), ⟨fun a_ j_ => yfr_bp K_.2.2.2 (fun q_ hq => absurd hq List.not_mem_nil), G_⟩⟩
  · cases hq
-- mndJ: 4 steps, 1 ends, 0 returns
def mndJ_L : List (Nat × Nat × Nat) := []
def mndJ_O : yO := [(338, .int 4, .index 342)]
def mndJ_A : yA := (yZ mndJ_L, [], [], [], [])
def mndJ_C : List xB := []
def mndJ_ss : List yS := [(57, [(0, .index 338), (1, .arg 1), (2, .arg 2), (3, .arg 3)], [.arg 3, .index 342, .index 338], [(338, .int 4, .index 342)], [], [])]
def mndJ_rs : List yR := []
theorem mndJ_w : ywa mndJ_A mndJ_ss mndJ_rs = true := by decide +kernel
theorem mndJ_k : yis (yev mndJ_A 3000 60 195 [57] (51, [(0, .index 338), (1, .arg 1), (2, .arg 2), (3, .arg 3)], [], mndJ_O, mndJ_C, [])) mndJ_ss mndJ_rs = true := by decide +kernel
def mndJ_r (v1_ v2 v3 : Int32) (k_ : Nat) : Value := bif Nat.beq k_ 1 then .int v1_ else (bif Nat.beq k_ 2 then .int v2 else (bif Nat.beq k_ 3 then .int v3 else (.int 0)))
def mndJ_s (n_ : Nat) : Nat := 0
theorem mndJ {h_ : xH} {v1_ v2 v3 : Int32} (hs : sHp h_) : ∃ h', ysm h_ h' ∧ (((∀ a_ j_ : Nat, bpat h' a_ j_ = bpat h_ a_ j_) ∧ (bldD 60 195 51 [(0, .index 338), (1, .int v1_), (2, .int v2), (3, .int v3)] [] h_ 57 [(0, .index 338), (1, .int v1_), (2, .int v2), (3, .int v3)] [.int v3, .index 342, .index 338] h'))) := by
  have hA : yas mndJ_A (mndJ_r v1_ v2 v3) (yg mndJ_s) := ⟨fun q_ hq => absurd hq List.not_mem_nil, fun q_ hq => absurd hq List.not_mem_nil, fun q_ hq => absurd hq List.not_mem_nil, fun n_ hn => yg_lo hn, fun q_ hq => absurd hq List.not_mem_nil⟩
  have Hs : ysh mndJ_A.1 (yg mndJ_s) h_ := ysh_of2 hs (fun q_ hq => absurd hq List.not_mem_nil)
  have Ho : ymem (mndJ_r v1_ v2 v3) (yg mndJ_s) mndJ_O h_ := List.forall_mem_cons.mpr ⟨bpat_some (fxr_at hs.2 (show fxk fxl 338 4 = some 342 by decide +kernel)), fun q_ hq => absurd hq List.not_mem_nil⟩
  have HC : ∀ q_ ∈ mndJ_C, xhold (mndJ_r v1_ v2 v3) q_ := fun q_ hq => absurd hq List.not_mem_nil
  rcases yrun (yis_ok mndJ_k) hA Hs Ho HC with ⟨q_, hq, h', K_, G_⟩ | ⟨q_, hq, h', K_, G_⟩
  · have e_ := List.mem_singleton.mp hq
    subst e_
    exact ⟨h', yfr_sm K_.2.2.2 hs K_.1 (ywa_s mndJ_w List.mem_cons_self), ⟨fun a_ j_ => yfr_bp K_.2.2.2 (fun q_ hq => absurd hq List.not_mem_nil), G_⟩⟩
  · cases hq
-- mndR: 1 steps, 0 ends, 1 returns
def mndR_L : List (Nat × Nat × Nat) := []
def mndR_O : yO := []
def mndR_A : yA := (yZ mndR_L, [], [], [], [])
def mndR_C : List xB := []
def mndR_ss : List yS := []
def mndR_rs : List yR := [(some (.arg 5), [], [], [])]
theorem mndR_w : ywa mndR_A mndR_ss mndR_rs = true := by decide +kernel
theorem mndR_k : yis (yev mndR_A 3000 60 195 [] (60, [(0, .index 338), (1, .arg 1), (2, .arg 2), (3, .arg 3)], [.arg 5], mndR_O, mndR_C, [])) mndR_ss mndR_rs = true := by decide +kernel
def mndR_r (v1_ v2 v3 v5 : Int32) (k_ : Nat) : Value := bif Nat.beq k_ 1 then .int v1_ else (bif Nat.beq k_ 2 then .int v2 else (bif Nat.beq k_ 3 then .int v3 else (bif Nat.beq k_ 5 then .int v5 else (.int 0))))
def mndR_s (n_ : Nat) : Nat := 0
theorem mndR {h_ : xH} {v1_ v2 v3 v5 : Int32} (hs : sHp h_) : ∃ h', ysm h_ h' ∧ (((∀ a_ j_ : Nat, bpat h' a_ j_ = bpat h_ a_ j_) ∧ (∀ D_, 60 ≤ D_ → xrun D_ 195 60 [(0, .index 338), (1, .int v1_), (2, .int v2), (3, .int v3)] [.int v5] h_ (some (.int v5), h', [])))) := by
  have hA : yas mndR_A (mndR_r v1_ v2 v3 v5) (yg mndR_s) := ⟨fun q_ hq => absurd hq List.not_mem_nil, fun q_ hq => absurd hq List.not_mem_nil, fun q_ hq => absurd hq List.not_mem_nil, fun n_ hn => yg_lo hn, fun q_ hq => absurd hq List.not_mem_nil⟩
  have Hs : ysh mndR_A.1 (yg mndR_s) h_ := ysh_of2 hs (fun q_ hq => absurd hq List.not_mem_nil)
  have Ho : ymem (mndR_r v1_ v2 v3 v5) (yg mndR_s) mndR_O h_ := fun q_ hq => absurd hq List.not_mem_nil
  have HC : ∀ q_ ∈ mndR_C, xhold (mndR_r v1_ v2 v3 v5) q_ := fun q_ hq => absurd hq List.not_mem_nil
  rcases yrun (yis_ok mndR_k) hA Hs Ho HC with ⟨q_, hq, h', K_, G_⟩ | ⟨q_, hq, h', K_, G_⟩
  · cases hq
  · have e_ := List.mem_singleton.mp hq
    subst e_
    exact ⟨h', yfr_sm K_.2.2.2 hs K_.1 (ywa_r mndR_w List.mem_cons_self), ⟨fun a_ j_ => yfr_bp K_.2.2.2 (fun q_ hq => absurd hq List.not_mem_nil), G_⟩⟩
-- mcuE: 4 steps, 1 ends, 0 returns
def mcuE_L : List (Nat × Nat × Nat) := []
def mcuE_O : yO := []
def mcuE_A : yA := (yZ mcuE_L, [], [], [], [])
def mcuE_C : List xB := []
def mcuE_ss : List yS := [(4, [(3, .arg 1), (2, .int 1), (0, .index 338), (1, .arg 1)], [], [], [], [])]
def mcuE_rs : List yR := []
theorem mcuE_w : ywa mcuE_A mcuE_ss mcuE_rs = true := by decide +kernel
theorem mcuE_k : yis (yev mcuE_A 3000 60 157 [4] (0, [(0, .index 338), (1, .arg 1)], [], mcuE_O, mcuE_C, [])) mcuE_ss mcuE_rs = true := by decide +kernel
def mcuE_r (v1_ : Int32) (k_ : Nat) : Value := bif Nat.beq k_ 1 then .int v1_ else (.int 0)
def mcuE_s (n_ : Nat) : Nat := 0
theorem mcuE {h_ : xH} {v1_ : Int32} (hs : sHp h_) : ∃ h', ysm h_ h' ∧ (((∀ a_ j_ : Nat, bpat h' a_ j_ = bpat h_ a_ j_) ∧ (bldD 60 157 0 [(0, .index 338), (1, .int v1_)] [] h_ 4 [(3, .int v1_), (2, .int (1 : Int32)), (0, .index 338), (1, .int v1_)] [] h'))) := by
  have hA : yas mcuE_A (mcuE_r v1_) (yg mcuE_s) := ⟨fun q_ hq => absurd hq List.not_mem_nil, fun q_ hq => absurd hq List.not_mem_nil, fun q_ hq => absurd hq List.not_mem_nil, fun n_ hn => yg_lo hn, fun q_ hq => absurd hq List.not_mem_nil⟩
  have Hs : ysh mcuE_A.1 (yg mcuE_s) h_ := ysh_of2 hs (fun q_ hq => absurd hq List.not_mem_nil)
  have Ho : ymem (mcuE_r v1_) (yg mcuE_s) mcuE_O h_ := fun q_ hq => absurd hq List.not_mem_nil
  have HC : ∀ q_ ∈ mcuE_C, xhold (mcuE_r v1_) q_ := fun q_ hq => absurd hq List.not_mem_nil
  rcases yrun (yis_ok mcuE_k) hA Hs Ho HC with ⟨q_, hq, h', K_, G_⟩ | ⟨q_, hq, h', K_, G_⟩
  · have e_ := List.mem_singleton.mp hq
    subst e_
    exact ⟨h', yfr_sm K_.2.2.2 hs K_.1 (ywa_s mcuE_w List.mem_cons_self), ⟨fun a_ j_ => yfr_bp K_.2.2.2 (fun q_ hq => absurd hq List.not_mem_nil), G_⟩⟩
  · cases hq
-- mcuX0A: 4 steps, 0 ends, 1 returns
def mcuX0A_L : List (Nat × Nat × Nat) := []
def mcuX0A_O : yO := []
def mcuX0A_A : yA := (yZ mcuX0A_L, [], [], [], [])
def mcuX0A_C : List xB := [(.le, .arg 3, .int 0, true)]
def mcuX0A_ss : List yS := []
def mcuX0A_rs : List yR := [(some (.int 0), [], [(.le, .arg 3, .int 0, true)], [])]
theorem mcuX0A_w : ywa mcuX0A_A mcuX0A_ss mcuX0A_rs = true := by decide +kernel
theorem mcuX0A_k : yis (yev mcuX0A_A 3000 60 157 [] (4, [(3, .arg 3), (2, .int 0), (0, .index 338), (1, .arg 1)], [], mcuX0A_O, mcuX0A_C, [])) mcuX0A_ss mcuX0A_rs = true := by decide +kernel
def mcuX0A_r (v1_ v3 : Int32) (k_ : Nat) : Value := bif Nat.beq k_ 1 then .int v1_ else (bif Nat.beq k_ 3 then .int v3 else (.int 0))
def mcuX0A_s (n_ : Nat) : Nat := 0
theorem mcuX0A {h_ : xH} {v1_ v3 : Int32} (hs : sHp h_) (c0_ : v3.toInt ≤ (0 : Int32).toInt) : ∃ h', ysm h_ h' ∧ (((∀ a_ j_ : Nat, bpat h' a_ j_ = bpat h_ a_ j_) ∧ (∀ D_, 60 ≤ D_ → xrun D_ 157 4 [(3, .int v3), (2, .int (0 : Int32)), (0, .index 338), (1, .int v1_)] [] h_ (some (.int (0 : Int32)), h', [])))) := by
  have hA : yas mcuX0A_A (mcuX0A_r v1_ v3) (yg mcuX0A_s) := ⟨fun q_ hq => absurd hq List.not_mem_nil, fun q_ hq => absurd hq List.not_mem_nil, fun q_ hq => absurd hq List.not_mem_nil, fun n_ hn => yg_lo hn, fun q_ hq => absurd hq List.not_mem_nil⟩
  have Hs : ysh mcuX0A_A.1 (yg mcuX0A_s) h_ := ysh_of2 hs (fun q_ hq => absurd hq List.not_mem_nil)
  have Ho : ymem (mcuX0A_r v1_ v3) (yg mcuX0A_s) mcuX0A_O h_ := fun q_ hq => absurd hq List.not_mem_nil
  have HC : ∀ q_ ∈ mcuX0A_C, xhold (mcuX0A_r v1_ v3) q_ := List.forall_mem_cons.mpr ⟨xh_leT c0_, fun q_ hq => absurd hq List.not_mem_nil⟩
  rcases yrun (yis_ok mcuX0A_k) hA Hs Ho HC with ⟨q_, hq, h', K_, G_⟩ | ⟨q_, hq, h', K_, G_⟩
  · cases hq
  · have e_ := List.mem_singleton.mp hq
    subst e_
    exact ⟨h', yfr_sm K_.2.2.2 hs K_.1 (ywa_r mcuX0A_w List.mem_cons_self), ⟨fun a_ j_ => yfr_bp K_.2.2.2 (fun q_ hq => absurd hq List.not_mem_nil), G_⟩⟩
-- mcuX1A: 4 steps, 0 ends, 1 returns
def mcuX1A_L : List (Nat × Nat × Nat) := []
def mcuX1A_O : yO := []
def mcuX1A_A : yA := (yZ mcuX1A_L, [], [], [], [])
def mcuX1A_C : List xB := [(.le, .arg 3, .int 0, true)]
def mcuX1A_ss : List yS := []
def mcuX1A_rs : List yR := [(some (.int 1), [], [(.le, .arg 3, .int 0, true)], [])]
theorem mcuX1A_w : ywa mcuX1A_A mcuX1A_ss mcuX1A_rs = true := by decide +kernel
theorem mcuX1A_k : yis (yev mcuX1A_A 3000 60 157 [] (4, [(3, .arg 3), (2, .int 1), (0, .index 338), (1, .arg 1)], [], mcuX1A_O, mcuX1A_C, [])) mcuX1A_ss mcuX1A_rs = true := by decide +kernel
def mcuX1A_r (v1_ v3 : Int32) (k_ : Nat) : Value := bif Nat.beq k_ 1 then .int v1_ else (bif Nat.beq k_ 3 then .int v3 else (.int 0))
def mcuX1A_s (n_ : Nat) : Nat := 0
theorem mcuX1A {h_ : xH} {v1_ v3 : Int32} (hs : sHp h_) (c0_ : v3.toInt ≤ (0 : Int32).toInt) : ∃ h', ysm h_ h' ∧ (((∀ a_ j_ : Nat, bpat h' a_ j_ = bpat h_ a_ j_) ∧ (∀ D_, 60 ≤ D_ → xrun D_ 157 4 [(3, .int v3), (2, .int (1 : Int32)), (0, .index 338), (1, .int v1_)] [] h_ (some (.int (1 : Int32)), h', [])))) := by
  have hA : yas mcuX1A_A (mcuX1A_r v1_ v3) (yg mcuX1A_s) := ⟨fun q_ hq => absurd hq List.not_mem_nil, fun q_ hq => absurd hq List.not_mem_nil, fun q_ hq => absurd hq List.not_mem_nil, fun n_ hn => yg_lo hn, fun q_ hq => absurd hq List.not_mem_nil⟩
  have Hs : ysh mcuX1A_A.1 (yg mcuX1A_s) h_ := ysh_of2 hs (fun q_ hq => absurd hq List.not_mem_nil)
  have Ho : ymem (mcuX1A_r v1_ v3) (yg mcuX1A_s) mcuX1A_O h_ := fun q_ hq => absurd hq List.not_mem_nil
  have HC : ∀ q_ ∈ mcuX1A_C, xhold (mcuX1A_r v1_ v3) q_ := List.forall_mem_cons.mpr ⟨xh_leT c0_, fun q_ hq => absurd hq List.not_mem_nil⟩
  rcases yrun (yis_ok mcuX1A_k) hA Hs Ho HC with ⟨q_, hq, h', K_, G_⟩ | ⟨q_, hq, h', K_, G_⟩
  · cases hq
  · have e_ := List.mem_singleton.mp hq
    subst e_
    exact ⟨h', yfr_sm K_.2.2.2 hs K_.1 (ywa_r mcuX1A_w List.mem_cons_self), ⟨fun a_ j_ => yfr_bp K_.2.2.2 (fun q_ hq => absurd hq List.not_mem_nil), G_⟩⟩
-- mcuZA: 31 steps, 1 ends, 0 returns
def mcuZA_L : List (Nat × Nat × Nat) := []
def mcuZA_O : yO := [(338, .int 0, .index 339), (339, .add (.add (.int 10) (.mul (.int 3) (.sub (.rem (.arg 3) (.int 10)) (.int 1)))) (.int 0), .arg 302)]
def mcuZA_A : yA := (yZ mcuZA_L, [(.add (.add (.int 10) (.mul (.int 3) (.sub (.rem (.arg 3) (.int 10)) (.int 1)))) (.int 0), 768)], [], [], [])
def mcuZA_C : List xB := [(.le, .arg 3, .int 0, false)]
def mcuZA_ss : List yS := [(4, [(3, .div (.arg 3) (.int 10)), (2, .int 0), (4, .arg 302), (0, .index 338), (1, .arg 1)], [], [(338, .int 0, .index 339), (339, .add (.add (.int 10) (.mul (.int 3) (.sub (.rem (.arg 3) (.int 10)) (.int 1)))) (.int 0), .arg 302)], [(.le, .arg 3, .int 0, false)], [])]
def mcuZA_rs : List yR := []
theorem mcuZA_w : ywa mcuZA_A mcuZA_ss mcuZA_rs = true := by decide +kernel
theorem mcuZA_k : yis (yev mcuZA_A 3000 60 157 [4] (4, [(3, .arg 3), (2, .int 0), (0, .index 338), (1, .arg 1)], [], mcuZA_O, mcuZA_C, [])) mcuZA_ss mcuZA_rs = true := by decide +kernel
def mcuZA_r (v1_ v3 v302 : Int32) (k_ : Nat) : Value := bif Nat.beq k_ 1 then .int v1_ else (bif Nat.beq k_ 3 then .int v3 else (bif Nat.beq k_ 302 then .int v302 else (.int 0)))
def mcuZA_s (n_ : Nat) : Nat := 0
theorem mcuZA {h_ : xH} {v1_ v3 v302 : Int32} (hs : sHp h_) (o0_ : bpat h_ 339 ((((10 : Int32) + ((3 : Int32) * ((v3 - v3 / (10 : Int32) * (10 : Int32)) - (1 : Int32)))) + (0 : Int32))).toInt.toNat = some (.int v302)) (b0 : 0 ≤ ((((10 : Int32) + ((3 : Int32) * ((v3 - v3 / (10 : Int32) * (10 : Int32)) - (1 : Int32)))) + (0 : Int32))).toInt ∧ ((((10 : Int32) + ((3 : Int32) * ((v3 - v3 / (10 : Int32) * (10 : Int32)) - (1 : Int32)))) + (0 : Int32))).toInt < 768) (c0_ : (0 : Int32).toInt < v3.toInt) : ∃ h', ysm h_ h' ∧ (((∀ a_ j_ : Nat, bpat h' a_ j_ = bpat h_ a_ j_) ∧ (bldD 60 157 4 [(3, .int v3), (2, .int (0 : Int32)), (0, .index 338), (1, .int v1_)] [] h_ 4 [(3, .int (v3 / (10 : Int32))), (2, .int (0 : Int32)), (4, .int v302), (0, .index 338), (1, .int v1_)] [] h'))) := by
  have hA : yas mcuZA_A (mcuZA_r v1_ v3 v302) (yg mcuZA_s) := ⟨List.forall_mem_cons.mpr ⟨b0, fun q_ hq => absurd hq List.not_mem_nil⟩, fun q_ hq => absurd hq List.not_mem_nil, fun q_ hq => absurd hq List.not_mem_nil, fun n_ hn => yg_lo hn, fun q_ hq => absurd hq List.not_mem_nil⟩
  have Hs : ysh mcuZA_A.1 (yg mcuZA_s) h_ := ysh_of2 hs (fun q_ hq => absurd hq List.not_mem_nil)
  have Ho : ymem (mcuZA_r v1_ v3 v302) (yg mcuZA_s) mcuZA_O h_ := List.forall_mem_cons.mpr ⟨bpat_some (fxr_at hs.2 (show fxk fxl 338 0 = some 339 by decide +kernel)), List.forall_mem_cons.mpr ⟨bpat_some o0_, fun q_ hq => absurd hq List.not_mem_nil⟩⟩
  have HC : ∀ q_ ∈ mcuZA_C, xhold (mcuZA_r v1_ v3 v302) q_ := List.forall_mem_cons.mpr ⟨xh_leF c0_, fun q_ hq => absurd hq List.not_mem_nil⟩
  rcases yrun (yis_ok mcuZA_k) hA Hs Ho HC with ⟨q_, hq, h', K_, G_⟩ | ⟨q_, hq, h', K_, G_⟩
  · have e_ := List.mem_singleton.mp hq
    subst e_
    exact ⟨h', yfr_sm K_.2.2.2 hs K_.1 (ywa_s mcuZA_w List.mem_cons_self), ⟨fun a_ j_ => yfr_bp K_.2.2.2 (fun q_ hq => absurd hq List.not_mem_nil), G_⟩⟩
  · cases hq
-- mcuTA: 38 steps, 1 ends, 0 returns
def mcuTA_L : List (Nat × Nat × Nat) := []
def mcuTA_O : yO := [(338, .int 0, .index 339), (339, .add (.add (.int 10) (.mul (.int 3) (.sub (.rem (.arg 3) (.int 10)) (.int 1)))) (.int 0), .arg 302)]
def mcuTA_A : yA := (yZ mcuTA_L, [(.add (.add (.int 10) (.mul (.int 3) (.sub (.rem (.arg 3) (.int 10)) (.int 1)))) (.int 0), 768)], [], [], [])
def mcuTA_C : List xB := [(.eq, .arg 302, .int 6, false), (.eq, .arg 302, .int 5, false), (.le, .arg 3, .int 0, false)]
def mcuTA_ss : List yS := [(4, [(3, .div (.arg 3) (.int 10)), (2, .int 1), (4, .arg 302), (0, .index 338), (1, .arg 1)], [], [(338, .int 0, .index 339), (339, .add (.add (.int 10) (.mul (.int 3) (.sub (.rem (.arg 3) (.int 10)) (.int 1)))) (.int 0), .arg 302)], [(.eq, .arg 302, .int 6, false), (.eq, .arg 302, .int 5, false), (.le, .arg 3, .int 0, false)], [])]
def mcuTA_rs : List yR := []
theorem mcuTA_w : ywa mcuTA_A mcuTA_ss mcuTA_rs = true := by decide +kernel
theorem mcuTA_k : yis (yev mcuTA_A 3000 60 157 [4] (4, [(3, .arg 3), (2, .int 1), (0, .index 338), (1, .arg 1)], [], mcuTA_O, mcuTA_C, [])) mcuTA_ss mcuTA_rs = true := by decide +kernel
def mcuTA_r (v1_ v3 v302 : Int32) (k_ : Nat) : Value := bif Nat.beq k_ 1 then .int v1_ else (bif Nat.beq k_ 3 then .int v3 else (bif Nat.beq k_ 302 then .int v302 else (.int 0)))
def mcuTA_s (n_ : Nat) : Nat := 0
theorem mcuTA {h_ : xH} {v1_ v3 v302 : Int32} (hs : sHp h_) (o0_ : bpat h_ 339 ((((10 : Int32) + ((3 : Int32) * ((v3 - v3 / (10 : Int32) * (10 : Int32)) - (1 : Int32)))) + (0 : Int32))).toInt.toNat = some (.int v302)) (b0 : 0 ≤ ((((10 : Int32) + ((3 : Int32) * ((v3 - v3 / (10 : Int32) * (10 : Int32)) - (1 : Int32)))) + (0 : Int32))).toInt ∧ ((((10 : Int32) + ((3 : Int32) * ((v3 - v3 / (10 : Int32) * (10 : Int32)) - (1 : Int32)))) + (0 : Int32))).toInt < 768) (c0_ : ¬ v302 = (6 : Int32)) (c1_ : ¬ v302 = (5 : Int32)) (c2_ : (0 : Int32).toInt < v3.toInt) : ∃ h', ysm h_ h' ∧ (((∀ a_ j_ : Nat, bpat h' a_ j_ = bpat h_ a_ j_) ∧ (bldD 60 157 4 [(3, .int v3), (2, .int (1 : Int32)), (0, .index 338), (1, .int v1_)] [] h_ 4 [(3, .int (v3 / (10 : Int32))), (2, .int (1 : Int32)), (4, .int v302), (0, .index 338), (1, .int v1_)] [] h'))) := by
  have hA : yas mcuTA_A (mcuTA_r v1_ v3 v302) (yg mcuTA_s) := ⟨List.forall_mem_cons.mpr ⟨b0, fun q_ hq => absurd hq List.not_mem_nil⟩, fun q_ hq => absurd hq List.not_mem_nil, fun q_ hq => absurd hq List.not_mem_nil, fun n_ hn => yg_lo hn, fun q_ hq => absurd hq List.not_mem_nil⟩
  have Hs : ysh mcuTA_A.1 (yg mcuTA_s) h_ := ysh_of2 hs (fun q_ hq => absurd hq List.not_mem_nil)
  have Ho : ymem (mcuTA_r v1_ v3 v302) (yg mcuTA_s) mcuTA_O h_ := List.forall_mem_cons.mpr ⟨bpat_some (fxr_at hs.2 (show fxk fxl 338 0 = some 339 by decide +kernel)), List.forall_mem_cons.mpr ⟨bpat_some o0_, fun q_ hq => absurd hq List.not_mem_nil⟩⟩
  have HC : ∀ q_ ∈ mcuTA_C, xhold (mcuTA_r v1_ v3 v302) q_ := List.forall_mem_cons.mpr ⟨xh_eqF2 c0_, List.forall_mem_cons.mpr ⟨xh_eqF2 c1_, List.forall_mem_cons.mpr ⟨xh_leF c2_, fun q_ hq => absurd hq List.not_mem_nil⟩⟩⟩
  rcases yrun (yis_ok mcuTA_k) hA Hs Ho HC with ⟨q_, hq, h', K_, G_⟩ | ⟨q_, hq, h', K_, G_⟩
  · have e_ := List.mem_singleton.mp hq
    subst e_
    exact ⟨h', yfr_sm K_.2.2.2 hs K_.1 (ywa_s mcuTA_w List.mem_cons_self), ⟨fun a_ j_ => yfr_bp K_.2.2.2 (fun q_ hq => absurd hq List.not_mem_nil), G_⟩⟩
  · cases hq
-- mcuS5A: 34 steps, 1 ends, 0 returns
def mcuS5A_L : List (Nat × Nat × Nat) := []
def mcuS5A_O : yO := [(338, .int 0, .index 339), (339, .add (.add (.int 10) (.mul (.int 3) (.sub (.rem (.arg 3) (.int 10)) (.int 1)))) (.int 0), .arg 302)]
def mcuS5A_A : yA := (yZ mcuS5A_L, [(.add (.add (.int 10) (.mul (.int 3) (.sub (.rem (.arg 3) (.int 10)) (.int 1)))) (.int 0), 768)], [], [], [])
def mcuS5A_C : List xB := [(.eq, .arg 302, .int 5, true), (.le, .arg 3, .int 0, false)]
def mcuS5A_ss : List yS := [(4, [(3, .div (.arg 3) (.int 10)), (2, .int 0), (4, .arg 302), (0, .index 338), (1, .arg 1)], [], [(338, .int 0, .index 339), (339, .add (.add (.int 10) (.mul (.int 3) (.sub (.rem (.arg 3) (.int 10)) (.int 1)))) (.int 0), .arg 302)], [(.eq, .arg 302, .int 5, true), (.le, .arg 3, .int 0, false)], [])]
def mcuS5A_rs : List yR := []
theorem mcuS5A_w : ywa mcuS5A_A mcuS5A_ss mcuS5A_rs = true := by decide +kernel
theorem mcuS5A_k : yis (yev mcuS5A_A 3000 60 157 [4] (4, [(3, .arg 3), (2, .int 1), (0, .index 338), (1, .arg 1)], [], mcuS5A_O, mcuS5A_C, [])) mcuS5A_ss mcuS5A_rs = true := by decide +kernel
def mcuS5A_r (v1_ v3 v302 : Int32) (k_ : Nat) : Value := bif Nat.beq k_ 1 then .int v1_ else (bif Nat.beq k_ 3 then .int v3 else (bif Nat.beq k_ 302 then .int v302 else (.int 0)))
def mcuS5A_s (n_ : Nat) : Nat := 0
theorem mcuS5A {h_ : xH} {v1_ v3 v302 : Int32} (hs : sHp h_) (o0_ : bpat h_ 339 ((((10 : Int32) + ((3 : Int32) * ((v3 - v3 / (10 : Int32) * (10 : Int32)) - (1 : Int32)))) + (0 : Int32))).toInt.toNat = some (.int v302)) (b0 : 0 ≤ ((((10 : Int32) + ((3 : Int32) * ((v3 - v3 / (10 : Int32) * (10 : Int32)) - (1 : Int32)))) + (0 : Int32))).toInt ∧ ((((10 : Int32) + ((3 : Int32) * ((v3 - v3 / (10 : Int32) * (10 : Int32)) - (1 : Int32)))) + (0 : Int32))).toInt < 768) (c0_ : v302 = (5 : Int32)) (c1_ : (0 : Int32).toInt < v3.toInt) : ∃ h', ysm h_ h' ∧ (((∀ a_ j_ : Nat, bpat h' a_ j_ = bpat h_ a_ j_) ∧ (bldD 60 157 4 [(3, .int v3), (2, .int (1 : Int32)), (0, .index 338), (1, .int v1_)] [] h_ 4 [(3, .int (v3 / (10 : Int32))), (2, .int (0 : Int32)), (4, .int v302), (0, .index 338), (1, .int v1_)] [] h'))) := by
  have hA : yas mcuS5A_A (mcuS5A_r v1_ v3 v302) (yg mcuS5A_s) := ⟨List.forall_mem_cons.mpr ⟨b0, fun q_ hq => absurd hq List.not_mem_nil⟩, fun q_ hq => absurd hq List.not_mem_nil, fun q_ hq => absurd hq List.not_mem_nil, fun n_ hn => yg_lo hn, fun q_ hq => absurd hq List.not_mem_nil⟩
  have Hs : ysh mcuS5A_A.1 (yg mcuS5A_s) h_ := ysh_of2 hs (fun q_ hq => absurd hq List.not_mem_nil)
  have Ho : ymem (mcuS5A_r v1_ v3 v302) (yg mcuS5A_s) mcuS5A_O h_ := List.forall_mem_cons.mpr ⟨bpat_some (fxr_at hs.2 (show fxk fxl 338 0 = some 339 by decide +kernel)), List.forall_mem_cons.mpr ⟨bpat_some o0_, fun q_ hq => absurd hq List.not_mem_nil⟩⟩
  have HC : ∀ q_ ∈ mcuS5A_C, xhold (mcuS5A_r v1_ v3 v302) q_ := List.forall_mem_cons.mpr ⟨xh_eqT2 c0_, List.forall_mem_cons.mpr ⟨xh_leF c1_, fun q_ hq => absurd hq List.not_mem_nil⟩⟩
  rcases yrun (yis_ok mcuS5A_k) hA Hs Ho HC with ⟨q_, hq, h', K_, G_⟩ | ⟨q_, hq, h', K_, G_⟩
  · have e_ := List.mem_singleton.mp hq
    subst e_
    exact ⟨h', yfr_sm K_.2.2.2 hs K_.1 (ywa_s mcuS5A_w List.mem_cons_self), ⟨fun a_ j_ => yfr_bp K_.2.2.2 (fun q_ hq => absurd hq List.not_mem_nil), G_⟩⟩
  · cases hq
-- mcuS6A: 37 steps, 1 ends, 0 returns
def mcuS6A_L : List (Nat × Nat × Nat) := []
def mcuS6A_O : yO := [(338, .int 0, .index 339), (339, .add (.add (.int 10) (.mul (.int 3) (.sub (.rem (.arg 3) (.int 10)) (.int 1)))) (.int 0), .arg 302)]
def mcuS6A_A : yA := (yZ mcuS6A_L, [(.add (.add (.int 10) (.mul (.int 3) (.sub (.rem (.arg 3) (.int 10)) (.int 1)))) (.int 0), 768)], [], [], [])
def mcuS6A_C : List xB := [(.eq, .arg 302, .int 6, true), (.le, .arg 3, .int 0, false), (.eq, .arg 302, .int 5, false)]
def mcuS6A_ss : List yS := [(4, [(3, .div (.arg 3) (.int 10)), (2, .int 0), (4, .arg 302), (0, .index 338), (1, .arg 1)], [], [(338, .int 0, .index 339), (339, .add (.add (.int 10) (.mul (.int 3) (.sub (.rem (.arg 3) (.int 10)) (.int 1)))) (.int 0), .arg 302)], [(.eq, .arg 302, .int 6, true), (.le, .arg 3, .int 0, false), (.eq, .arg 302, .int 5, false)], [])]
def mcuS6A_rs : List yR := []
theorem mcuS6A_w : ywa mcuS6A_A mcuS6A_ss mcuS6A_rs = true := by decide +kernel
theorem mcuS6A_k : yis (yev mcuS6A_A 3000 60 157 [4] (4, [(3, .arg 3), (2, .int 1), (0, .index 338), (1, .arg 1)], [], mcuS6A_O, mcuS6A_C, [])) mcuS6A_ss mcuS6A_rs = true := by decide +kernel
def mcuS6A_r (v1_ v3 v302 : Int32) (k_ : Nat) : Value := bif Nat.beq k_ 1 then .int v1_ else (bif Nat.beq k_ 3 then .int v3 else (bif Nat.beq k_ 302 then .int v302 else (.int 0)))
def mcuS6A_s (n_ : Nat) : Nat := 0
theorem mcuS6A {h_ : xH} {v1_ v3 v302 : Int32} (hs : sHp h_) (o0_ : bpat h_ 339 ((((10 : Int32) + ((3 : Int32) * ((v3 - v3 / (10 : Int32) * (10 : Int32)) - (1 : Int32)))) + (0 : Int32))).toInt.toNat = some (.int v302)) (b0 : 0 ≤ ((((10 : Int32) + ((3 : Int32) * ((v3 - v3 / (10 : Int32) * (10 : Int32)) - (1 : Int32)))) + (0 : Int32))).toInt ∧ ((((10 : Int32) + ((3 : Int32) * ((v3 - v3 / (10 : Int32) * (10 : Int32)) - (1 : Int32)))) + (0 : Int32))).toInt < 768) (c0_ : v302 = (6 : Int32)) (c1_ : (0 : Int32).toInt < v3.toInt) (c2_ : ¬ v302 = (5 : Int32)) : ∃ h', ysm h_ h' ∧ (((∀ a_ j_ : Nat, bpat h' a_ j_ = bpat h_ a_ j_) ∧ (bldD 60 157 4 [(3, .int v3), (2, .int (1 : Int32)), (0, .index 338), (1, .int v1_)] [] h_ 4 [(3, .int (v3 / (10 : Int32))), (2, .int (0 : Int32)), (4, .int v302), (0, .index 338), (1, .int v1_)] [] h'))) := by
  have hA : yas mcuS6A_A (mcuS6A_r v1_ v3 v302) (yg mcuS6A_s) := ⟨List.forall_mem_cons.mpr ⟨b0, fun q_ hq => absurd hq List.not_mem_nil⟩, fun q_ hq => absurd hq List.not_mem_nil, fun q_ hq => absurd hq List.not_mem_nil, fun n_ hn => yg_lo hn, fun q_ hq => absurd hq List.not_mem_nil⟩
  have Hs : ysh mcuS6A_A.1 (yg mcuS6A_s) h_ := ysh_of2 hs (fun q_ hq => absurd hq List.not_mem_nil)
  have Ho : ymem (mcuS6A_r v1_ v3 v302) (yg mcuS6A_s) mcuS6A_O h_ := List.forall_mem_cons.mpr ⟨bpat_some (fxr_at hs.2 (show fxk fxl 338 0 = some 339 by decide +kernel)), List.forall_mem_cons.mpr ⟨bpat_some o0_, fun q_ hq => absurd hq List.not_mem_nil⟩⟩
  have HC : ∀ q_ ∈ mcuS6A_C, xhold (mcuS6A_r v1_ v3 v302) q_ := List.forall_mem_cons.mpr ⟨xh_eqT2 c0_, List.forall_mem_cons.mpr ⟨xh_leF c1_, List.forall_mem_cons.mpr ⟨xh_eqF2 c2_, fun q_ hq => absurd hq List.not_mem_nil⟩⟩⟩
  rcases yrun (yis_ok mcuS6A_k) hA Hs Ho HC with ⟨q_, hq, h', K_, G_⟩ | ⟨q_, hq, h', K_, G_⟩
  · have e_ := List.mem_singleton.mp hq
    subst e_
    exact ⟨h', yfr_sm K_.2.2.2 hs K_.1 (ywa_s mcuS6A_w List.mem_cons_self), ⟨fun a_ j_ => yfr_bp K_.2.2.2 (fun q_ hq => absurd hq List.not_mem_nil), G_⟩⟩
  · cases hq
-- mcuX0B: 4 steps, 0 ends, 1 returns
def mcuX0B_L : List (Nat × Nat × Nat) := []
def mcuX0B_O : yO := []
def mcuX0B_A : yA := (yZ mcuX0B_L, [], [], [], [])
def mcuX0B_C : List xB := [(.le, .arg 3, .int 0, true)]
def mcuX0B_ss : List yS := []
def mcuX0B_rs : List yR := [(some (.int 0), [], [(.le, .arg 3, .int 0, true)], [])]
theorem mcuX0B_w : ywa mcuX0B_A mcuX0B_ss mcuX0B_rs = true := by decide +kernel
theorem mcuX0B_k : yis (yev mcuX0B_A 3000 60 157 [] (4, [(3, .arg 3), (2, .int 0), (4, .arg 4), (0, .index 338), (1, .arg 1)], [], mcuX0B_O, mcuX0B_C, [])) mcuX0B_ss mcuX0B_rs = true := by decide +kernel
def mcuX0B_r (v1_ v3 v4_ : Int32) (k_ : Nat) : Value := bif Nat.beq k_ 1 then .int v1_ else (bif Nat.beq k_ 3 then .int v3 else (bif Nat.beq k_ 4 then .int v4_ else (.int 0)))
def mcuX0B_s (n_ : Nat) : Nat := 0
theorem mcuX0B {h_ : xH} {v1_ v3 v4_ : Int32} (hs : sHp h_) (c0_ : v3.toInt ≤ (0 : Int32).toInt) : ∃ h', ysm h_ h' ∧ (((∀ a_ j_ : Nat, bpat h' a_ j_ = bpat h_ a_ j_) ∧ (∀ D_, 60 ≤ D_ → xrun D_ 157 4 [(3, .int v3), (2, .int (0 : Int32)), (4, .int v4_), (0, .index 338), (1, .int v1_)] [] h_ (some (.int (0 : Int32)), h', [])))) := by
  have hA : yas mcuX0B_A (mcuX0B_r v1_ v3 v4_) (yg mcuX0B_s) := ⟨fun q_ hq => absurd hq List.not_mem_nil, fun q_ hq => absurd hq List.not_mem_nil, fun q_ hq => absurd hq List.not_mem_nil, fun n_ hn => yg_lo hn, fun q_ hq => absurd hq List.not_mem_nil⟩
  have Hs : ysh mcuX0B_A.1 (yg mcuX0B_s) h_ := ysh_of2 hs (fun q_ hq => absurd hq List.not_mem_nil)
  have Ho : ymem (mcuX0B_r v1_ v3 v4_) (yg mcuX0B_s) mcuX0B_O h_ := fun q_ hq => absurd hq List.not_mem_nil
  have HC : ∀ q_ ∈ mcuX0B_C, xhold (mcuX0B_r v1_ v3 v4_) q_ := List.forall_mem_cons.mpr ⟨xh_leT c0_, fun q_ hq => absurd hq List.not_mem_nil⟩
  rcases yrun (yis_ok mcuX0B_k) hA Hs Ho HC with ⟨q_, hq, h', K_, G_⟩ | ⟨q_, hq, h', K_, G_⟩
  · cases hq
  · have e_ := List.mem_singleton.mp hq
    subst e_
    exact ⟨h', yfr_sm K_.2.2.2 hs K_.1 (ywa_r mcuX0B_w List.mem_cons_self), ⟨fun a_ j_ => yfr_bp K_.2.2.2 (fun q_ hq => absurd hq List.not_mem_nil), G_⟩⟩
-- mcuX1B: 4 steps, 0 ends, 1 returns
def mcuX1B_L : List (Nat × Nat × Nat) := []
def mcuX1B_O : yO := []
def mcuX1B_A : yA := (yZ mcuX1B_L, [], [], [], [])
def mcuX1B_C : List xB := [(.le, .arg 3, .int 0, true)]
def mcuX1B_ss : List yS := []
def mcuX1B_rs : List yR := [(some (.int 1), [], [(.le, .arg 3, .int 0, true)], [])]
theorem mcuX1B_w : ywa mcuX1B_A mcuX1B_ss mcuX1B_rs = true := by decide +kernel
theorem mcuX1B_k : yis (yev mcuX1B_A 3000 60 157 [] (4, [(3, .arg 3), (2, .int 1), (4, .arg 4), (0, .index 338), (1, .arg 1)], [], mcuX1B_O, mcuX1B_C, [])) mcuX1B_ss mcuX1B_rs = true := by decide +kernel
def mcuX1B_r (v1_ v3 v4_ : Int32) (k_ : Nat) : Value := bif Nat.beq k_ 1 then .int v1_ else (bif Nat.beq k_ 3 then .int v3 else (bif Nat.beq k_ 4 then .int v4_ else (.int 0)))
def mcuX1B_s (n_ : Nat) : Nat := 0
theorem mcuX1B {h_ : xH} {v1_ v3 v4_ : Int32} (hs : sHp h_) (c0_ : v3.toInt ≤ (0 : Int32).toInt) : ∃ h', ysm h_ h' ∧ (((∀ a_ j_ : Nat, bpat h' a_ j_ = bpat h_ a_ j_) ∧ (∀ D_, 60 ≤ D_ → xrun D_ 157 4 [(3, .int v3), (2, .int (1 : Int32)), (4, .int v4_), (0, .index 338), (1, .int v1_)] [] h_ (some (.int (1 : Int32)), h', [])))) := by
  have hA : yas mcuX1B_A (mcuX1B_r v1_ v3 v4_) (yg mcuX1B_s) := ⟨fun q_ hq => absurd hq List.not_mem_nil, fun q_ hq => absurd hq List.not_mem_nil, fun q_ hq => absurd hq List.not_mem_nil, fun n_ hn => yg_lo hn, fun q_ hq => absurd hq List.not_mem_nil⟩
  have Hs : ysh mcuX1B_A.1 (yg mcuX1B_s) h_ := ysh_of2 hs (fun q_ hq => absurd hq List.not_mem_nil)
  have Ho : ymem (mcuX1B_r v1_ v3 v4_) (yg mcuX1B_s) mcuX1B_O h_ := fun q_ hq => absurd hq List.not_mem_nil
  have HC : ∀ q_ ∈ mcuX1B_C, xhold (mcuX1B_r v1_ v3 v4_) q_ := List.forall_mem_cons.mpr ⟨xh_leT c0_, fun q_ hq => absurd hq List.not_mem_nil⟩
  rcases yrun (yis_ok mcuX1B_k) hA Hs Ho HC with ⟨q_, hq, h', K_, G_⟩ | ⟨q_, hq, h', K_, G_⟩
  · cases hq
  · have e_ := List.mem_singleton.mp hq
    subst e_
    exact ⟨h', yfr_sm K_.2.2.2 hs K_.1 (ywa_r mcuX1B_w List.mem_cons_self), ⟨fun a_ j_ => yfr_bp K_.2.2.2 (fun q_ hq => absurd hq List.not_mem_nil), G_⟩⟩
-- mcuZB: 31 steps, 1 ends, 0 returns
def mcuZB_L : List (Nat × Nat × Nat) := []
def mcuZB_O : yO := [(338, .int 0, .index 339), (339, .add (.add (.int 10) (.mul (.int 3) (.sub (.rem (.arg 3) (.int 10)) (.int 1)))) (.int 0), .arg 302)]
def mcuZB_A : yA := (yZ mcuZB_L, [(.add (.add (.int 10) (.mul (.int 3) (.sub (.rem (.arg 3) (.int 10)) (.int 1)))) (.int 0), 768)], [], [], [])
def mcuZB_C : List xB := [(.le, .arg 3, .int 0, false)]
def mcuZB_ss : List yS := [(4, [(3, .div (.arg 3) (.int 10)), (2, .int 0), (4, .arg 302), (0, .index 338), (1, .arg 1)], [], [(338, .int 0, .index 339), (339, .add (.add (.int 10) (.mul (.int 3) (.sub (.rem (.arg 3) (.int 10)) (.int 1)))) (.int 0), .arg 302)], [(.le, .arg 3, .int 0, false)], [])]
def mcuZB_rs : List yR := []
theorem mcuZB_w : ywa mcuZB_A mcuZB_ss mcuZB_rs = true := by decide +kernel
theorem mcuZB_k : yis (yev mcuZB_A 3000 60 157 [4] (4, [(3, .arg 3), (2, .int 0), (4, .arg 4), (0, .index 338), (1, .arg 1)], [], mcuZB_O, mcuZB_C, [])) mcuZB_ss mcuZB_rs = true := by decide +kernel
def mcuZB_r (v1_ v3 v4_ v302 : Int32) (k_ : Nat) : Value := bif Nat.beq k_ 1 then .int v1_ else (bif Nat.beq k_ 3 then .int v3 else (bif Nat.beq k_ 4 then .int v4_ else (bif Nat.beq k_ 302 then .int v302 else (.int 0))))
def mcuZB_s (n_ : Nat) : Nat := 0
theorem mcuZB {h_ : xH} {v1_ v3 v4_ v302 : Int32} (hs : sHp h_) (o0_ : bpat h_ 339 ((((10 : Int32) + ((3 : Int32) * ((v3 - v3 / (10 : Int32) * (10 : Int32)) - (1 : Int32)))) + (0 : Int32))).toInt.toNat = some (.int v302)) (b0 : 0 ≤ ((((10 : Int32) + ((3 : Int32) * ((v3 - v3 / (10 : Int32) * (10 : Int32)) - (1 : Int32)))) + (0 : Int32))).toInt ∧ ((((10 : Int32) + ((3 : Int32) * ((v3 - v3 / (10 : Int32) * (10 : Int32)) - (1 : Int32)))) + (0 : Int32))).toInt < 768) (c0_ : (0 : Int32).toInt < v3.toInt) : ∃ h', ysm h_ h' ∧ (((∀ a_ j_ : Nat, bpat h' a_ j_ = bpat h_ a_ j_) ∧ (bldD 60 157 4 [(3, .int v3), (2, .int (0 : Int32)), (4, .int v4_), (0, .index 338), (1, .int v1_)] [] h_ 4 [(3, .int (v3 / (10 : Int32))), (2, .int (0 : Int32)), (4, .int v302), (0, .index 338), (1, .int v1_)] [] h'))) := by
  have hA : yas mcuZB_A (mcuZB_r v1_ v3 v4_ v302) (yg mcuZB_s) := ⟨List.forall_mem_cons.mpr ⟨b0, fun q_ hq => absurd hq List.not_mem_nil⟩, fun q_ hq => absurd hq List.not_mem_nil, fun q_ hq => absurd hq List.not_mem_nil, fun n_ hn => yg_lo hn, fun q_ hq => absurd hq List.not_mem_nil⟩
  have Hs : ysh mcuZB_A.1 (yg mcuZB_s) h_ := ysh_of2 hs (fun q_ hq => absurd hq List.not_mem_nil)
  have Ho : ymem (mcuZB_r v1_ v3 v4_ v302) (yg mcuZB_s) mcuZB_O h_ := List.forall_mem_cons.mpr ⟨bpat_some (fxr_at hs.2 (show fxk fxl 338 0 = some 339 by decide +kernel)), List.forall_mem_cons.mpr ⟨bpat_some o0_, fun q_ hq => absurd hq List.not_mem_nil⟩⟩
  have HC : ∀ q_ ∈ mcuZB_C, xhold (mcuZB_r v1_ v3 v4_ v302) q_ := List.forall_mem_cons.mpr ⟨xh_leF c0_, fun q_ hq => absurd hq List.not_mem_nil⟩
  rcases yrun (yis_ok mcuZB_k) hA Hs Ho HC with ⟨q_, hq, h', K_, G_⟩ | ⟨q_, hq, h', K_, G_⟩
  · have e_ := List.mem_singleton.mp hq
    subst e_
    exact ⟨h', yfr_sm K_.2.2.2 hs K_.1 (ywa_s mcuZB_w List.mem_cons_self), ⟨fun a_ j_ => yfr_bp K_.2.2.2 (fun q_ hq => absurd hq List.not_mem_nil), G_⟩⟩
  · cases hq
-- mcuTB: 38 steps, 1 ends, 0 returns
def mcuTB_L : List (Nat × Nat × Nat) := []
def mcuTB_O : yO := [(338, .int 0, .index 339), (339, .add (.add (.int 10) (.mul (.int 3) (.sub (.rem (.arg 3) (.int 10)) (.int 1)))) (.int 0), .arg 302)]
def mcuTB_A : yA := (yZ mcuTB_L, [(.add (.add (.int 10) (.mul (.int 3) (.sub (.rem (.arg 3) (.int 10)) (.int 1)))) (.int 0), 768)], [], [], [])
def mcuTB_C : List xB := [(.eq, .arg 302, .int 6, false), (.eq, .arg 302, .int 5, false), (.le, .arg 3, .int 0, false)]
def mcuTB_ss : List yS := [(4, [(3, .div (.arg 3) (.int 10)), (2, .int 1), (4, .arg 302), (0, .index 338), (1, .arg 1)], [], [(338, .int 0, .index 339), (339, .add (.add (.int 10) (.mul (.int 3) (.sub (.rem (.arg 3) (.int 10)) (.int 1)))) (.int 0), .arg 302)], [(.eq, .arg 302, .int 6, false), (.eq, .arg 302, .int 5, false), (.le, .arg 3, .int 0, false)], [])]
def mcuTB_rs : List yR := []
theorem mcuTB_w : ywa mcuTB_A mcuTB_ss mcuTB_rs = true := by decide +kernel
theorem mcuTB_k : yis (yev mcuTB_A 3000 60 157 [4] (4, [(3, .arg 3), (2, .int 1), (4, .arg 4), (0, .index 338), (1, .arg 1)], [], mcuTB_O, mcuTB_C, [])) mcuTB_ss mcuTB_rs = true := by decide +kernel
def mcuTB_r (v1_ v3 v4_ v302 : Int32) (k_ : Nat) : Value := bif Nat.beq k_ 1 then .int v1_ else (bif Nat.beq k_ 3 then .int v3 else (bif Nat.beq k_ 4 then .int v4_ else (bif Nat.beq k_ 302 then .int v302 else (.int 0))))
def mcuTB_s (n_ : Nat) : Nat := 0
theorem mcuTB {h_ : xH} {v1_ v3 v4_ v302 : Int32} (hs : sHp h_) (o0_ : bpat h_ 339 ((((10 : Int32) + ((3 : Int32) * ((v3 - v3 / (10 : Int32) * (10 : Int32)) - (1 : Int32)))) + (0 : Int32))).toInt.toNat = some (.int v302)) (b0 : 0 ≤ ((((10 : Int32) + ((3 : Int32) * ((v3 - v3 / (10 : Int32) * (10 : Int32)) - (1 : Int32)))) + (0 : Int32))).toInt ∧ ((((10 : Int32) + ((3 : Int32) * ((v3 - v3 / (10 : Int32) * (10 : Int32)) - (1 : Int32)))) + (0 : Int32))).toInt < 768) (c0_ : ¬ v302 = (6 : Int32)) (c1_ : ¬ v302 = (5 : Int32)) (c2_ : (0 : Int32).toInt < v3.toInt) : ∃ h', ysm h_ h' ∧ (((∀ a_ j_ : Nat, bpat h' a_ j_ = bpat h_ a_ j_) ∧ (bldD 60 157 4 [(3, .int v3), (2, .int (1 : Int32)), (4, .int v4_), (0, .index 338), (1, .int v1_)] [] h_ 4 [(3, .int (v3 / (10 : Int32))), (2, .int (1 : Int32)), (4, .int v302), (0, .index 338), (1, .int v1_)] [] h'))) := by
  have hA : yas mcuTB_A (mcuTB_r v1_ v3 v4_ v302) (yg mcuTB_s) := ⟨List.forall_mem_cons.mpr ⟨b0, fun q_ hq => absurd hq List.not_mem_nil⟩, fun q_ hq => absurd hq List.not_mem_nil, fun q_ hq => absurd hq List.not_mem_nil, fun n_ hn => yg_lo hn, fun q_ hq => absurd hq List.not_mem_nil⟩
  have Hs : ysh mcuTB_A.1 (yg mcuTB_s) h_ := ysh_of2 hs (fun q_ hq => absurd hq List.not_mem_nil)
  have Ho : ymem (mcuTB_r v1_ v3 v4_ v302) (yg mcuTB_s) mcuTB_O h_ := List.forall_mem_cons.mpr ⟨bpat_some (fxr_at hs.2 (show fxk fxl 338 0 = some 339 by decide +kernel)), List.forall_mem_cons.mpr ⟨bpat_some o0_, fun q_ hq => absurd hq List.not_mem_nil⟩⟩
  have HC : ∀ q_ ∈ mcuTB_C, xhold (mcuTB_r v1_ v3 v4_ v302) q_ := List.forall_mem_cons.mpr ⟨xh_eqF2 c0_, List.forall_mem_cons.mpr ⟨xh_eqF2 c1_, List.forall_mem_cons.mpr ⟨xh_leF c2_, fun q_ hq => absurd hq List.not_mem_nil⟩⟩⟩
  rcases yrun (yis_ok mcuTB_k) hA Hs Ho HC with ⟨q_, hq, h', K_, G_⟩ | ⟨q_, hq, h', K_, G_⟩
  · have e_ := List.mem_singleton.mp hq
    subst e_
    exact ⟨h', yfr_sm K_.2.2.2 hs K_.1 (ywa_s mcuTB_w List.mem_cons_self), ⟨fun a_ j_ => yfr_bp K_.2.2.2 (fun q_ hq => absurd hq List.not_mem_nil), G_⟩⟩
  · cases hq
-- mcuS5B: 34 steps, 1 ends, 0 returns
def mcuS5B_L : List (Nat × Nat × Nat) := []
def mcuS5B_O : yO := [(338, .int 0, .index 339), (339, .add (.add (.int 10) (.mul (.int 3) (.sub (.rem (.arg 3) (.int 10)) (.int 1)))) (.int 0), .arg 302)]
def mcuS5B_A : yA := (yZ mcuS5B_L, [(.add (.add (.int 10) (.mul (.int 3) (.sub (.rem (.arg 3) (.int 10)) (.int 1)))) (.int 0), 768)], [], [], [])
def mcuS5B_C : List xB := [(.eq, .arg 302, .int 5, true), (.le, .arg 3, .int 0, false)]
def mcuS5B_ss : List yS := [(4, [(3, .div (.arg 3) (.int 10)), (2, .int 0), (4, .arg 302), (0, .index 338), (1, .arg 1)], [], [(338, .int 0, .index 339), (339, .add (.add (.int 10) (.mul (.int 3) (.sub (.rem (.arg 3) (.int 10)) (.int 1)))) (.int 0), .arg 302)], [(.eq, .arg 302, .int 5, true), (.le, .arg 3, .int 0, false)], [])]
def mcuS5B_rs : List yR := []
theorem mcuS5B_w : ywa mcuS5B_A mcuS5B_ss mcuS5B_rs = true := by decide +kernel
theorem mcuS5B_k : yis (yev mcuS5B_A 3000 60 157 [4] (4, [(3, .arg 3), (2, .int 1), (4, .arg 4), (0, .index 338), (1, .arg 1)], [], mcuS5B_O, mcuS5B_C, [])) mcuS5B_ss mcuS5B_rs = true := by decide +kernel
def mcuS5B_r (v1_ v3 v4_ v302 : Int32) (k_ : Nat) : Value := bif Nat.beq k_ 1 then .int v1_ else (bif Nat.beq k_ 3 then .int v3 else (bif Nat.beq k_ 4 then .int v4_ else (bif Nat.beq k_ 302 then .int v302 else (.int 0))))
def mcuS5B_s (n_ : Nat) : Nat := 0
theorem mcuS5B {h_ : xH} {v1_ v3 v4_ v302 : Int32} (hs : sHp h_) (o0_ : bpat h_ 339 ((((10 : Int32) + ((3 : Int32) * ((v3 - v3 / (10 : Int32) * (10 : Int32)) - (1 : Int32)))) + (0 : Int32))).toInt.toNat = some (.int v302)) (b0 : 0 ≤ ((((10 : Int32) + ((3 : Int32) * ((v3 - v3 / (10 : Int32) * (10 : Int32)) - (1 : Int32)))) + (0 : Int32))).toInt ∧ ((((10 : Int32) + ((3 : Int32) * ((v3 - v3 / (10 : Int32) * (10 : Int32)) - (1 : Int32)))) + (0 : Int32))).toInt < 768) (c0_ : v302 = (5 : Int32)) (c1_ : (0 : Int32).toInt < v3.toInt) : ∃ h', ysm h_ h' ∧ (((∀ a_ j_ : Nat, bpat h' a_ j_ = bpat h_ a_ j_) ∧ (bldD 60 157 4 [(3, .int v3), (2, .int (1 : Int32)), (4, .int v4_), (0, .index 338), (1, .int v1_)] [] h_ 4 [(3, .int (v3 / (10 : Int32))), (2, .int (0 : Int32)), (4, .int v302), (0, .index 338), (1, .int v1_)] [] h'))) := by
  have hA : yas mcuS5B_A (mcuS5B_r v1_ v3 v4_ v302) (yg mcuS5B_s) := ⟨List.forall_mem_cons.mpr ⟨b0, fun q_ hq => absurd hq List.not_mem_nil⟩, fun q_ hq => absurd hq List.not_mem_nil, fun q_ hq => absurd hq List.not_mem_nil, fun n_ hn => yg_lo hn, fun q_ hq => absurd hq List.not_mem_nil⟩
  have Hs : ysh mcuS5B_A.1 (yg mcuS5B_s) h_ := ysh_of2 hs (fun q_ hq => absurd hq List.not_mem_nil)
  have Ho : ymem (mcuS5B_r v1_ v3 v4_ v302) (yg mcuS5B_s) mcuS5B_O h_ := List.forall_mem_cons.mpr ⟨bpat_some (fxr_at hs.2 (show fxk fxl 338 0 = some 339 by decide +kernel)), List.forall_mem_cons.mpr ⟨bpat_some o0_, fun q_ hq => absurd hq List.not_mem_nil⟩⟩
  have HC : ∀ q_ ∈ mcuS5B_C, xhold (mcuS5B_r v1_ v3 v4_ v302) q_ := List.forall_mem_cons.mpr ⟨xh_eqT2 c0_, List.forall_mem_cons.mpr ⟨xh_leF c1_, fun q_ hq => absurd hq List.not_mem_nil⟩⟩
  rcases yrun (yis_ok mcuS5B_k) hA Hs Ho HC with ⟨q_, hq, h', K_, G_⟩ | ⟨q_, hq, h', K_, G_⟩
  · have e_ := List.mem_singleton.mp hq
    subst e_
    exact ⟨h', yfr_sm K_.2.2.2 hs K_.1 (ywa_s mcuS5B_w List.mem_cons_self), ⟨fun a_ j_ => yfr_bp K_.2.2.2 (fun q_ hq => absurd hq List.not_mem_nil), G_⟩⟩
  · cases hq
-- mcuS6B: 37 steps, 1 ends, 0 returns
def mcuS6B_L : List (Nat × Nat × Nat) := []
def mcuS6B_O : yO := [(338, .int 0, .index 339), (339, .add (.add (.int 10) (.mul (.int 3) (.sub (.rem (.arg 3) (.int 10)) (.int 1)))) (.int 0), .arg 302)]
def mcuS6B_A : yA := (yZ mcuS6B_L, [(.add (.add (.int 10) (.mul (.int 3) (.sub (.rem (.arg 3) (.int 10)) (.int 1)))) (.int 0), 768)], [], [], [])
def mcuS6B_C : List xB := [(.eq, .arg 302, .int 6, true), (.le, .arg 3, .int 0, false), (.eq, .arg 302, .int 5, false)]
def mcuS6B_ss : List yS := [(4, [(3, .div (.arg 3) (.int 10)), (2, .int 0), (4, .arg 302), (0, .index 338), (1, .arg 1)], [], [(338, .int 0, .index 339), (339, .add (.add (.int 10) (.mul (.int 3) (.sub (.rem (.arg 3) (.int 10)) (.int 1)))) (.int 0), .arg 302)], [(.eq, .arg 302, .int 6, true), (.le, .arg 3, .int 0, false), (.eq, .arg 302, .int 5, false)], [])]
def mcuS6B_rs : List yR := []
theorem mcuS6B_w : ywa mcuS6B_A mcuS6B_ss mcuS6B_rs = true := by decide +kernel
theorem mcuS6B_k : yis (yev mcuS6B_A 3000 60 157 [4] (4, [(3, .arg 3), (2, .int 1), (4, .arg 4), (0, .index 338), (1, .arg 1)], [], mcuS6B_O, mcuS6B_C, [])) mcuS6B_ss mcuS6B_rs = true := by decide +kernel
def mcuS6B_r (v1_ v3 v4_ v302 : Int32) (k_ : Nat) : Value := bif Nat.beq k_ 1 then .int v1_ else (bif Nat.beq k_ 3 then .int v3 else (bif Nat.beq k_ 4 then .int v4_ else (bif Nat.beq k_ 302 then .int v302 else (.int 0))))
def mcuS6B_s (n_ : Nat) : Nat := 0
theorem mcuS6B {h_ : xH} {v1_ v3 v4_ v302 : Int32} (hs : sHp h_) (o0_ : bpat h_ 339 ((((10 : Int32) + ((3 : Int32) * ((v3 - v3 / (10 : Int32) * (10 : Int32)) - (1 : Int32)))) + (0 : Int32))).toInt.toNat = some (.int v302)) (b0 : 0 ≤ ((((10 : Int32) + ((3 : Int32) * ((v3 - v3 / (10 : Int32) * (10 : Int32)) - (1 : Int32)))) + (0 : Int32))).toInt ∧ ((((10 : Int32) + ((3 : Int32) * ((v3 - v3 / (10 : Int32) * (10 : Int32)) - (1 : Int32)))) + (0 : Int32))).toInt < 768) (c0_ : v302 = (6 : Int32)) (c1_ : (0 : Int32).toInt < v3.toInt) (c2_ : ¬ v302 = (5 : Int32)) : ∃ h', ysm h_ h' ∧ (((∀ a_ j_ : Nat, bpat h' a_ j_ = bpat h_ a_ j_) ∧ (bldD 60 157 4 [(3, .int v3), (2, .int (1 : Int32)), (4, .int v4_), (0, .index 338), (1, .int v1_)] [] h_ 4 [(3, .int (v3 / (10 : Int32))), (2, .int (0 : Int32)), (4, .int v302), (0, .index 338), (1, .int v1_)] [] h'))) := by
  have hA : yas mcuS6B_A (mcuS6B_r v1_ v3 v4_ v302) (yg mcuS6B_s) := ⟨List.forall_mem_cons.mpr ⟨b0, fun q_ hq => absurd hq List.not_mem_nil⟩, fun q_ hq => absurd hq List.not_mem_nil, fun q_ hq => absurd hq List.not_mem_nil, fun n_ hn => yg_lo hn, fun q_ hq => absurd hq List.not_mem_nil⟩
  have Hs : ysh mcuS6B_A.1 (yg mcuS6B_s) h_ := ysh_of2 hs (fun q_ hq => absurd hq List.not_mem_nil)
  have Ho : ymem (mcuS6B_r v1_ v3 v4_ v302) (yg mcuS6B_s) mcuS6B_O h_ := List.forall_mem_cons.mpr ⟨bpat_some (fxr_at hs.2 (show fxk fxl 338 0 = some 339 by decide +kernel)), List.forall_mem_cons.mpr ⟨bpat_some o0_, fun q_ hq => absurd hq List.not_mem_nil⟩⟩
  have HC : ∀ q_ ∈ mcuS6B_C, xhold (mcuS6B_r v1_ v3 v4_ v302) q_ := List.forall_mem_cons.mpr ⟨xh_eqT2 c0_, List.forall_mem_cons.mpr ⟨xh_leF c1_, List.forall_mem_cons.mpr ⟨xh_eqF2 c2_, fun q_ hq => absurd hq List.not_mem_nil⟩⟩⟩
  rcases yrun (yis_ok mcuS6B_k) hA Hs Ho HC with ⟨q_, hq, h', K_, G_⟩ | ⟨q_, hq, h', K_, G_⟩
  · have e_ := List.mem_singleton.mp hq
    subst e_
    exact ⟨h', yfr_sm K_.2.2.2 hs K_.1 (ywa_s mcuS6B_w List.mem_cons_self), ⟨fun a_ j_ => yfr_bp K_.2.2.2 (fun q_ hq => absurd hq List.not_mem_nil), G_⟩⟩
  · cases hq
-- mneA: 7 steps, 1 ends, 0 returns
def mneA_L : List (Nat × Nat × Nat) := [(1001, 20, 13)]
def mneA_O : yO := []
def mneA_A : yA := (yZ mneA_L, [], [], [], [])
def mneA_C : List xB := []
def mneA_ss : List yS := [(9, [(0, .index 338), (1, .arg 1), (2, .arg 2), (3, .index 1001)], [.index 1001, .add (.int 34) (.mul (.int 13) (.arg 1)), .index 338], [], [], [])]
def mneA_rs : List yR := []
theorem mneA_w : ywa mneA_A mneA_ss mneA_rs = true := by decide +kernel
theorem mneA_k : yis (yev mneA_A 3000 60 158 [9] (0, [(0, .index 338), (1, .arg 1), (2, .arg 2), (3, .index 1001)], [], mneA_O, mneA_C, [])) mneA_ss mneA_rs = true := by decide +kernel
def mneA_r (v1_ v2 : Int32) (k_ : Nat) : Value := bif Nat.beq k_ 1 then .int v1_ else (bif Nat.beq k_ 2 then .int v2 else (.int 0))
def mneA_s (a1001 : Nat) (n_ : Nat) : Nat := bif Nat.beq n_ 1001 then a1001 else (0)
theorem mneA {h_ : xH} {a1001 : Nat} {v1_ v2 : Int32} (hs : sHp h_) (k1001 : bcq h_ a1001 20 13) : ∃ h', ysm h_ h' ∧ (((∀ a_ j_ : Nat, bpat h' a_ j_ = bpat h_ a_ j_) ∧ (bldD 60 158 0 [(0, .index 338), (1, .int v1_), (2, .int v2), (3, .index a1001)] [] h_ 9 [(0, .index 338), (1, .int v1_), (2, .int v2), (3, .index a1001)] [.index a1001, .int ((34 : Int32) + ((13 : Int32) * v1_)), .index 338] h'))) := by
  have hA : yas mneA_A (mneA_r v1_ v2) (yg (mneA_s a1001)) := ⟨fun q_ hq => absurd hq List.not_mem_nil, fun q_ hq => absurd hq List.not_mem_nil, fun q_ hq => absurd hq List.not_mem_nil, fun n_ hn => yg_lo hn, fun q_ hq => absurd hq List.not_mem_nil⟩
  have Hs : ysh mneA_A.1 (yg (mneA_s a1001)) h_ := ysh_of2 hs (List.forall_mem_cons.mpr ⟨⟨by decide, k1001⟩, fun q_ hq => absurd hq List.not_mem_nil⟩)
  have Ho : ymem (mneA_r v1_ v2) (yg (mneA_s a1001)) mneA_O h_ := fun q_ hq => absurd hq List.not_mem_nil
  have HC : ∀ q_ ∈ mneA_C, xhold (mneA_r v1_ v2) q_ := fun q_ hq => absurd hq List.not_mem_nil
  rcases yrun (yis_ok mneA_k) hA Hs Ho HC with ⟨q_, hq, h', K_, G_⟩ | ⟨q_, hq, h', K_, G_⟩
  · have e_ := List.mem_singleton.mp hq
    subst e_
    exact ⟨h', yfr_sm K_.2.2.2 hs K_.1 (ywa_s mneA_w List.mem_cons_self), ⟨fun a_ j_ => yfr_bp K_.2.2.2 (fun q_ hq => absurd hq List.not_mem_nil), G_⟩⟩
  · cases hq
-- mneB: 2 steps, 1 ends, 0 returns
def mneB_L : List (Nat × Nat × Nat) := [(1001, 20, 13)]
def mneB_O : yO := []
def mneB_A : yA := (yZ mneB_L, [], [], [], [])
def mneB_C : List xB := []
def mneB_ss : List yS := [(15, [(4, .arg 2), (0, .index 338), (1, .arg 1), (2, .arg 2), (3, .index 1001)], [], [], [], [])]
def mneB_rs : List yR := []
theorem mneB_w : ywa mneB_A mneB_ss mneB_rs = true := by decide +kernel
theorem mneB_k : yis (yev mneB_A 3000 60 158 [15] (12, [(0, .index 338), (1, .arg 1), (2, .arg 2), (3, .index 1001)], [], mneB_O, mneB_C, [])) mneB_ss mneB_rs = true := by decide +kernel
def mneB_r (v1_ v2 : Int32) (k_ : Nat) : Value := bif Nat.beq k_ 1 then .int v1_ else (bif Nat.beq k_ 2 then .int v2 else (.int 0))
def mneB_s (a1001 : Nat) (n_ : Nat) : Nat := bif Nat.beq n_ 1001 then a1001 else (0)
theorem mneB {h_ : xH} {a1001 : Nat} {v1_ v2 : Int32} (hs : sHp h_) (k1001 : bcq h_ a1001 20 13) : ∃ h', ysm h_ h' ∧ (((∀ a_ j_ : Nat, bpat h' a_ j_ = bpat h_ a_ j_) ∧ (bldD 60 158 12 [(0, .index 338), (1, .int v1_), (2, .int v2), (3, .index a1001)] [] h_ 15 [(4, .int v2), (0, .index 338), (1, .int v1_), (2, .int v2), (3, .index a1001)] [] h'))) := by
  have hA : yas mneB_A (mneB_r v1_ v2) (yg (mneB_s a1001)) := ⟨fun q_ hq => absurd hq List.not_mem_nil, fun q_ hq => absurd hq List.not_mem_nil, fun q_ hq => absurd hq List.not_mem_nil, fun n_ hn => yg_lo hn, fun q_ hq => absurd hq List.not_mem_nil⟩
  have Hs : ysh mneB_A.1 (yg (mneB_s a1001)) h_ := ysh_of2 hs (List.forall_mem_cons.mpr ⟨⟨by decide, k1001⟩, fun q_ hq => absurd hq List.not_mem_nil⟩)
  have Ho : ymem (mneB_r v1_ v2) (yg (mneB_s a1001)) mneB_O h_ := fun q_ hq => absurd hq List.not_mem_nil
  have HC : ∀ q_ ∈ mneB_C, xhold (mneB_r v1_ v2) q_ := fun q_ hq => absurd hq List.not_mem_nil
  rcases yrun (yis_ok mneB_k) hA Hs Ho HC with ⟨q_, hq, h', K_, G_⟩ | ⟨q_, hq, h', K_, G_⟩
  · have e_ := List.mem_singleton.mp hq
    subst e_
    exact ⟨h', yfr_sm K_.2.2.2 hs K_.1 (ywa_s mneB_w List.mem_cons_self), ⟨fun a_ j_ => yfr_bp K_.2.2.2 (fun q_ hq => absurd hq List.not_mem_nil), G_⟩⟩
  · cases hq
-- mneX: 3 steps, 0 ends, 1 returns
def mneX_L : List (Nat × Nat × Nat) := [(1001, 20, 13)]
def mneX_O : yO := []
def mneX_A : yA := (yZ mneX_L, [], [], [], [])
def mneX_C : List xB := [(.le, .arg 4, .int 0, true)]
def mneX_ss : List yS := []
def mneX_rs : List yR := [(none, [], [(.le, .arg 4, .int 0, true)], [])]
theorem mneX_w : ywa mneX_A mneX_ss mneX_rs = true := by decide +kernel
theorem mneX_k : yis (yev mneX_A 3000 60 158 [] (15, [(4, .arg 4), (0, .index 338), (1, .arg 1), (2, .arg 2), (3, .index 1001)], [], mneX_O, mneX_C, [])) mneX_ss mneX_rs = true := by decide +kernel
def mneX_r (v1_ v2 v4_ : Int32) (k_ : Nat) : Value := bif Nat.beq k_ 1 then .int v1_ else (bif Nat.beq k_ 2 then .int v2 else (bif Nat.beq k_ 4 then .int v4_ else (.int 0)))
def mneX_s (a1001 : Nat) (n_ : Nat) : Nat := bif Nat.beq n_ 1001 then a1001 else (0)
theorem mneX {h_ : xH} {a1001 : Nat} {v1_ v2 v4_ : Int32} (hs : sHp h_) (k1001 : bcq h_ a1001 20 13) (c0_ : v4_.toInt ≤ (0 : Int32).toInt) : ∃ h', ysm h_ h' ∧ (((∀ a_ j_ : Nat, bpat h' a_ j_ = bpat h_ a_ j_) ∧ (∀ D_, 60 ≤ D_ → xrun D_ 158 15 [(4, .int v4_), (0, .index 338), (1, .int v1_), (2, .int v2), (3, .index a1001)] [] h_ (none, h', [])))) := by
  have hA : yas mneX_A (mneX_r v1_ v2 v4_) (yg (mneX_s a1001)) := ⟨fun q_ hq => absurd hq List.not_mem_nil, fun q_ hq => absurd hq List.not_mem_nil, fun q_ hq => absurd hq List.not_mem_nil, fun n_ hn => yg_lo hn, fun q_ hq => absurd hq List.not_mem_nil⟩
  have Hs : ysh mneX_A.1 (yg (mneX_s a1001)) h_ := ysh_of2 hs (List.forall_mem_cons.mpr ⟨⟨by decide, k1001⟩, fun q_ hq => absurd hq List.not_mem_nil⟩)
  have Ho : ymem (mneX_r v1_ v2 v4_) (yg (mneX_s a1001)) mneX_O h_ := fun q_ hq => absurd hq List.not_mem_nil
  have HC : ∀ q_ ∈ mneX_C, xhold (mneX_r v1_ v2 v4_) q_ := List.forall_mem_cons.mpr ⟨xh_leT c0_, fun q_ hq => absurd hq List.not_mem_nil⟩
  rcases yrun (yis_ok mneX_k) hA Hs Ho HC with ⟨q_, hq, h', K_, G_⟩ | ⟨q_, hq, h', K_, G_⟩
  · cases hq
  · have e_ := List.mem_singleton.mp hq
    subst e_
    exact ⟨h', yfr_sm K_.2.2.2 hs K_.1 (ywa_r mneX_w List.mem_cons_self), ⟨fun a_ j_ => yfr_bp K_.2.2.2 (fun q_ hq => absurd hq List.not_mem_nil), G_⟩⟩
-- mneT: 9 steps, 1 ends, 0 returns
def mneT_L : List (Nat × Nat × Nat) := [(1001, 20, 13)]
def mneT_O : yO := []
def mneT_A : yA := (yZ mneT_L, [], [], [], [])
def mneT_C : List xB := [(.le, .arg 4, .int 0, false)]
def mneT_ss : List yS := [(29, [(4, .arg 4), (0, .index 338), (1, .arg 1), (2, .arg 2), (3, .index 1001)], [.index 1001, .sub (.rem (.arg 4) (.int 10)) (.int 1), .index 338], [], [(.le, .arg 4, .int 0, false)], [])]
def mneT_rs : List yR := []
theorem mneT_w : ywa mneT_A mneT_ss mneT_rs = true := by decide +kernel
theorem mneT_k : yis (yev mneT_A 3000 60 158 [29] (15, [(4, .arg 4), (0, .index 338), (1, .arg 1), (2, .arg 2), (3, .index 1001)], [], mneT_O, mneT_C, [])) mneT_ss mneT_rs = true := by decide +kernel
def mneT_r (v1_ v2 v4_ : Int32) (k_ : Nat) : Value := bif Nat.beq k_ 1 then .int v1_ else (bif Nat.beq k_ 2 then .int v2 else (bif Nat.beq k_ 4 then .int v4_ else (.int 0)))
def mneT_s (a1001 : Nat) (n_ : Nat) : Nat := bif Nat.beq n_ 1001 then a1001 else (0)
theorem mneT {h_ : xH} {a1001 : Nat} {v1_ v2 v4_ : Int32} (hs : sHp h_) (k1001 : bcq h_ a1001 20 13) (c0_ : (0 : Int32).toInt < v4_.toInt) : ∃ h', ysm h_ h' ∧ (((∀ a_ j_ : Nat, bpat h' a_ j_ = bpat h_ a_ j_) ∧ (bldD 60 158 15 [(4, .int v4_), (0, .index 338), (1, .int v1_), (2, .int v2), (3, .index a1001)] [] h_ 29 [(4, .int v4_), (0, .index 338), (1, .int v1_), (2, .int v2), (3, .index a1001)] [.index a1001, .int ((v4_ - v4_ / (10 : Int32) * (10 : Int32)) - (1 : Int32)), .index 338] h'))) := by
  have hA : yas mneT_A (mneT_r v1_ v2 v4_) (yg (mneT_s a1001)) := ⟨fun q_ hq => absurd hq List.not_mem_nil, fun q_ hq => absurd hq List.not_mem_nil, fun q_ hq => absurd hq List.not_mem_nil, fun n_ hn => yg_lo hn, fun q_ hq => absurd hq List.not_mem_nil⟩
  have Hs : ysh mneT_A.1 (yg (mneT_s a1001)) h_ := ysh_of2 hs (List.forall_mem_cons.mpr ⟨⟨by decide, k1001⟩, fun q_ hq => absurd hq List.not_mem_nil⟩)
  have Ho : ymem (mneT_r v1_ v2 v4_) (yg (mneT_s a1001)) mneT_O h_ := fun q_ hq => absurd hq List.not_mem_nil
  have HC : ∀ q_ ∈ mneT_C, xhold (mneT_r v1_ v2 v4_) q_ := List.forall_mem_cons.mpr ⟨xh_leF c0_, fun q_ hq => absurd hq List.not_mem_nil⟩
  rcases yrun (yis_ok mneT_k) hA Hs Ho HC with ⟨q_, hq, h', K_, G_⟩ | ⟨q_, hq, h', K_, G_⟩
  · have e_ := List.mem_singleton.mp hq
    subst e_
    exact ⟨h', yfr_sm K_.2.2.2 hs K_.1 (ywa_s mneT_w List.mem_cons_self), ⟨fun a_ j_ => yfr_bp K_.2.2.2 (fun q_ hq => absurd hq List.not_mem_nil), G_⟩⟩
  · cases hq
-- mneN: 5 steps, 1 ends, 0 returns
def mneN_L : List (Nat × Nat × Nat) := [(1001, 20, 13)]
def mneN_O : yO := []
def mneN_A : yA := (yZ mneN_L, [], [], [], [])
def mneN_C : List xB := []
def mneN_ss : List yS := [(15, [(4, .div (.arg 4) (.int 10)), (0, .index 338), (1, .arg 1), (2, .arg 2), (3, .index 1001)], [], [], [], [])]
def mneN_rs : List yR := []
theorem mneN_w : ywa mneN_A mneN_ss mneN_rs = true := by decide +kernel
theorem mneN_k : yis (yev mneN_A 3000 60 158 [15] (32, [(4, .arg 4), (0, .index 338), (1, .arg 1), (2, .arg 2), (3, .index 1001)], [], mneN_O, mneN_C, [])) mneN_ss mneN_rs = true := by decide +kernel
def mneN_r (v1_ v2 v4_ : Int32) (k_ : Nat) : Value := bif Nat.beq k_ 1 then .int v1_ else (bif Nat.beq k_ 2 then .int v2 else (bif Nat.beq k_ 4 then .int v4_ else (.int 0)))
def mneN_s (a1001 : Nat) (n_ : Nat) : Nat := bif Nat.beq n_ 1001 then a1001 else (0)
theorem mneN {h_ : xH} {a1001 : Nat} {v1_ v2 v4_ : Int32} (hs : sHp h_) (k1001 : bcq h_ a1001 20 13) : ∃ h', ysm h_ h' ∧ (((∀ a_ j_ : Nat, bpat h' a_ j_ = bpat h_ a_ j_) ∧ (bldD 60 158 32 [(4, .int v4_), (0, .index 338), (1, .int v1_), (2, .int v2), (3, .index a1001)] [] h_ 15 [(4, .int (v4_ / (10 : Int32))), (0, .index 338), (1, .int v1_), (2, .int v2), (3, .index a1001)] [] h'))) := by
  have hA : yas mneN_A (mneN_r v1_ v2 v4_) (yg (mneN_s a1001)) := ⟨fun q_ hq => absurd hq List.not_mem_nil, fun q_ hq => absurd hq List.not_mem_nil, fun q_ hq => absurd hq List.not_mem_nil, fun n_ hn => yg_lo hn, fun q_ hq => absurd hq List.not_mem_nil⟩
  have Hs : ysh mneN_A.1 (yg (mneN_s a1001)) h_ := ysh_of2 hs (List.forall_mem_cons.mpr ⟨⟨by decide, k1001⟩, fun q_ hq => absurd hq List.not_mem_nil⟩)
  have Ho : ymem (mneN_r v1_ v2 v4_) (yg (mneN_s a1001)) mneN_O h_ := fun q_ hq => absurd hq List.not_mem_nil
  have HC : ∀ q_ ∈ mneN_C, xhold (mneN_r v1_ v2 v4_) q_ := fun q_ hq => absurd hq List.not_mem_nil
  rcases yrun (yis_ok mneN_k) hA Hs Ho HC with ⟨q_, hq, h', K_, G_⟩ | ⟨q_, hq, h', K_, G_⟩
  · have e_ := List.mem_singleton.mp hq
    subst e_
    exact ⟨h', yfr_sm K_.2.2.2 hs K_.1 (ywa_s mneN_w List.mem_cons_self), ⟨fun a_ j_ => yfr_bp K_.2.2.2 (fun q_ hq => absurd hq List.not_mem_nil), G_⟩⟩
  · cases hq
section
variable {W_ : Nat → List Int32} {V : Nat → Int32} {h_ : xH}
/-- sendBack within an act -/
theorem c_sb {mi pc idx ln p0_ a1_ b1 d1_ k_ a_ b_ : Nat} {l : List Int32} {lo_ : xL} {s' : List Jvm.Term} (hcd : xcd mi pc = some (.invokevirtual idx, ln, [p0_, 66, a1_, b1, d1_])) (hcc : xcc h_.length lo_ s' = true) (K_ : okS W_ V) (H_ : SX W_ V h_) (hk : k_ < 8) (xa : sxc a_ = false) (xb : sxc b_ = false) (nb : ¬ b_ = 33 ∧ (¬ b_ = 68 ∧ ¬ b_ = 69)) (R_ : rW a_ b_ h_ l) : ∃ h', (SX W_ V h' ∧ frx a_ b_ h_ h') ∧ (rW a_ b_ h' (sdo (kdV V k_) (mV_ V k_) (W_ 23) l) ∧ bldD 64 mi pc lo_ (.index a_ :: .index (58 + k_) :: .index 1 :: s') h_ (pc + 3) lo_ s' h') := by
  obtain ⟨p1_, p2_⟩ := rck_ok (k_ := k_) H_.1 hk
  have W1_ : bcq h_ 1 10 15 := bcq_of (n_ := 1) (z_ := (10, 15)) H_.1 rfl
  obtain ⟨⟨a1_, a2⟩, b1_, b2⟩ := rk_b (k_ := k_) K_ hk
  have e0_ := SX_v H_ (rk_in (k_ := k_) (j_ := 0) hk (by omega)).1
  have e1_ := SX_v H_ (rk_in (k_ := k_) (j_ := 1) hk (by omega)).1
  rw [Nat.add_zero, a2] at e0_
  rw [show 10 + 3 * k_ + 1 = 11 + 3 * k_ by omega, b2] at e1_
  obtain ⟨-, hL, hX, hE⟩ := wrc_S K_
  have RT := SX_w H_ (show (67, 68, 60, 23) ∈ wrX by decide)
  obtain ⟨h', R', F_, r_⟩ := sbA a1_ b1_ W1_ p2_ e0_ e1_ nb.1 nb.2.1 nb.2.2 R_ (show txb h_ (W_ 23) from ⟨RT.2.1.2, RT.2.2.2⟩) hL hX hE
  exact ⟨h', ⟨SX_ab H_ F_.1 xa xb F_.2, F_⟩, R', ycv (as_ := [.index (58 + k_), .index a_]) hcd rfl W1_ rfl hcc r_⟩
/-- sends within an act -/
theorem c_se {mi pc idx ln p0_ a1_ b1 d1_ k_ b_ : Nat} {l : List Int32} {lo_ : xL} {s' : List Jvm.Term} (hcd : xcd mi pc = some (.invokevirtual idx, ln, [p0_, 151, a1_, b1, d1_])) (hcc : xcc h_.length lo_ s' = true) (K_ : okS W_ V) (H_ : SM W_ V h_) (hk : k_ < 8) (hr : mrC b_) (S_ : snds l) (R_ : rM b_ h_ l) : ∃ h', (SM W_ V h' ∧ frz b_ h_ h') ∧ (rM b_ h' (sdo (kdV V k_) (mV_ V k_) (W_ 23) l) ∧ bldD 64 mi pc lo_ (.index b_ :: .int (Int32.ofNat k_) :: .index 338 :: s') h_ (pc + 3) lo_ s' h') := by
  obtain ⟨k1_, x1_⟩ := mrC_s H_.1 hr
  have T : bcq h_ 338 12 26 := bcq_of (n_ := 338) (z_ := (12, 26)) H_.1 rfl
  obtain ⟨⟨a1_, a2⟩, b1_, b2⟩ := rk_b (k_ := k_) K_ hk
  have e0_ := SM_v H_ (rk_in (k_ := k_) (j_ := 0) hk (by omega)).2
  have e1_ := SM_v H_ (rk_in (k_ := k_) (j_ := 1) hk (by omega)).2
  rw [Nat.add_zero, a2] at e0_
  rw [show 10 + 3 * k_ + 1 = 11 + 3 * k_ by omega, b2] at e1_
  have nb : ¬ b_ = 346 ∧ (¬ b_ = 347 ∧ ¬ b_ = 339) := by rcases hr with rfl | rfl | rfl <;> omega
  obtain ⟨-, hL, hX, hE⟩ := wrc_S K_
  obtain ⟨h', R', F_, r_⟩ := seA (k_ := k_) (sds_s S_) hk a1_ b1_ (show rkm h_ k_ 0 (Int32.ofNat (kdV V k_)) by unfold rkm; rw [Nat.add_zero]; exact e0_) (show rkm h_ k_ 1 (Int32.ofNat (mV_ V k_)) by unfold rkm; rw [show 10 + 3 * k_ + 1 = 11 + 3 * k_ by omega]; exact e1_) nb.1 nb.2.1 nb.2.2 R_ (wrd_S K_ H_).2 (txp_S K_) hL hE
  refine ⟨h', ⟨SM_fr H_ F_.1 (fun c2_ j_ hc2 => F_.2 c2_ j_ (fun q_ => by rw [q_, x1_] at hc2; cases hc2) (fun q_ => by rw [q_] at hc2; exact absurd hc2 (by simp [smc])) (fun q_ => by rw [q_] at hc2; exact absurd hc2 (by simp [smc]))), F_⟩, R', ycv (as_ := [.int (Int32.ofNat k_), .index b_]) hcd rfl T rfl hcc r_⟩
/-- can this ROCK be undone -/
def okk (V : Nat → Int32) (x_ : Int32) : Prop := ¬ (kdV V x_.toInt.toNat = 5 ∨ kdV V x_.toInt.toNat = 6)
/-- ROCKS 0 to i - 1 of a WAY undone from the last on -/
noncomputable def ndk (V : Nat → Int32) (xs L_ : List Int32) (i_ : Nat) (l : List Int32) : Option (List Int32) := match i_ with
  | 0 => some l
  | i_ + 1 => pif (okk V (L_.getD i_ 0)) (ndk V xs L_ i_ (sdo (kdV V (L_.getD i_ 0).toInt.toNat) (mV_ V (L_.getD i_ 0).toInt.toNat) xs l)) none
theorem ndk_s {xs L_ : List Int32} : ∀ (i_ : Nat) (l : List Int32), (∀ j_, j_ < i_ → okk V (L_.getD j_ 0)) → ∃ r_, ndk V xs L_ i_ l = some r_ := by
  intro i_
  induction i_ with
  | zero => intro l _; exact ⟨l, rfl⟩
  | succ i_ ih_ =>
    intro l P_
    obtain ⟨r_, e_⟩ := ih_ (sdo (kdV V (L_.getD i_ 0).toInt.toNat) (mV_ V (L_.getD i_ 0).toInt.toNat) xs l) (fun j_ hj => P_ j_ (by omega))
    exact ⟨r_, (pif_t (P_ i_ (by omega))).trans e_⟩
theorem ndk_z {xs L_ : List Int32} : ∀ (i_ : Nat) (l : List Int32), (∃ j_, j_ < i_ ∧ ¬ okk V (L_.getD j_ 0)) → ndk V xs L_ i_ l = none := by
  intro i_
  induction i_ with
  | zero => intro l P_; obtain ⟨j_, hj, -⟩ := P_; omega
  | succ i_ ih_ =>
    intro l P_
    obtain ⟨j_, hj, n_⟩ := P_
    by_cases g_ : okk V (L_.getD i_ 0)
    · have ji : ¬ j_ = i_ := fun q_ => n_ (by rw [q_]; exact g_)
      exact (pif_t g_).trans (ih_ _ ⟨j_, by omega, n_⟩)
    · exact pif_f g_
theorem getD_ap {L_ : List Int32} {x_ : Int32} {j_ : Nat} (h_ : j_ < L_.length) : (L_ ++ [x_]).getD j_ 0 = L_.getD j_ 0 := by
  rw [List.getD_eq_getElem?_getD, List.getD_eq_getElem?_getD, List.getElem?_append_left h_]
theorem getD_la {L_ : List Int32} {x_ : Int32} : (L_ ++ [x_]).getD L_.length 0 = x_ := by
  rw [List.getD_eq_getElem?_getD, List.getElem?_append_right (Nat.le_refl _), Nat.sub_self]
  rfl
theorem ndk_ap {xs L_ : List Int32} {x_ : Int32} : ∀ (i_ : Nat) (l : List Int32), i_ ≤ L_.length → ndk V xs (L_ ++ [x_]) i_ l = ndk V xs L_ i_ l := by
  intro i_
  induction i_ with
  | zero => intro l _; rfl
  | succ i_ ih_ =>
    intro l hi_
    show pif (okk V ((L_ ++ [x_]).getD i_ 0)) (ndk V xs (L_ ++ [x_]) i_ (sdo (kdV V ((L_ ++ [x_]).getD i_ 0).toInt.toNat) (mV_ V ((L_ ++ [x_]).getD i_ 0).toInt.toNat) xs l)) none = pif (okk V (L_.getD i_ 0)) (ndk V xs L_ i_ (sdo (kdV V (L_.getD i_ 0).toInt.toNat) (mV_ V (L_.getD i_ 0).toInt.toNat) xs l)) none
    rw [getD_ap (by omega), ih_ _ (by omega)]
/-- a WAY undone -/
noncomputable def ndW (W_ : Nat → List Int32) (V : Nat → Int32) (L_ l : List Int32) : Option (List Int32) := ndk V (W_ 23) L_ L_.length l
noncomputable def needO (W_ : Nat → List Int32) (V : Nat → Int32) (i_ : Int32) (r_ : Option (List Int32)) : Int32 := match r_ with
  | none => Int32.ofInt (-1000003)
  | some l => tldF l i_
noncomputable def needF (W_ : Nat → List Int32) (V : Nat → Int32) (z_ d_ i_ : Int32) : (Nat → List Int32) × (Nat → Int32) × Int32 := pif (((0 ≤ z_.toInt ∧ z_.toInt < (V 0).toInt) ∧ isW (nR V) d_) ∧ -1 ≤ i_.toInt) (W_, V, needO W_ V i_ (ndW W_ V (wyl d_) (W_ z_.toInt.toNat))) (W_, V, Int32.ofInt (-1000001))
theorem ok_need (K_ : okS W_ V) (z_ d_ i_ : Int32) : okS (needF W_ V z_ d_ i_).1 (needF W_ V z_ d_ i_).2.1 := by
  unfold needF pif
  split <;> exact K_
-- ===== the class
def hdN (h_ : xH) (x1_ x2_ x3 v_ : Int32) (lo_ : xL) : Prop := lo_ = [(4, .int v_), (0, .index 0), (1, .int x1_), (2, .int x2_), (3, .int x3)] ∨ ∃ r0, bcq h_ r0 5 3 ∧ lo_ = [(4, .int v_), (5, .index r0), (0, .index 0), (1, .int x1_), (2, .int x2_), (3, .int x3)]
theorem i32q (i_ : Nat) (h_ : i_ < 1000) : Int32.ofInt (((i_ + 1 : Nat) : Int) - 1) = Int32.ofNat i_ := by
  rw [show ((i_ + 1 : Nat) : Int) - 1 = (i_ : Int) by omega]
  rfl
theorem nd_x {x1_ x2_ x3 : Int32} {L_ : List Int32} (K_ : okS W_ V) (hL : ∀ x_ ∈ L_, 0 ≤ x_.toInt ∧ x_.toInt < 8) (l4 : L_.length ≤ 4) : ∀ (i_ : Nat) (l : List Int32) (h_ : xH) (lo_ : xL), i_ ≤ L_.length → SX W_ V h_ → (∃ y_, bpat h_ 323 3 = some (.int y_)) → rwx h_ 314 315 4 L_ → rW 318 319 h_ l → hdN h_ x1_ x2_ x3 (Int32.ofInt ((i_ : Int) - 1)) lo_ → ∃ h', (SX W_ V h' ∧ ysm h_ h') ∧ ((ndk V (W_ 23) L_ i_ l = none ∧ ∀ D_, 66 ≤ D_ → xrun D_ 93 61 lo_ [] h_ (some (.int (Int32.ofInt (-1000003))), h', [])) ∨ (∃ r_ v_ lo', ndk V (W_ 23) L_ i_ l = some r_ ∧ (rW 318 319 h' r_ ∧ (bpat h' 323 1 = bpat h_ 323 1 ∧ (hdN h' x1_ x2_ x3 v_ lo' ∧ bldD 66 93 61 lo_ [] h_ 125 lo' [.int x3, .index 318, .index 0] h'))))) := by
  intro i_
  have z0 := z0_
  induction i_ with
  | zero =>
    intro l h_ lo_ hi_ H_ oy RW R_ HD
    have em : Int32.ofInt (((0 : Nat) : Int) - 1) = Int32.ofInt (-1) := rfl
    rw [em] at HD
    rcases HD with rfl | ⟨r0, kr, rfl⟩
    · obtain ⟨h1, m1_, f1_, ld1⟩ := xndXA (v1_ := x1_) (v2 := x2_) (v3 := x3) (v4_ := Int32.ofInt (-1)) H_.1 (by decide)
      exact ⟨h1, ⟨SX_fr H_ m1_ (fun c_ j_ _ => f1_ c_ j_), m1_⟩, Or.inr ⟨l, _, _, rfl, rW_all R_ m1_ f1_, f1_ _ _, Or.inl rfl, fun D_ hD => ld1 D_ (by omega)⟩⟩
    · obtain ⟨h1, m1_, f1_, ld1⟩ := xndXB (v1_ := x1_) (v2 := x2_) (v3 := x3) (v4_ := Int32.ofInt (-1)) H_.1 kr (by decide)
      exact ⟨h1, ⟨SX_fr H_ m1_ (fun c_ j_ _ => f1_ c_ j_), m1_⟩, Or.inr ⟨l, _, _, rfl, rW_all R_ m1_ f1_, f1_ _ _, Or.inr ⟨r0, m1_.2 _ _ _ kr, rfl⟩, fun D_ hD => ld1 D_ (by omega)⟩⟩
  | succ i_ ih_ =>
    intro l h_ lo_ hi_ H_ oy RW R_ HD
    obtain ⟨y_, oy⟩ := oy
    rw [i32q i_ (by omega)] at HD
    have lt_ : i_ < L_.length := by omega
    have gd_ := getD_a lt_
    obtain ⟨w1_, w2_⟩ := hL _ (List.mem_of_getElem? gd_)
    have k8_ : (L_.getD i_ 0).toInt.toNat < 8 := by omega
    obtain ⟨p1_, p2_⟩ := rck_ok (k_ := (L_.getD i_ 0).toInt.toNat) H_.1 k8_
    obtain ⟨⟨a1_, a2⟩, -⟩ := rk_b (k_ := (L_.getD i_ 0).toInt.toNat) K_ k8_
    have e0_ := SX_v H_ (rk_in (k_ := (L_.getD i_ 0).toInt.toNat) (j_ := 0) k8_ (by omega)).1
    rw [Nat.add_zero, a2] at e0_
    have ii := i32n (i_ := i_) (by omega)
    have ek := i32n (i_ := kdV V (L_.getD i_ 0).toInt.toNat) (by omega)
    have ne_ : ∀ n_ : Nat, n_ < 1000 → ¬ kdV V (L_.getD i_ 0).toInt.toNat = n_ → ¬ Int32.ofNat (kdV V (L_.getD i_ 0).toInt.toNat) = Int32.ofNat n_ := fun n_ hn q_ q2_ => q_ (by
      have q2_ := congrArg Int32.toInt q2_
      rw [ek, i32n (by omega)] at q2_
      omega)
    -- the turn_, as_ far as_ sendBack
    by_cases g_ : okk V (L_.getD i_ 0)
    · have n5_ : ¬ Int32.ofNat (kdV V (L_.getD i_ 0).toInt.toNat) = 5 := ne_ 5 (by omega) (fun q_ => g_ (Or.inl q_))
      have n6_ : ¬ Int32.ofNat (kdV V (L_.getD i_ 0).toInt.toNat) = 6 := ne_ 6 (by omega) (fun q_ => g_ (Or.inr q_))
      have TQ : ∃ h1, (ysm h_ h1 ∧ ∀ c_ j_, bpat h1 c_ j_ = bpat h_ c_ j_) ∧ bldD 60 93 61 lo_ [] h_ 110 [(5, .index (58 + (L_.getD i_ 0).toInt.toNat)), (4, .int (Int32.ofNat i_)), (0, .index 0), (1, .int x1_), (2, .int x2_), (3, .int x3)] [.index 318, .index (58 + (L_.getD i_ 0).toInt.toNat), .index 1] h1 := by
        rcases HD with rfl | ⟨r0, kr, rfl⟩
        · obtain ⟨h1, m1_, f1_, ld1⟩ := xndTA (v1_ := x1_) (v2 := x2_) (v3 := x3) (v4_ := Int32.ofNat i_) (v301 := L_.getD i_ 0) (v302 := Int32.ofNat (kdV V (L_.getD i_ 0).toInt.toNat)) H_.1 p2_ (by rw [i32t (by omega)]; exact RW.2.2.2 i_ _ gd_) p1_ e0_ ⟨by omega, by omega⟩ ⟨w1_, by omega⟩ n6_ n5_ (by omega)
          exact ⟨h1, ⟨m1_, f1_⟩, ld1⟩
        · obtain ⟨h1, m1_, f1_, ld1⟩ := xndTB (v1_ := x1_) (v2 := x2_) (v3 := x3) (v4_ := Int32.ofNat i_) (v301 := L_.getD i_ 0) (v302 := Int32.ofNat (kdV V (L_.getD i_ 0).toInt.toNat)) H_.1 p2_ kr (by rw [i32t (by omega)]; exact RW.2.2.2 i_ _ gd_) p1_ e0_ ⟨by omega, by omega⟩ ⟨w1_, by omega⟩ n6_ n5_ (by omega)
          exact ⟨h1, ⟨m1_, f1_⟩, ld1⟩
      obtain ⟨h1, ⟨m1_, f1_⟩, ld1⟩ := TQ
      have H1_ := SX_fr H_ m1_ (fun c_ j_ _ => f1_ c_ j_)
      obtain ⟨h2, ⟨H2_, F2⟩, R2, ld2⟩ := c_sb (mi := 93) (pc := 110) (lo_ := [(5, .index (58 + (L_.getD i_ 0).toInt.toNat)), (4, .int (Int32.ofNat i_)), (0, .index 0), (1, .int x1_), (2, .int x2_), (3, .int x3)]) (s' := []) rfl (xcc_l (List.forall_mem_cons.mpr ⟨xidx_i (bcq_lt (m1_.2 _ _ _ p2_)), List.forall_mem_cons.mpr ⟨rfl, List.forall_mem_cons.mpr ⟨xidx_i (bcq_lt (bcq_of (n_ := 0) (z_ := (11, 15)) H1_.1 rfl)), List.forall_mem_cons.mpr ⟨rfl, List.forall_mem_cons.mpr ⟨rfl, List.forall_mem_cons.mpr ⟨rfl, fun q_ hq => absurd hq List.not_mem_nil⟩⟩⟩⟩⟩⟩) (fun t_ ht => absurd ht List.not_mem_nil) (Nat.le_of_ble_eq_true rfl)) K_ H1_ k8_ (by decide) (by decide) (by decide) (rW_all R_ m1_ f1_)
      obtain ⟨h3, m3_, f3_, ld3⟩ := xndN (v1_ := x1_) (v2 := x2_) (v3 := x3) (v4_ := Int32.ofNat i_) H2_.1 (F2.1.2 _ _ _ (m1_.2 _ _ _ p2_))
      rw [i32m i_ (by omega)] at ld3
      have H3 := SX_fr H2_ m3_ (fun c_ j_ _ => f3_ c_ j_)
      have fr_ : ∀ c_ j_, ¬ c_ = 318 → ¬ c_ = 319 → ¬ c_ = 33 → ¬ c_ = 69 → bpat h3 c_ j_ = bpat h_ c_ j_ := fun c_ j_ q1_ q2_ q3_ q4_ => (f3_ c_ j_).trans ((F2.2 c_ j_ q1_ q2_ q3_ q4_).trans (f1_ c_ j_))
      have M3_ := ysm_tr m1_ (ysm_tr F2.1 m3_)
      have RW3 := rwx_keep RW M3_ (fun c_ j_ hc_ => fr_ c_ j_ (by omega) (by omega) (by omega) (by omega))
      obtain ⟨h4, ⟨H4, M4_⟩, e4_⟩ := ih_ (sdo (kdV V (L_.getD i_ 0).toInt.toNat) (mV_ V (L_.getD i_ 0).toInt.toNat) (W_ 23) l) h3 _ (by omega) H3 ⟨y_, (fr_ _ _ (by omega) (by omega) (by omega) (by omega)).trans oy⟩ RW3 (rW_all R2 m3_ f3_) (Or.inr ⟨_, M3_.2 _ _ _ p2_, rfl⟩)
      have es : ndk V (W_ 23) L_ (i_ + 1) l = ndk V (W_ 23) L_ i_ (sdo (kdV V (L_.getD i_ 0).toInt.toNat) (mV_ V (L_.getD i_ 0).toInt.toNat) (W_ 23) l) := pif_t g_
      refine ⟨h4, ⟨H4, ysm_tr M3_ M4_⟩, ?_⟩
      rw [es]
      rcases e4_ with ⟨e_, r4⟩ | ⟨r_, v_, lo', e_, Rr, fy, HD', ld4⟩
      · exact Or.inl ⟨e_, fun D_ hD => ld1 D_ (by omega) _ (ld2 D_ (by omega) _ (ld3 D_ (by omega) _ (r4 D_ (by omega))))⟩
      · exact Or.inr ⟨r_, v_, lo', e_, Rr, fy.trans (fr_ _ _ (by omega) (by omega) (by omega) (by omega)), HD', fun D_ hD oo z_ => ld1 D_ (by omega) _ (ld2 D_ (by omega) _ (ld3 D_ (by omega) _ (ld4 D_ (by omega) oo z_)))⟩
    · have es : ndk V (W_ 23) L_ (i_ + 1) l = none := pif_f g_
      have SQ_ : ∃ h1, (ysm h_ h1 ∧ ∀ c_ j_, ¬ (c_ = 323 ∧ j_ = 3) → bpat h1 c_ j_ = bpat h_ c_ j_) ∧ ∀ D_, 60 ≤ D_ → xrun D_ 93 61 lo_ [] h_ (some (.int (Int32.ofInt (-1000003))), h1, []) := by
        by_cases g5_ : kdV V (L_.getD i_ 0).toInt.toNat = 5
        · have k5_ : Int32.ofNat (kdV V (L_.getD i_ 0).toInt.toNat) = 5 := by rw [g5_]; rfl
          rcases HD with rfl | ⟨r0, kr, rfl⟩
          · obtain ⟨h1, m1_, w0_, f1_, r1_⟩ := xndS5A (v1_ := x1_) (v2 := x2_) (v3 := x3) (v4_ := Int32.ofNat i_) (v301 := L_.getD i_ 0) (v302 := Int32.ofNat (kdV V (L_.getD i_ 0).toInt.toNat)) H_.1 p2_ (by rw [i32t (by omega)]; exact RW.2.2.2 i_ _ gd_) p1_ e0_ oy ⟨by omega, by omega⟩ ⟨w1_, by omega⟩ k5_ (by omega)
            exact ⟨h1, ⟨m1_, f1_⟩, r1_⟩
          · obtain ⟨h1, m1_, w0_, f1_, r1_⟩ := xndS5B (v1_ := x1_) (v2 := x2_) (v3 := x3) (v4_ := Int32.ofNat i_) (v301 := L_.getD i_ 0) (v302 := Int32.ofNat (kdV V (L_.getD i_ 0).toInt.toNat)) H_.1 p2_ kr (by rw [i32t (by omega)]; exact RW.2.2.2 i_ _ gd_) p1_ e0_ oy ⟨by omega, by omega⟩ ⟨w1_, by omega⟩ k5_ (by omega)
            exact ⟨h1, ⟨m1_, f1_⟩, r1_⟩
        · have g6 : kdV V (L_.getD i_ 0).toInt.toNat = 6 := by
            by_cases q_ : kdV V (L_.getD i_ 0).toInt.toNat = 6
            · exact q_
            · exact absurd (fun q2_ => by rcases q2_ with q2_ | q2_; exact g5_ q2_; exact q_ q2_) g_
          have k6_ : Int32.ofNat (kdV V (L_.getD i_ 0).toInt.toNat) = 6 := by rw [g6]; rfl
          have n5_ : ¬ Int32.ofNat (kdV V (L_.getD i_ 0).toInt.toNat) = 5 := ne_ 5 (by omega) g5_
          rcases HD with rfl | ⟨r0, kr, rfl⟩
          · obtain ⟨h1, m1_, w0_, f1_, r1_⟩ := xndS6A (v1_ := x1_) (v2 := x2_) (v3 := x3) (v4_ := Int32.ofNat i_) (v301 := L_.getD i_ 0) (v302 := Int32.ofNat (kdV V (L_.getD i_ 0).toInt.toNat)) H_.1 p2_ (by rw [i32t (by omega)]; exact RW.2.2.2 i_ _ gd_) p1_ e0_ oy ⟨by omega, by omega⟩ ⟨w1_, by omega⟩ k6_ (by omega) n5_
            exact ⟨h1, ⟨m1_, f1_⟩, r1_⟩
          · obtain ⟨h1, m1_, w0_, f1_, r1_⟩ := xndS6B (v1_ := x1_) (v2 := x2_) (v3 := x3) (v4_ := Int32.ofNat i_) (v301 := L_.getD i_ 0) (v302 := Int32.ofNat (kdV V (L_.getD i_ 0).toInt.toNat)) H_.1 p2_ kr (by rw [i32t (by omega)]; exact RW.2.2.2 i_ _ gd_) p1_ e0_ oy ⟨by omega, by omega⟩ ⟨w1_, by omega⟩ k6_ (by omega) n5_
            exact ⟨h1, ⟨m1_, f1_⟩, r1_⟩
      obtain ⟨h1, ⟨m1_, f1_⟩, r1_⟩ := SQ_
      exact ⟨h1, ⟨SX_e H_ m1_ f1_, m1_⟩, Or.inl ⟨es, fun D_ hD => r1_ D_ (by omega)⟩⟩

end
theorem x_need {W_ : Nat → List Int32} {V : Nat → Int32} {h_ : xH} {z_ d_ i_ : Int32} (B_ : bInv bZ bIj h_) (K_ : okS W_ V) (H_ : SX W_ V h_) : ∃ h', ysm h_ h' ∧ (SX (needF W_ V z_ d_ i_).1 (needF W_ V z_ d_ i_).2.1 h' ∧ ∀ D_, 72 ≤ D_ → xrun D_ 93 0 [(0, .index 0), (1, .int z_), (2, .int d_), (3, .int i_)] [] h_ (some (.int (needF W_ V z_ d_ i_).2.2), h', [])) := by
  obtain ⟨y_, oy⟩ := xerr (k_ := 1) B_ (by omega)
  obtain ⟨y3, oy3⟩ := xerr (k_ := 3) B_ (by omega)
  have zz := z0_
  have zm := im1_
  unfold needF
  obtain ⟨h0, m0_, e_⟩ := xndE (v1_ := z_) (v2 := d_) (v3 := i_) H_.1 (xNc H_) oy
  rcases e_ with ⟨g1, g2, f_, r_⟩ | ⟨g1, w0_, f_, r_⟩ | ⟨g1, g2, w0_, f_, r_⟩
  rotate_left
  · rw [pif_f (fun q_ => by omega)]; exact ⟨h0, m0_, SX_e H_ m0_ f_, fun D_ hD => r_ D_ (by omega)⟩
  · rw [pif_f (fun q_ => by omega)]; exact ⟨h0, m0_, SX_e H_ m0_ f_, fun D_ hD => r_ D_ (by omega)⟩
  have H0 := SX_fr H_ m0_ (fun c_ j_ _ => f_ c_ j_)
  obtain ⟨c_, hc_, hN_, rfl, ec⟩ := isC_n (z_ := z_) K_ ⟨by omega, by omega⟩
  obtain ⟨h1, ⟨H1_, F1_⟩, e1_⟩ := c_rdw (mi := 93) (pc := 17) (lo_ := [(0, .index 0), (1, .int (Int32.ofNat c_)), (2, .int d_), (3, .int i_)]) (z_ := d_) (s' := []) rfl (xcc_l (List.forall_mem_cons.mpr ⟨xidx_i (bcq_lt (bcq_of (n_ := 0) (z_ := (11, 15)) H0.1 rfl)), List.forall_mem_cons.mpr ⟨rfl, List.forall_mem_cons.mpr ⟨rfl, List.forall_mem_cons.mpr ⟨rfl, fun q_ hq => absurd hq List.not_mem_nil⟩⟩⟩⟩) (fun t_ ht => absurd ht List.not_mem_nil) (Nat.le_of_ble_eq_true rfl)) K_ H0 (Or.inl ⟨rfl, rfl⟩)
  have fy : ∀ k_, bpat h1 323 k_ = bpat h_ 323 k_ := fun k_ => (F1_.2 _ _ (by omega) (by omega)).trans (f_ _ _)
  rcases e1_ with ⟨gw, RW, ld1⟩ | ⟨gw, ld1⟩
  · by_cases gi : i_.toInt < -1
    · rw [pif_f (fun q_ => by omega)]
      obtain ⟨h2, m2_, w0_, f2_, r2⟩ := xndI (v1_ := Int32.ofNat c_) (v2 := d_) (v3 := i_) H1_.1 ((fy 1).trans oy) (by omega)
      exact ⟨h2, ysm_tr m0_ (ysm_tr F1_.1 m2_), SX_e H1_ m2_ f2_, fun D_ hD => r_ D_ (by omega) _ (ld1 D_ (by omega) _ (r2 D_ (by omega)))⟩
    rw [pif_t ⟨⟨⟨by omega, by omega⟩, gw⟩, by omega⟩, ec]
    obtain ⟨s1_, s2_, s3_⟩ := cl_s H1_.1 hc_
    obtain ⟨h2, m2_, f2_, ld2⟩ := xndG (v1_ := Int32.ofNat c_) (v2 := d_) (v3 := i_) H1_.1 s2_ (by rw [ec]; exact s1_) ⟨by omega, by omega⟩ (by omega)
    have H2_ := SX_fr H1_ m2_ (fun c_ j_ _ => f2_ c_ j_)
    have RC := SX_w H2_ (cl_x hc_)
    obtain ⟨⟨q1_, q2_⟩, q3_, q4_⟩ := rwC_s H2_.1 (Or.inl ⟨rfl, rfl⟩ : rwC 318 319)
    obtain ⟨h3, S3, R3, m3_, f3_, r3⟩ := copyFrom12 H2_.1 q1_ q2_ q3_ RC.2.2.1 RC
    have ld3 := ycv (d_ := 60) (mi := 93) (pc := 47) (cm := 39) (lo_ := [(0, .index 0), (1, .int (Int32.ofNat c_)), (2, .int d_), (3, .int i_)]) (st_ := [.index (34 + 2 * c_), .index 318]) (as_ := [.index (34 + 2 * c_)]) (s' := []) rfl rfl q1_ rfl (xcc_l (List.forall_mem_cons.mpr ⟨xidx_i (bcq_lt (bcq_of (n_ := 0) (z_ := (11, 15)) H2_.1 rfl)), List.forall_mem_cons.mpr ⟨rfl, List.forall_mem_cons.mpr ⟨rfl, List.forall_mem_cons.mpr ⟨rfl, fun q_ hq => absurd hq List.not_mem_nil⟩⟩⟩⟩) (fun t_ ht => absurd ht List.not_mem_nil) (Nat.le_of_ble_eq_true rfl)) r3
    have H3 := SX_fr H2_ m3_ (fun c_ j_ hc_ => f3_ c_ j_ (fun q_ => by rw [q_] at hc_; exact absurd hc_ (by decide)) (fun q_ => by rw [q_] at hc_; exact absurd hc_ (by decide)))
    have RW3 : rwx h3 314 315 4 (wyl d_) := rwx_keep (rwx_keep RW m2_ (fun c_ j_ _ => f2_ c_ j_)) m3_ (fun c_ j_ hc_ => f3_ c_ j_ (by omega) (by omega))
    obtain ⟨h4, m4_, f4_, ld4⟩ := xndH (v1_ := Int32.ofNat c_) (v2 := d_) (v3 := i_) (v300 := Int32.ofNat (wyl d_).length) H3.1 RW3.2.1.2
    have H4 := SX_fr H3 m4_ (fun c_ j_ _ => f4_ c_ j_)
    have fy4 : ∀ k_, bpat h4 323 k_ = bpat h_ 323 k_ := fun k_ => (f4_ _ _).trans ((f3_ _ _ (by omega) (by omega)).trans ((f2_ _ _).trans (fy k_)))
    have el : Int32.ofNat (wyl d_).length - 1 = Int32.ofInt (((wyl d_).length : Int) - 1) := by
      refine Int32.toInt_inj.mp ?_
      have l4 := RW3.2.2.1
      rw [i32j _ (by rw [i32n (by omega)]; omega) (by rw [i32n (by omega)]; omega), i32n (by omega), i32z (by omega) (by omega)]
    rw [el] at ld4
    have n8 := (nR_le K_).1
    have R3' : rW 318 319 h3 (W_ c_) := ⟨S3, R3, RC.2.2.1⟩
    obtain ⟨h5, ⟨H5, M5_⟩, e5_⟩ := nd_x (x1_ := Int32.ofNat c_) (x2_ := d_) (x3 := i_) (L_ := wyl d_) K_ (fun x_ hx => ⟨(isW_l gw n8 x_ hx).1, by have := (isW_l gw n8 x_ hx).2; omega⟩) RW3.2.2.1 (wyl d_).length (W_ c_) h4 _ (Nat.le_refl _) H4 ⟨y3, (fy4 3).trans oy3⟩ (rwx_keep RW3 m4_ (fun c_ j_ _ => f4_ c_ j_)) (rW_all R3' m4_ f4_) (Or.inl rfl)
    have M4_ := ysm_tr m0_ (ysm_tr F1_.1 (ysm_tr m2_ (ysm_tr m3_ m4_)))
    rcases e5_ with ⟨e_, r5_⟩ | ⟨rr, v_, lo', e_, R5, fy5, HD, ld5⟩
    · have en : ndW W_ V (wyl d_) (W_ c_) = none := e_
      rw [en]
      exact ⟨h5, ysm_tr M4_ M5_, H5, fun D_ hD => r_ D_ (by omega) _ (ld1 D_ (by omega) _ (ld2 D_ (by omega) _ (ld3 D_ (by omega) _ (ld4 D_ (by omega) _ (r5_ D_ (by omega))))))⟩
    · have en : ndW W_ V (wyl d_) (W_ c_) = some rr := e_
      rw [en]
      obtain ⟨h6, m6_, f6_, r6⟩ := sosX (i_ := i_) H5.1 R5.2.1 (fy5.trans ((fy4 1).trans oy))
      rcases HD with rfl | ⟨r0, kr, rfl⟩
      · have ld6 := ycv (d_ := 60) (mi := 93) (pc := 125) (cm := 119) (lo_ := [(4, .int v_), (0, .index 0), (1, .int (Int32.ofNat c_)), (2, .int d_), (3, .int i_)]) (st_ := [.int i_, .index 318, .index 0]) (as_ := [.index 318, .int i_]) (s' := []) rfl rfl (bcq_of (n_ := 0) (z_ := (11, 15)) H5.1 rfl) rfl (xcc_l (List.forall_mem_cons.mpr ⟨rfl, List.forall_mem_cons.mpr ⟨xidx_i (bcq_lt (bcq_of (n_ := 0) (z_ := (11, 15)) H5.1 rfl)), List.forall_mem_cons.mpr ⟨rfl, List.forall_mem_cons.mpr ⟨rfl, List.forall_mem_cons.mpr ⟨rfl, fun q_ hq => absurd hq List.not_mem_nil⟩⟩⟩⟩⟩) (fun t_ ht => absurd ht List.not_mem_nil) (Nat.le_of_ble_eq_true rfl)) r6
        obtain ⟨h7, m7_, f7_, r7⟩ := xndR (v1_ := Int32.ofNat c_) (v2 := d_) (v3 := i_) (v4_ := v_) (v6 := tldF rr i_) m6_.1
        exact ⟨h7, ysm_tr M4_ (ysm_tr M5_ (ysm_tr m6_ m7_)), SX_fr (SX_e H5 m6_ f6_) m7_ (fun c_ j_ _ => f7_ c_ j_), fun D_ hD => r_ D_ (by omega) _ (ld1 D_ (by omega) _ (ld2 D_ (by omega) _ (ld3 D_ (by omega) _ (ld4 D_ (by omega) _ (ld5 D_ (by omega) _ (ld6 D_ (by omega) _ (r7 D_ (by omega))))))))⟩
      · have ld6 := ycv (d_ := 60) (mi := 93) (pc := 125) (cm := 119) (lo_ := [(4, .int v_), (5, .index r0), (0, .index 0), (1, .int (Int32.ofNat c_)), (2, .int d_), (3, .int i_)]) (st_ := [.int i_, .index 318, .index 0]) (as_ := [.index 318, .int i_]) (s' := []) rfl rfl (bcq_of (n_ := 0) (z_ := (11, 15)) H5.1 rfl) rfl (xcc_l (List.forall_mem_cons.mpr ⟨rfl, List.forall_mem_cons.mpr ⟨xidx_i (bcq_lt kr), List.forall_mem_cons.mpr ⟨xidx_i (bcq_lt (bcq_of (n_ := 0) (z_ := (11, 15)) H5.1 rfl)), List.forall_mem_cons.mpr ⟨rfl, List.forall_mem_cons.mpr ⟨rfl, List.forall_mem_cons.mpr ⟨rfl, fun q_ hq => absurd hq List.not_mem_nil⟩⟩⟩⟩⟩⟩) (fun t_ ht => absurd ht List.not_mem_nil) (Nat.le_of_ble_eq_true rfl)) r6
        obtain ⟨h7, m7_, f7_, r7⟩ := xndRB (v1_ := Int32.ofNat c_) (v2 := d_) (v3 := i_) (v4_ := v_) (v6 := tldF rr i_) m6_.1 (m6_.2 _ _ _ kr)
        exact ⟨h7, ysm_tr M4_ (ysm_tr M5_ (ysm_tr m6_ m7_)), SX_fr (SX_e H5 m6_ f6_) m7_ (fun c_ j_ _ => f7_ c_ j_), fun D_ hD => r_ D_ (by omega) _ (ld1 D_ (by omega) _ (ld2 D_ (by omega) _ (ld3 D_ (by omega) _ (ld4 D_ (by omega) _ (ld5 D_ (by omega) _ (ld6 D_ (by omega) _ (r7 D_ (by omega))))))))⟩
  · rw [pif_f (fun q_ => gw q_.1.2)]
    obtain ⟨h2, m2_, w0_, f2_, r2⟩ := xndF (v1_ := Int32.ofNat c_) (v2 := d_) (v3 := i_) H1_.1 ((fy 1).trans oy)
    exact ⟨h2, ysm_tr m0_ (ysm_tr F1_.1 m2_), SX_e H1_ m2_ f2_, fun D_ hD => r_ D_ (by omega) _ (ld1 D_ (by omega) _ (r2 D_ (by omega)))⟩
-- ===== the reference
section
variable {W_ : Nat → List Int32} {V : Nat → Int32} {h_ : xH}
def hdU (u_ : Int32) (m_ : Nat) (g_ : Int32) (lo_ : xL) : Prop := lo_ = [(3, .int (Int32.ofNat m_)), (2, .int g_), (0, .index 338), (1, .int u_)] ∨ ∃ y_ : Int32, lo_ = [(3, .int (Int32.ofNat m_)), (2, .int g_), (4, .int y_), (0, .index 338), (1, .int u_)]
def cuL (V : Nat → Int32) (l : List Int32) : Prop := ∀ x_ ∈ l, okk V x_
theorem cuL_sn {l : List Int32} {x_ : Int32} : cuL V (l ++ [x_]) ↔ (cuL V l ∧ okk V x_) := by
  unfold cuL
  rw [List.forall_mem_append]
  exact ⟨fun q_ => ⟨q_.1, q_.2 x_ List.mem_cons_self⟩, fun q_ => ⟨q_.1, fun y_ hy => by rw [List.mem_singleton.mp hy]; exact q_.2⟩⟩
theorem cu_m {N_ : Nat} (hN_ : N_ ≤ 8) (K_ : okS W_ V) {u_ : Int32} : ∀ (f_ m_ : Nat) (g_ : Bool) (h_ : xH) (lo_ : xL), m_ < 10 ^ f_ → m_ ≤ 9999 → aok N_ m_ (wlf f_ m_) → SM W_ V h_ → hdU u_ m_ (bI g_) lo_ → ∃ h', frn h_ h' ∧ ∀ D_, 60 ≤ D_ → xrun D_ 157 4 lo_ [] h_ (some (.int (pif (g_ = true ∧ cuL V (dgl m_ (wlf f_ m_))) 1 0)), h', []) := by
  intro f_
  have z0 := z0_
  have stop_ : ∀ (f_ : Nat) (g_ : Bool) (h_ : xH) (lo_ : xL), SM W_ V h_ → hdU u_ 0 (bI g_) lo_ → ∃ h', frn h_ h' ∧ ∀ D_, 60 ≤ D_ → xrun D_ 157 4 lo_ [] h_ (some (.int (pif (g_ = true ∧ cuL V (dgl 0 (wlf f_ 0))) 1 0)), h', []) := by
    intro f_ g_ h_ lo_ H_ HD
    rw [wlf_0]
    have e0_ : cuL V (dgl 0 0) := fun x_ hx => absurd hx List.not_mem_nil
    cases g_ with
    | true =>
      rw [pif_t ⟨rfl, e0_⟩]
      rcases HD with rfl | ⟨y_, rfl⟩
      · obtain ⟨h1, m1_, f1_, r1_⟩ := mcuX1A (v1_ := u_) (v3 := Int32.ofNat 0) H_.1 (by decide)
        exact ⟨h1, ⟨m1_, f1_⟩, r1_⟩
      · obtain ⟨h1, m1_, f1_, r1_⟩ := mcuX1B (v1_ := u_) (v3 := Int32.ofNat 0) (v4_ := y_) H_.1 (by decide)
        exact ⟨h1, ⟨m1_, f1_⟩, r1_⟩
    | false =>
      rw [pif_f (fun q_ => by cases q_.1)]
      rcases HD with rfl | ⟨y_, rfl⟩
      · obtain ⟨h1, m1_, f1_, r1_⟩ := mcuX0A (v1_ := u_) (v3 := Int32.ofNat 0) H_.1 (by decide)
        exact ⟨h1, ⟨m1_, f1_⟩, r1_⟩
      · obtain ⟨h1, m1_, f1_, r1_⟩ := mcuX0B (v1_ := u_) (v3 := Int32.ofNat 0) (v4_ := y_) H_.1 (by decide)
        exact ⟨h1, ⟨m1_, f1_⟩, r1_⟩
  induction f_ with
  | zero =>
    intro m_ g_ h_ lo_ hm_ hm2 a_ H_ HD
    have e_ : m_ = 0 := by simpa using hm_
    subst e_
    exact stop_ 0 g_ h_ lo_ H_ HD
  | succ f_ ih_ =>
    intro m_ g_ h_ lo_ hm_ hm2 a_ H_ HD
    by_cases z_ : m_ = 0
    · subst z_
      exact stop_ (f_ + 1) g_ h_ lo_ H_ HD
    rw [wlf_s z_] at a_ ⊢
    obtain ⟨⟨k8_, ek⟩, ⟨e1_, e2_⟩, kN_, ed, a'⟩ := dig_k hN_ hm2 a_
    have ie := rk_in (k_ := m_ % 10 - 1) (j_ := 0) k8_ (by omega)
    obtain ⟨i0_, b0⟩ := ik2_ (k_ := m_ % 10 - 1) (j_ := 0) k8_ (by omega)
    have i0_ : ((10 : Int32) + 3 * Int32.ofNat (m_ % 10 - 1) + 0).toInt.toNat = 10 + 3 * (m_ % 10 - 1) + 0 := i0_
    have b0 : 0 ≤ ((10 : Int32) + 3 * Int32.ofNat (m_ % 10 - 1) + 0).toInt ∧ ((10 : Int32) + 3 * Int32.ofNat (m_ % 10 - 1) + 0).toInt < 768 := b0
    obtain ⟨⟨a1_, a2⟩, -⟩ := rk_b (k_ := m_ % 10 - 1) K_ k8_
    have o0_ : bpat h_ 339 (10 + 3 * (m_ % 10 - 1) + 0) = some (.int (Int32.ofNat (kdV V (m_ % 10 - 1)))) := by
      rw [← a2]
      exact SM_v H_ ie.2
    have ekd := i32n (i_ := kdV V (m_ % 10 - 1)) (by omega)
    have ne_ : ∀ n_ : Nat, n_ < 1000 → ¬ kdV V (m_ % 10 - 1) = n_ → ¬ Int32.ofNat (kdV V (m_ % 10 - 1)) = Int32.ofNat n_ := fun n_ hn q_ q2_ => q_ (by
      have q2_ := congrArg Int32.toInt q2_
      rw [ekd, i32n (by omega)] at q2_
      omega)
    have hm0 : (0 : Int32).toInt < (Int32.ofNat m_).toInt := by rw [i32n (by omega)]; omega
    have ekk : okk V (Int32.ofNat (m_ % 10) - 1) ↔ ¬ (kdV V (m_ % 10 - 1) = 5 ∨ kdV V (m_ % 10 - 1) = 6) := by
      unfold okk
      rw [e2_]
    have go_ : ∀ (g2 : Bool) (h1 : xH) (lo1 : xL), frn h_ h1 → hdU u_ (m_ / 10) (bI g2) lo1 → bldD 60 157 4 lo_ [] h_ 4 lo1 [] h1 → ((g2 = true) ↔ (g_ = true ∧ okk V (Int32.ofNat (m_ % 10) - 1))) → ∃ h', frn h_ h' ∧ ∀ D_, 60 ≤ D_ → xrun D_ 157 4 lo_ [] h_ (some (.int (pif (g_ = true ∧ cuL V (dgl m_ (wlf f_ (m_ / 10) + 1))) 1 0)), h', []) := by
      intro g2 h1 lo1 F1_ HD1 ld1 eg
      obtain ⟨h2, F2, r2⟩ := ih_ (m_ / 10) g2 h1 lo1 (by rw [Nat.pow_succ] at hm_; omega) (by omega) a' (SM_fr H_ F1_.1 (fun c_ j_ _ => F1_.2 c_ j_)) HD1
      have ep : (g2 = true ∧ cuL V (dgl (m_ / 10) (wlf f_ (m_ / 10)))) ↔ (g_ = true ∧ cuL V (dgl m_ (wlf f_ (m_ / 10) + 1))) := by
        rw [dgl_lo, cuL_sn, eg]
        exact ⟨fun q_ => ⟨q_.1.1, q_.2, q_.1.2⟩, fun q_ => ⟨⟨q_.1, q_.2.2⟩, q_.2.1⟩⟩
      refine ⟨h2, frn_tr F1_ F2, fun D_ hD => ld1 D_ hD _ ?_⟩
      have r2 := r2 D_ hD
      by_cases q_ : g2 = true ∧ cuL V (dgl (m_ / 10) (wlf f_ (m_ / 10)))
      · rw [pif_t q_] at r2
        rw [pif_t (ep.mp q_)]
        exact r2
      · rw [pif_f q_] at r2
        rw [pif_f (fun q2_ => q_ (ep.mpr q2_))]
        exact r2
    cases g_ with
    | false =>
      have eg : ((false = true) ↔ (false = true ∧ okk V (Int32.ofNat (m_ % 10) - 1))) := ⟨fun q_ => (by cases q_), fun q_ => q_.1⟩
      rcases HD with rfl | ⟨y_, rfl⟩
      · obtain ⟨h1, m1_, f1_, ld1⟩ := mcuZA (v1_ := u_) (v3 := Int32.ofNat m_) (v302 := Int32.ofNat (kdV V (m_ % 10 - 1))) H_.1 (by rw [ek, i0_]; exact o0_) (by rw [ek]; exact b0) hm0
        rw [ed] at ld1
        exact go_ false h1 _ ⟨m1_, f1_⟩ (Or.inr ⟨_, rfl⟩) ld1 eg
      · obtain ⟨h1, m1_, f1_, ld1⟩ := mcuZB (v1_ := u_) (v3 := Int32.ofNat m_) (v302 := Int32.ofNat (kdV V (m_ % 10 - 1))) (v4_ := y_) H_.1 (by rw [ek, i0_]; exact o0_) (by rw [ek]; exact b0) hm0
        rw [ed] at ld1
        exact go_ false h1 _ ⟨m1_, f1_⟩ (Or.inr ⟨_, rfl⟩) ld1 eg
    | true =>
      by_cases g5_ : kdV V (m_ % 10 - 1) = 5
      · have k5_ : Int32.ofNat (kdV V (m_ % 10 - 1)) = 5 := by rw [g5_]; rfl
        have eg : ((false = true) ↔ (true = true ∧ okk V (Int32.ofNat (m_ % 10) - 1))) := ⟨fun q_ => (by cases q_), fun q_ => absurd (Or.inl g5_) (ekk.mp q_.2)⟩
        rcases HD with rfl | ⟨y_, rfl⟩
        · obtain ⟨h1, m1_, f1_, ld1⟩ := mcuS5A (v1_ := u_) (v3 := Int32.ofNat m_) (v302 := Int32.ofNat (kdV V (m_ % 10 - 1))) H_.1 (by rw [ek, i0_]; exact o0_) (by rw [ek]; exact b0) k5_ hm0
          rw [ed] at ld1
          exact go_ false h1 _ ⟨m1_, f1_⟩ (Or.inr ⟨_, rfl⟩) ld1 eg
        · obtain ⟨h1, m1_, f1_, ld1⟩ := mcuS5B (v1_ := u_) (v3 := Int32.ofNat m_) (v302 := Int32.ofNat (kdV V (m_ % 10 - 1))) (v4_ := y_) H_.1 (by rw [ek, i0_]; exact o0_) (by rw [ek]; exact b0) k5_ hm0
          rw [ed] at ld1
          exact go_ false h1 _ ⟨m1_, f1_⟩ (Or.inr ⟨_, rfl⟩) ld1 eg
      have n5_ : ¬ Int32.ofNat (kdV V (m_ % 10 - 1)) = 5 := ne_ 5 (by omega) g5_
      by_cases g6 : kdV V (m_ % 10 - 1) = 6
      · have k6_ : Int32.ofNat (kdV V (m_ % 10 - 1)) = 6 := by rw [g6]; rfl
        have eg : ((false = true) ↔ (true = true ∧ okk V (Int32.ofNat (m_ % 10) - 1))) := ⟨fun q_ => (by cases q_), fun q_ => absurd (Or.inr g6) (ekk.mp q_.2)⟩
        rcases HD with rfl | ⟨y_, rfl⟩
        · obtain ⟨h1, m1_, f1_, ld1⟩ := mcuS6A (v1_ := u_) (v3 := Int32.ofNat m_) (v302 := Int32.ofNat (kdV V (m_ % 10 - 1))) H_.1 (by rw [ek, i0_]; exact o0_) (by rw [ek]; exact b0) k6_ hm0 n5_
          rw [ed] at ld1
          exact go_ false h1 _ ⟨m1_, f1_⟩ (Or.inr ⟨_, rfl⟩) ld1 eg
        · obtain ⟨h1, m1_, f1_, ld1⟩ := mcuS6B (v1_ := u_) (v3 := Int32.ofNat m_) (v302 := Int32.ofNat (kdV V (m_ % 10 - 1))) (v4_ := y_) H_.1 (by rw [ek, i0_]; exact o0_) (by rw [ek]; exact b0) k6_ hm0 n5_
          rw [ed] at ld1
          exact go_ false h1 _ ⟨m1_, f1_⟩ (Or.inr ⟨_, rfl⟩) ld1 eg
      have n6_ : ¬ Int32.ofNat (kdV V (m_ % 10 - 1)) = 6 := ne_ 6 (by omega) g6
      have eg : ((true = true) ↔ (true = true ∧ okk V (Int32.ofNat (m_ % 10) - 1))) := ⟨fun _ => ⟨rfl, ekk.mpr (fun q_ => by rcases q_ with q_ | q_; exact g5_ q_; exact g6 q_)⟩, fun _ => rfl⟩
      rcases HD with rfl | ⟨y_, rfl⟩
      · obtain ⟨h1, m1_, f1_, ld1⟩ := mcuTA (v1_ := u_) (v3 := Int32.ofNat m_) (v302 := Int32.ofNat (kdV V (m_ % 10 - 1))) H_.1 (by rw [ek, i0_]; exact o0_) (by rw [ek]; exact b0) n6_ n5_ hm0
        rw [ed] at ld1
        exact go_ true h1 _ ⟨m1_, f1_⟩ (Or.inr ⟨_, rfl⟩) ld1 eg
      · obtain ⟨h1, m1_, f1_, ld1⟩ := mcuTB (v1_ := u_) (v3 := Int32.ofNat m_) (v302 := Int32.ofNat (kdV V (m_ % 10 - 1))) (v4_ := y_) H_.1 (by rw [ek, i0_]; exact o0_) (by rw [ek]; exact b0) n6_ n5_ hm0
        rw [ed] at ld1
        exact go_ true h1 _ ⟨m1_, f1_⟩ (Or.inr ⟨_, rfl⟩) ld1 eg
theorem cuM {N_ : Nat} (hN_ : N_ ≤ 8) (K_ : okS W_ V) {u_ : Int32} (g_ : isW N_ u_) (H_ : SM W_ V h_) : ∃ h', frn h_ h' ∧ ∀ D_, 60 ≤ D_ → xrun D_ 157 0 [(0, .index 338), (1, .int u_)] [] h_ (some (.int (pif (cuL V (wyl u_)) 1 0)), h', []) := by
  have g1 := g_.1
  have ed : u_ = Int32.ofNat u_.toInt.toNat := Int32.toInt_inj.mp (by rw [i32n (by omega)]; omega)
  obtain ⟨h1, m1_, f1_, ld1⟩ := mcuE (v1_ := u_) H_.1
  obtain ⟨h2, F2, r2⟩ := cu_m (u_ := u_) hN_ K_ 5 u_.toInt.toNat true h1 [(3, .int u_), (2, .int 1), (0, .index 338), (1, .int u_)] (by omega) (by omega) g_.2 (SM_fr H_ m1_ (fun c_ j_ _ => f1_ c_ j_)) (Or.inl (by rw [← ed]; rfl))
  refine ⟨h2, frn_tr ⟨m1_, f1_⟩ F2, fun D_ hD => ld1 D_ hD _ ?_⟩
  have r2 := r2 D_ hD
  by_cases q_ : cuL V (wyl u_)
  · rw [pif_t (show true = true ∧ cuL V (dgl u_.toInt.toNat (wlf 5 u_.toInt.toNat)) from ⟨rfl, q_⟩)] at r2
    rw [pif_t q_]
    exact r2
  · rw [pif_f (show ¬ (true = true ∧ cuL V (dgl u_.toInt.toNat (wlf 5 u_.toInt.toNat))) from fun q2_ => q_ q2_.2)] at r2
    rw [pif_f q_]
    exact r2
/-- needs -/
theorem ne_m {N_ b_ : Nat} (hN_ : N_ ≤ 8) (K_ : okS W_ V) (hr : mrC b_) {x1_ x2_ : Int32} : ∀ (f_ m_ : Nat) (l : List Int32) (h_ : xH), m_ < 10 ^ f_ → m_ ≤ 9999 → aok N_ m_ (wlf f_ m_) → cuL V (dgl m_ (wlf f_ m_)) → snds l → SM W_ V h_ → rM b_ h_ l → ∃ h' r_, (SM W_ V h' ∧ frz b_ h_ h') ∧ ((ndk V (W_ 23) (dgl m_ (wlf f_ m_)) (wlf f_ m_) l = some r_ ∧ rM b_ h' r_) ∧ ∀ D_, 66 ≤ D_ → xrun D_ 158 15 [(4, .int (Int32.ofNat m_)), (0, .index 338), (1, .int x1_), (2, .int x2_), (3, .index b_)] [] h_ (none, h', [])) := by
  intro f_
  have z0 := z0_
  have stop_ : ∀ (f_ : Nat) (l : List Int32) (h_ : xH), SM W_ V h_ → rM b_ h_ l → ∃ h' r_, (SM W_ V h' ∧ frz b_ h_ h') ∧ ((ndk V (W_ 23) (dgl 0 (wlf f_ 0)) (wlf f_ 0) l = some r_ ∧ rM b_ h' r_) ∧ ∀ D_, 66 ≤ D_ → xrun D_ 158 15 [(4, .int (Int32.ofNat 0)), (0, .index 338), (1, .int x1_), (2, .int x2_), (3, .index b_)] [] h_ (none, h', [])) := by
    intro f_ l h_ H_ R_
    obtain ⟨h1, m1_, f1_, r1_⟩ := mneX (v1_ := x1_) (v2 := x2_) (v4_ := Int32.ofNat 0) H_.1 R_.2.1.1 (by decide)
    rw [wlf_0]
    exact ⟨h1, l, ⟨SM_fr H_ m1_ (fun c_ j_ _ => f1_ c_ j_), m1_, fun c_ j_ _ _ _ => f1_ c_ j_⟩, ⟨rfl, rM_all R_ m1_ f1_⟩, fun D_ hD => r1_ D_ (by omega)⟩
  induction f_ with
  | zero =>
    intro m_ l h_ hm_ hm2 a_ C_ S_ H_ R_
    have e_ : m_ = 0 := by simpa using hm_
    subst e_
    exact stop_ 0 l h_ H_ R_
  | succ f_ ih_ =>
    intro m_ l h_ hm_ hm2 a_ C_ S_ H_ R_
    by_cases z_ : m_ = 0
    · subst z_
      exact stop_ (f_ + 1) l h_ H_ R_
    rw [wlf_s z_] at a_ C_ ⊢
    obtain ⟨⟨k8_, ek⟩, ⟨e1_, e2_⟩, kN_, ed, a'⟩ := dig_k hN_ hm2 a_
    rw [dgl_lo, cuL_sn] at C_
    obtain ⟨h1, m1_, f1_, ld1⟩ := mneT (v1_ := x1_) (v2 := x2_) (v4_ := Int32.ofNat m_) H_.1 R_.2.1.1 (by rw [i32n (by omega)]; omega)
    rw [ek] at ld1
    have H1_ := SM_fr H_ m1_ (fun c_ j_ _ => f1_ c_ j_)
    obtain ⟨h2, ⟨H2_, F2⟩, R2, ld2⟩ := c_se (mi := 158) (pc := 29) (k_ := m_ % 10 - 1) (lo_ := [(4, .int (Int32.ofNat m_)), (0, .index 338), (1, .int x1_), (2, .int x2_), (3, .index b_)]) (s' := []) rfl (xcc_l (List.forall_mem_cons.mpr ⟨rfl, List.forall_mem_cons.mpr ⟨xidx_i (bcq_lt (bcq_of (n_ := 338) (z_ := (12, 26)) H1_.1 rfl)), List.forall_mem_cons.mpr ⟨rfl, List.forall_mem_cons.mpr ⟨rfl, List.forall_mem_cons.mpr ⟨xidx_i (bcq_lt (m1_.2 _ _ _ R_.2.1.1)), fun q_ hq => absurd hq List.not_mem_nil⟩⟩⟩⟩⟩) (fun t_ ht => absurd ht List.not_mem_nil) (Nat.le_of_ble_eq_true rfl)) K_ H1_ k8_ hr S_ (rM_all R_ m1_ f1_)
    obtain ⟨h3, m3_, f3_, ld3⟩ := mneN (v1_ := x1_) (v2 := x2_) (v4_ := Int32.ofNat m_) H2_.1 R2.2.1.1
    rw [ed] at ld3
    have H3 := SM_fr H2_ m3_ (fun c_ j_ _ => f3_ c_ j_)
    obtain ⟨h4, r_, ⟨H4, F4⟩, ⟨e4_, R4⟩, r4⟩ := ih_ (m_ / 10) _ h3 (by rw [Nat.pow_succ] at hm_; omega) (by omega) a' C_.1 (snds_sdo S_) H3 (rM_all R2 m3_ f3_)
    have F_ : frz b_ h_ h4 := frz_tr ⟨m1_, fun c_ j_ _ _ _ => f1_ c_ j_⟩ (frz_tr F2 (frz_tr ⟨m3_, fun c_ j_ _ _ _ => f3_ c_ j_⟩ F4))
    refine ⟨h4, r_, ⟨H4, F_⟩, ⟨?_, R4⟩, fun D_ hD => ld1 D_ (by omega) _ (ld2 D_ (by omega) _ (ld3 D_ (by omega) _ (r4 D_ (by omega))))⟩
    have gl : (dgl m_ (wlf f_ (m_ / 10) + 1)).getD (wlf f_ (m_ / 10)) 0 = Int32.ofNat (m_ % 10) - 1 := by
      have e_ := getD_la (L_ := dgl (m_ / 10) (wlf f_ (m_ / 10))) (x_ := Int32.ofNat (m_ % 10) - 1)
      rw [dgl_len] at e_
      rw [dgl_lo]
      exact e_
    show pif (okk V ((dgl m_ (wlf f_ (m_ / 10) + 1)).getD (wlf f_ (m_ / 10)) 0)) (ndk V (W_ 23) (dgl m_ (wlf f_ (m_ / 10) + 1)) (wlf f_ (m_ / 10)) (sdo (kdV V ((dgl m_ (wlf f_ (m_ / 10) + 1)).getD (wlf f_ (m_ / 10)) 0).toInt.toNat) (mV_ V ((dgl m_ (wlf f_ (m_ / 10) + 1)).getD (wlf f_ (m_ / 10)) 0).toInt.toNat) (W_ 23) l)) none = some r_
    rw [gl, pif_t C_.2, dgl_lo, ndk_ap _ _ (by rw [dgl_len]; omega), e2_]
    exact e4_
/-- by both: can it be undone -/
theorem cu_ndk {xs L_ l : List Int32} : (cuL V L_ → ∃ r_, ndk V xs L_ L_.length l = some r_) ∧ (¬ cuL V L_ → ndk V xs L_ L_.length l = none) := by
  refine ⟨fun C_ => ndk_s _ _ (fun j_ hj => C_ _ (List.mem_of_getElem? (getD_a hj))), fun C_ => ?_⟩
  by_cases g_ : ∃ j_, j_ < L_.length ∧ ¬ okk V (L_.getD j_ 0)
  · exact ndk_z _ _ g_
  · refine absurd (fun x_ hx => ?_) C_
    obtain ⟨j_, hj, e_⟩ := List.getElem_of_mem hx
    by_cases q_ : okk V x_
    · exact q_
    · refine absurd ⟨j_, hj, fun q2_ => q_ ?_⟩ g_
      have e2_ := getD_a hj
      rw [List.getElem?_eq_getElem hj, e_] at e2_
      rw [Option.some.inj e2_]
      exact q2_
end
theorem m_need {W_ : Nat → List Int32} {V : Nat → Int32} {h_ : xH} {z_ d_ i_ : Int32} (B_ : bInv bZ bIj h_) (K_ : okS W_ V) (H_ : SM W_ V h_) : ∃ h', ysm h_ h' ∧ (SM (needF W_ V z_ d_ i_).1 (needF W_ V z_ d_ i_).2.1 h' ∧ ∀ D_, 72 ≤ D_ → xrun D_ 195 0 [(0, .index 338), (1, .int z_), (2, .int d_), (3, .int i_)] [] h_ (some (.int (needF W_ V z_ d_ i_).2.2), h', [])) := by
  obtain ⟨y_, oy⟩ := merr (k_ := 1) B_ (by omega)
  obtain ⟨y3, oy3⟩ := merr (k_ := 3) B_ (by omega)
  have zz := z0_
  have zm := im1_
  have kN_ := okN K_
  have n1_ := i32j (V 0) kN_.1 (by omega)
  have hz := m339 B_
  unfold needF
  obtain ⟨h0, m0_, e_⟩ := mndE (v1_ := z_) (v2 := d_) (v3 := i_) H_.1 (mNc H_) oy
  rcases e_ with ⟨g1, g2, f_, r_⟩ | ⟨g1, w0_, f_, r_⟩ | ⟨g1, g2, w0_, f_, r_⟩
  rotate_left
  · rw [pif_f (fun q_ => by omega)]; exact ⟨h0, m0_, SM_e H_ m0_ f_, fun D_ hD => r_ D_ (by omega)⟩
  · rw [pif_f (fun q_ => by omega)]; exact ⟨h0, m0_, SM_e H_ m0_ f_, fun D_ hD => r_ D_ (by omega)⟩
  have H0 := SM_fr H_ m0_ (fun c_ j_ _ => f_ c_ j_)
  obtain ⟨c_, hc_, hN_, rfl, ec⟩ := isC_n (z_ := z_) K_ ⟨by omega, by omega⟩
  obtain ⟨h1, ⟨H1_, F1_⟩, e1_⟩ := c_isw (mi := 195) (pc := 10) (lo_ := [(0, .index 338), (1, .int (Int32.ofNat c_)), (2, .int d_), (3, .int i_)]) (z_ := d_) (s' := []) rfl (xcc_l (List.forall_mem_cons.mpr ⟨xidx_i (bcq_lt (bcq_of (n_ := 338) (z_ := (12, 26)) H0.1 rfl)), List.forall_mem_cons.mpr ⟨rfl, List.forall_mem_cons.mpr ⟨rfl, List.forall_mem_cons.mpr ⟨rfl, fun q_ hq => absurd hq List.not_mem_nil⟩⟩⟩⟩) (fun t_ ht => absurd ht List.not_mem_nil) (Nat.le_of_ble_eq_true rfl)) K_ H0
  have fy : ∀ k_, bpat h1 341 k_ = bpat h_ 341 k_ := fun k_ => (F1_.2 _ _).trans (f_ _ _)
  rcases e1_ with ⟨gw, ld1⟩ | ⟨gw, ld1⟩
  · by_cases gi : i_.toInt < -1
    · rw [pif_f (fun q_ => by omega)]
      obtain ⟨h2, m2_, w0_, f2_, r2⟩ := mndI (v1_ := Int32.ofNat c_) (v2 := d_) (v3 := i_) H1_.1 ((fy 1).trans oy) (by omega)
      exact ⟨h2, ysm_tr m0_ (ysm_tr F1_.1 m2_), SM_e H1_ m2_ f2_, fun D_ hD => r_ D_ (by omega) _ (ld1 D_ (by omega) _ (r2 D_ (by omega)))⟩
    rw [pif_t ⟨⟨⟨by omega, by omega⟩, gw⟩, by omega⟩, ec]
    obtain ⟨h2, m2_, f2_, ld2⟩ := mndG (v1_ := Int32.ofNat c_) (v2 := d_) (v3 := i_) H1_.1 (by omega)
    have H2_ := SM_fr H1_ m2_ (fun c_ j_ _ => f2_ c_ j_)
    obtain ⟨h3, F3, r3⟩ := cuM (nR_le K_).1 K_ gw H2_
    have ld3 := ycv (d_ := 60) (mi := 195) (pc := 29) (cm := 157) (lo_ := [(0, .index 338), (1, .int (Int32.ofNat c_)), (2, .int d_), (3, .int i_)]) (st_ := [.int d_, .index 338]) (as_ := [.int d_]) (s' := []) rfl rfl (bcq_of (n_ := 338) (z_ := (12, 26)) H2_.1 rfl) rfl (xcc_l (List.forall_mem_cons.mpr ⟨xidx_i (bcq_lt (bcq_of (n_ := 338) (z_ := (12, 26)) H2_.1 rfl)), List.forall_mem_cons.mpr ⟨rfl, List.forall_mem_cons.mpr ⟨rfl, List.forall_mem_cons.mpr ⟨rfl, fun q_ hq => absurd hq List.not_mem_nil⟩⟩⟩⟩) (fun t_ ht => absurd ht List.not_mem_nil) (Nat.le_of_ble_eq_true rfl)) r3
    have H3 := SM_fr H2_ F3.1 (fun c_ j_ _ => F3.2 c_ j_)
    have fy3 : ∀ k_, bpat h3 341 k_ = bpat h_ 341 k_ := fun k_ => (F3.2 _ _).trans ((f2_ _ _).trans (fy k_))
    have M3_ := ysm_tr m0_ (ysm_tr F1_.1 (ysm_tr m2_ F3.1))
    by_cases gc_ : cuL V (wyl d_)
    · rw [pif_t gc_] at ld3
      obtain ⟨h4, m4_, f4_, ld4⟩ := mndH (v1_ := Int32.ofNat c_) (v2 := d_) (v3 := i_) H3.1
      have H4 := SM_fr H3 m4_ (fun c_ j_ _ => f4_ c_ j_)
      -- needs
      obtain ⟨h5, m5_, f5_, ld5⟩ := mneA (v1_ := Int32.ofNat c_) (v2 := d_) H4.1 (bcq_of (n_ := 342) (z_ := (20, 13)) H4.1 rfl)
      rw [i34e hc_] at ld5
      have H5 := SM_fr H4 m5_ (fun c_ j_ _ => f5_ c_ j_)
      obtain ⟨h6, ⟨H6, F6⟩, R6, ld6⟩ := c_take (mi := 158) (pc := 9) (lo_ := [(0, .index 338), (1, .int (Int32.ofNat c_)), (2, .int d_), (3, .index 342)]) (b_ := 342) (s' := []) rfl (xcc_l (List.forall_mem_cons.mpr ⟨xidx_i (bcq_lt (bcq_of (n_ := 338) (z_ := (12, 26)) H5.1 rfl)), List.forall_mem_cons.mpr ⟨rfl, List.forall_mem_cons.mpr ⟨rfl, List.forall_mem_cons.mpr ⟨xidx_i (bcq_lt (bcq_of (n_ := 342) (z_ := (20, 13)) H5.1 rfl)), fun q_ hq => absurd hq List.not_mem_nil⟩⟩⟩⟩) (fun t_ ht => absurd ht List.not_mem_nil) (Nat.le_of_ble_eq_true rfl)) K_ H5 (Or.inl rfl) hc_ (fun j_ hj => by rw [f5_, f4_, F3.2, f2_, F1_.2, f_]; exact hz j_ hj)
      obtain ⟨h7, m7_, f7_, ld7⟩ := mneB (v1_ := Int32.ofNat c_) (v2 := d_) H6.1 (bcq_of (n_ := 342) (z_ := (20, 13)) H6.1 rfl)
      have H7 := SM_fr H6 m7_ (fun c_ j_ _ => f7_ c_ j_)
      have kc_ := K_.1.2.2.1 c_ hc_
      rw [Nat.zero_add] at kc_
      have g9 := gw.1
      have ed : d_ = Int32.ofNat d_.toInt.toNat := Int32.toInt_inj.mp (by rw [i32n (by omega)]; omega)
      obtain ⟨h8, rr, ⟨H8, F8⟩, ⟨e8, R8⟩, r8⟩ := ne_m (b_ := 342) (x1_ := Int32.ofNat c_) (x2_ := d_) (nR_le K_).1 K_ (Or.inl rfl) 5 d_.toInt.toNat (W_ c_) h7 (by omega) (by omega) gw.2 gc_ kc_.2 H7 (rM_all R6 m7_ f7_)
      rw [← ed] at r8
      have rn : ∀ D_, 70 ≤ D_ → xrun D_ 158 0 [(0, .index 338), (1, .int (Int32.ofNat c_)), (2, .int d_), (3, .index 342)] [] h4 (none, h8, []) := fun D_ hD => ld5 D_ (by omega) _ (ld6 D_ (by omega) _ (ld7 D_ (by omega) _ (r8 D_ (by omega))))
      have ld8 := ycv (d_ := 70) (mi := 195) (pc := 48) (cm := 158) (lo_ := [(0, .index 338), (1, .int (Int32.ofNat c_)), (2, .int d_), (3, .int i_)]) (st_ := [.index 342, .int d_, .int (Int32.ofNat c_), .index 338]) (as_ := [.int (Int32.ofNat c_), .int d_, .index 342]) (s' := []) rfl rfl (bcq_of (n_ := 338) (z_ := (12, 26)) H4.1 rfl) rfl (xcc_l (List.forall_mem_cons.mpr ⟨xidx_i (bcq_lt (bcq_of (n_ := 338) (z_ := (12, 26)) H4.1 rfl)), List.forall_mem_cons.mpr ⟨rfl, List.forall_mem_cons.mpr ⟨rfl, List.forall_mem_cons.mpr ⟨rfl, fun q_ hq => absurd hq List.not_mem_nil⟩⟩⟩⟩) (fun t_ ht => absurd ht List.not_mem_nil) (Nat.le_of_ble_eq_true rfl)) rn
      obtain ⟨h9, m9_, f9_, ld9⟩ := mndJ (v1_ := Int32.ofNat c_) (v2 := d_) (v3 := i_) H8.1
      have H9 := SM_fr H8 m9_ (fun c_ j_ _ => f9_ c_ j_)
      have R9 := rM_all R8 m9_ f9_
      have fy9 : bpat h9 341 1 = some (.int y_) := (f9_ _ _).trans ((F8.2 _ _ (by omega) (by omega) (by omega)).trans ((f7_ _ _).trans ((F6.2 _ _ (by omega)).trans ((f5_ _ _).trans ((f4_ _ _).trans ((fy3 1).trans oy))))))
      obtain ⟨h10, m10_, f10, r10⟩ := tldM (i_ := i_) R9 fy9
      have ld10 := ycv (d_ := 60) (mi := 195) (pc := 57) (cm := 161) (lo_ := [(0, .index 338), (1, .int (Int32.ofNat c_)), (2, .int d_), (3, .int i_)]) (st_ := [.int i_, .index 342, .index 338]) (as_ := [.index 342, .int i_]) (s' := []) rfl rfl (bcq_of (n_ := 338) (z_ := (12, 26)) H9.1 rfl) rfl (xcc_l (List.forall_mem_cons.mpr ⟨xidx_i (bcq_lt (bcq_of (n_ := 338) (z_ := (12, 26)) H9.1 rfl)), List.forall_mem_cons.mpr ⟨rfl, List.forall_mem_cons.mpr ⟨rfl, List.forall_mem_cons.mpr ⟨rfl, fun q_ hq => absurd hq List.not_mem_nil⟩⟩⟩⟩) (fun t_ ht => absurd ht List.not_mem_nil) (Nat.le_of_ble_eq_true rfl)) r10
      obtain ⟨h11, m11_, f11_, r11⟩ := mndR (v1_ := Int32.ofNat c_) (v2 := d_) (v3 := i_) (v5 := tldF rr i_) m10_.1
      have en : ndW W_ V (wyl d_) (W_ c_) = some rr := by
        have e_ := e8
        unfold ndW wyl
        rw [dgl_len]
        exact e_
      rw [en]
      exact ⟨h11, ysm_tr M3_ (ysm_tr m4_ (ysm_tr m5_ (ysm_tr F6.1 (ysm_tr m7_ (ysm_tr F8.1 (ysm_tr m9_ (ysm_tr m10_ m11_))))))), SM_fr (SM_e H9 m10_ f10) m11_ (fun c_ j_ _ => f11_ c_ j_), fun D_ hD => r_ D_ (by omega) _ (ld1 D_ (by omega) _ (ld2 D_ (by omega) _ (ld3 D_ (by omega) _ (ld4 D_ (by omega) _ (ld8 D_ (by omega) _ (ld9 D_ (by omega) _ (ld10 D_ (by omega) _ (r11 D_ (by omega)))))))))⟩
    · rw [pif_f gc_] at ld3
      obtain ⟨h4, m4_, w0_, f4_, r4⟩ := mndS (v1_ := Int32.ofNat c_) (v2 := d_) (v3 := i_) H3.1 ((fy3 3).trans oy3)
      have en : ndW W_ V (wyl d_) (W_ c_) = none := cu_ndk.2 gc_
      rw [en]
      exact ⟨h4, ysm_tr M3_ m4_, SM_e H3 m4_ f4_, fun D_ hD => r_ D_ (by omega) _ (ld1 D_ (by omega) _ (ld2 D_ (by omega) _ (ld3 D_ (by omega) _ (r4 D_ (by omega)))))⟩
  · rw [pif_f (fun q_ => gw q_.1.2)]
    obtain ⟨h2, m2_, w0_, f2_, r2⟩ := mndF (v1_ := Int32.ofNat c_) (v2 := d_) (v3 := i_) H1_.1 ((fy 1).trans oy)
    exact ⟨h2, ysm_tr m0_ (ysm_tr F1_.1 m2_), SM_e H1_ m2_ f2_, fun D_ hD => r_ D_ (by omega) _ (ld1 D_ (by omega) _ (r2 D_ (by omega)))⟩
