-- ===== draw
-- xdrE: 89 steps, 1 ends, 4 returns
def xdrE_L : List (Nat × Nat × Nat) := []
def xdrE_O : yO := [(0, .int 0, .index 1), (1, .int 9, .arg 310), (0, .int 13, .index 323), (323, .int 1, .arg 400)]
def xdrE_A : yA := (yZ xdrE_L, [], [], [], [])
def xdrE_C : List xB := []
def xdrE_ss : List yS := [(24, [(0, .index 0), (1, .arg 1), (2, .arg 2)], [], [(0, .int 0, .index 1), (1, .int 9, .arg 310), (0, .int 13, .index 323), (323, .int 1, .arg 400)], [(.le, .arg 2, .int 12, true), (.lt, .arg 2, .int 0, false), (.lt, .arg 1, .arg 310, true), (.lt, .arg 1, .int 0, false)], [])]
def xdrE_rs : List yR := [(some (.int (Int32.ofInt (-1000001))), [(323, .int 1, .add (.arg 400) (.int 1)), (0, .int 0, .index 1), (1, .int 9, .arg 310), (0, .int 13, .index 323)], [(.lt, .arg 1, .int 0, true)], [(323, .int 1)]),
  (some (.int (Int32.ofInt (-1000001))), [(323, .int 1, .add (.arg 400) (.int 1)), (0, .int 0, .index 1), (1, .int 9, .arg 310), (0, .int 13, .index 323)], [(.lt, .arg 1, .arg 310, false), (.lt, .arg 1, .int 0, false)], [(323, .int 1)]),
  (some (.int (Int32.ofInt (-1000001))), [(323, .int 1, .add (.arg 400) (.int 1)), (0, .int 0, .index 1), (1, .int 9, .arg 310), (0, .int 13, .index 323)], [(.lt, .arg 2, .int 0, true), (.lt, .arg 1, .arg 310, true), (.lt, .arg 1, .int 0, false)], [(323, .int 1)]),
  (some (.int (Int32.ofInt (-1000001))), [(323, .int 1, .add (.arg 400) (.int 1)), (0, .int 0, .index 1), (1, .int 9, .arg 310), (0, .int 13, .index 323)], [(.le, .arg 2, .int 12, false), (.lt, .arg 2, .int 0, false), (.lt, .arg 1, .arg 310, true), (.lt, .arg 1, .int 0, false)], [(323, .int 1)])]
theorem xdrE_w : ywa xdrE_A xdrE_ss xdrE_rs = true := by decide +kernel
theorem xdrE_k : yis (yev xdrE_A 3000 60 78 [24] (0, [(0, .index 0), (1, .arg 1), (2, .arg 2)], [], xdrE_O, xdrE_C, [])) xdrE_ss xdrE_rs = true := by decide +kernel
def xdrE_r (v1_ v2 v310 v400 : Int32) (k_ : Nat) : Value := bif Nat.beq k_ 1 then .int v1_ else (bif Nat.beq k_ 2 then .int v2 else (bif Nat.beq k_ 310 then .int v310 else (bif Nat.beq k_ 400 then .int v400 else (.int 0))))
def xdrE_s (n_ : Nat) : Nat := 0
theorem xdrE {h_ : xH} {v1_ v2 v310 v400 : Int32} (hs : sHp h_) (o0_ : bpat h_ 1 9 = some (.int v310)) (o1 : bpat h_ 323 1 = some (.int v400)) : ∃ h', ysm h_ h' ∧ (((v2.toInt ≤ (12 : Int32).toInt) ∧ ((0 : Int32).toInt ≤ v2.toInt) ∧ (v1_.toInt < v310.toInt) ∧ ((0 : Int32).toInt ≤ v1_.toInt) ∧ (∀ a_ j_ : Nat, bpat h' a_ j_ = bpat h_ a_ j_) ∧ (bldD 60 78 0 [(0, .index 0), (1, .int v1_), (2, .int v2)] [] h_ 24 [(0, .index 0), (1, .int v1_), (2, .int v2)] [] h'))
  ∨ ((v1_.toInt < (0 : Int32).toInt) ∧ (bpat h' 323 1 = some (.int (v400 + (1 : Int32)))) ∧ (∀ a_ j_ : Nat, ¬ (a_ = 323 ∧ j_ = 1) → bpat h' a_ j_ = bpat h_ a_ j_) ∧ (∀ D_, 60 ≤ D_ → xrun D_ 78 0 [(0, .index 0), (1, .int v1_), (2, .int v2)] [] h_ (some (.int (Int32.ofInt (-1000001))), h', [])))
  ∨ ((v310.toInt ≤ v1_.toInt) ∧ ((0 : Int32).toInt ≤ v1_.toInt) ∧ (bpat h' 323 1 = some (.int (v400 + (1 : Int32)))) ∧ (∀ a_ j_ : Nat, ¬ (a_ = 323 ∧ j_ = 1) → bpat h' a_ j_ = bpat h_ a_ j_) ∧ (∀ D_, 60 ≤ D_ → xrun D_ 78 0 [(0, .index 0), (1, .int v1_), (2, .int v2)] [] h_ (some (.int (Int32.ofInt (-1000001))), h', [])))
  ∨ ((v2.toInt < (0 : Int32).toInt) ∧ (v1_.toInt < v310.toInt) ∧ ((0 : Int32).toInt ≤ v1_.toInt) ∧ (bpat h' 323 1 = some (.int (v400 + (1 : Int32)))) ∧ (∀ a_ j_ : Nat, ¬ (a_ = 323 ∧ j_ = 1) → bpat h' a_ j_ = bpat h_ a_ j_) ∧ (∀ D_, 60 ≤ D_ → xrun D_ 78 0 [(0, .index 0), (1, .int v1_), (2, .int v2)] [] h_ (some (.int (Int32.ofInt (-1000001))), h', [])))
  ∨ (((12 : Int32).toInt < v2.toInt) ∧ ((0 : Int32).toInt ≤ v2.toInt) ∧ (v1_.toInt < v310.toInt) ∧ ((0 : Int32).toInt ≤ v1_.toInt) ∧ (bpat h' 323 1 = some (.int (v400 + (1 : Int32)))) ∧ (∀ a_ j_ : Nat, ¬ (a_ = 323 ∧ j_ = 1) → bpat h' a_ j_ = bpat h_ a_ j_) ∧ (∀ D_, 60 ≤ D_ → xrun D_ 78 0 [(0, .index 0), (1, .int v1_), (2, .int v2)] [] h_ (some (.int (Int32.ofInt (-1000001))), h', [])))) := by
  have hA : yas xdrE_A (xdrE_r v1_ v2 v310 v400) (yg xdrE_s) := ⟨fun q_ hq => absurd hq List.not_mem_nil, fun q_ hq => absurd hq List.not_mem_nil, fun q_ hq => absurd hq List.not_mem_nil, fun n_ hn => yg_lo hn, fun q_ hq => absurd hq List.not_mem_nil⟩
  have Hs : ysh xdrE_A.1 (yg xdrE_s) h_ := ysh_of2 hs (fun q_ hq => absurd hq List.not_mem_nil)
  have Ho : ymem (xdrE_r v1_ v2 v310 v400) (yg xdrE_s) xdrE_O h_ := List.forall_mem_cons.mpr ⟨bpat_some (fxr_at hs.2 (show fxk fxl 0 0 = some 1 by decide +kernel)), List.forall_mem_cons.mpr ⟨bpat_some o0_, List.forall_mem_cons.mpr ⟨bpat_some (fxr_at hs.2 (show fxk fxl 0 13 = some 323 by decide +kernel)), List.forall_mem_cons.mpr ⟨bpat_some o1, fun q_ hq => absurd hq List.not_mem_nil⟩⟩⟩⟩
  have HC : ∀ q_ ∈ xdrE_C, xhold (xdrE_r v1_ v2 v310 v400) q_ := fun q_ hq => absurd hq List.not_mem_nil
  rcases yrun (yis_ok xdrE_k) hA Hs Ho HC with ⟨q_, hq, h', K_, G_⟩ | ⟨q_, hq, h', K_, G_⟩
  · have e_ := List.mem_singleton.mp hq
    subst e_
    exact ⟨h', yfr_sm K_.2.2.2 hs K_.1 (ywa_s xdrE_w List.mem_cons_self), Or.inl (⟨xq_leT rfl rfl (K_.2.2.1 _ List.mem_cons_self), xq_ltF rfl rfl (K_.2.2.1 _ (List.mem_cons_of_mem _ List.mem_cons_self)), xq_ltT rfl rfl (K_.2.2.1 _ (List.mem_cons_of_mem _ (List.mem_cons_of_mem _ List.mem_cons_self))), xq_ltF rfl rfl (K_.2.2.1 _ (List.mem_cons_of_mem _ (List.mem_cons_of_mem _ (List.mem_cons_of_mem _ List.mem_cons_self)))), fun a_ j_ => yfr_bp K_.2.2.2 (fun q_ hq => absurd hq List.not_mem_nil), G_⟩)⟩
  · rcases List.mem_cons.mp hq with e_ | hq
    · subst e_
      exact ⟨h', yfr_sm K_.2.2.2 hs K_.1 (ywa_r xdrE_w List.mem_cons_self), Or.inr (Or.inl (⟨xq_ltT rfl rfl (K_.2.2.1 _ List.mem_cons_self), bpat_of (K_.2.1 _ List.mem_cons_self), fun a_ j_ n0_ => yfr_bp K_.2.2.2 (List.forall_mem_cons.mpr ⟨fun e_ => n0_ ⟨e_.1.symm, e_.2.symm⟩, fun q_ hq => absurd hq List.not_mem_nil⟩), G_⟩))⟩
    rcases List.mem_cons.mp hq with e_ | hq
    · subst e_
      exact ⟨h', yfr_sm K_.2.2.2 hs K_.1 (ywa_r xdrE_w (List.mem_cons_of_mem _ List.mem_cons_self)), Or.inr (Or.inr (Or.inl (⟨xq_ltF rfl rfl (K_.2.2.1 _ List.mem_cons_self), xq_ltF rfl rfl (K_.2.2.1 _ (List.mem_cons_of_mem _ List.mem_cons_self)), bpat_of (K_.2.1 _ List.mem_cons_self), fun a_ j_ n0_ => yfr_bp K_.2.2.2 (List.forall_mem_cons.mpr ⟨fun e_ => n0_ ⟨e_.1.symm, e_.2.symm⟩, fun q_ hq => absurd hq List.not_mem_nil⟩), G_⟩)))⟩
    rcases List.mem_cons.mp hq with e_ | hq
    · subst e_
      exact ⟨h', yfr_sm K_.2.2.2 hs K_.1 (ywa_r xdrE_w (List.mem_cons_of_mem _ (List.mem_cons_of_mem _ List.mem_cons_self))), Or.inr (Or.inr (Or.inr (Or.inl (⟨xq_ltT rfl rfl (K_.2.2.1 _ List.mem_cons_self), xq_ltT rfl rfl (K_.2.2.1 _ (List.mem_cons_of_mem _ List.mem_cons_self)), xq_ltF rfl rfl (K_.2.2.1 _ (List.mem_cons_of_mem _ (List.mem_cons_of_mem _ List.mem_cons_self))), bpat_of (K_.2.1 _ List.mem_cons_self), fun a_ j_ n0_ => yfr_bp K_.2.2.2 (List.forall_mem_cons.mpr ⟨fun e_ => n0_ ⟨e_.1.symm, e_.2.symm⟩, fun q_ hq => absurd hq List.not_mem_nil⟩), G_⟩))))⟩
    have e_ := List.mem_singleton.mp hq
    subst e_
    exact ⟨h', yfr_sm K_.2.2.2 hs K_.1 (ywa_r xdrE_w (List.mem_cons_of_mem _ (List.mem_cons_of_mem _ (List.mem_cons_of_mem _ List.mem_cons_self)))), Or.inr (Or.inr (Or.inr (Or.inr (⟨xq_leF rfl rfl (K_.2.2.1 _ List.mem_cons_self), xq_ltF rfl rfl (K_.2.2.1 _ (List.mem_cons_of_mem _ List.mem_cons_self)), xq_ltT rfl rfl (K_.2.2.1 _ (List.mem_cons_of_mem _ (List.mem_cons_of_mem _ List.mem_cons_self))), xq_ltF rfl rfl (K_.2.2.1 _ (List.mem_cons_of_mem _ (List.mem_cons_of_mem _ (List.mem_cons_of_mem _ List.mem_cons_self)))), bpat_of (K_.2.1 _ List.mem_cons_self), fun a_ j_ n0_ => yfr_bp K_.2.2.2 (List.forall_mem_cons.mpr ⟨fun e_ => n0_ ⟨e_.1.symm, e_.2.symm⟩, fun q_ hq => absurd hq List.not_mem_nil⟩), G_⟩))))⟩
-- xdrO: 14 steps, 1 ends, 0 returns
def xdrO_L : List (Nat × Nat × Nat) := [(1000, 6, 2)]
def xdrO_O : yO := [(0, .int 0, .index 1), (1, .int 0, .index 2), (2, .arg 1, .index 1000)]
def xdrO_A : yA := (yZ xdrO_L, [(.arg 1, 12)], [], [], [])
def xdrO_C : List xB := []
def xdrO_ss : List yS := [(41, [(4, .int 0), (3, .index 1000), (0, .index 0), (1, .arg 1), (2, .arg 2)], [], [(1000, .int 1, .int 0), (0, .int 0, .index 1), (1, .int 0, .index 2), (2, .arg 1, .index 1000)], [], [(1000, .int 1)])]
def xdrO_rs : List yR := []
theorem xdrO_w : ywa xdrO_A xdrO_ss xdrO_rs = true := by decide +kernel
theorem xdrO_k : yis (yev xdrO_A 3000 60 78 [41] (24, [(0, .index 0), (1, .arg 1), (2, .arg 2)], [], xdrO_O, xdrO_C, [])) xdrO_ss xdrO_rs = true := by decide +kernel
def xdrO_r (v1_ v2 : Int32) (k_ : Nat) : Value := bif Nat.beq k_ 1 then .int v1_ else (bif Nat.beq k_ 2 then .int v2 else (.int 0))
def xdrO_s (a1000 : Nat) (n_ : Nat) : Nat := bif Nat.beq n_ 1000 then a1000 else (0)
theorem xdrO {h_ : xH} {a1000 : Nat} {v1_ v2 : Int32} (hs : sHp h_) (k1000 : bcq h_ a1000 6 2) (o0_ : bpat h_ 2 (v1_).toInt.toNat = some (.index a1000)) (b0 : 0 ≤ (v1_).toInt ∧ (v1_).toInt < 12) : ∃ h', ysm h_ h' ∧ (((bpat h' a1000 1 = some (.int (0 : Int32))) ∧ (∀ a_ j_ : Nat, ¬ (a_ = a1000 ∧ j_ = 1) → bpat h' a_ j_ = bpat h_ a_ j_) ∧ (bldD 60 78 24 [(0, .index 0), (1, .int v1_), (2, .int v2)] [] h_ 41 [(4, .int (0 : Int32)), (3, .index a1000), (0, .index 0), (1, .int v1_), (2, .int v2)] [] h'))) := by
  have hA : yas xdrO_A (xdrO_r v1_ v2) (yg (xdrO_s a1000)) := ⟨List.forall_mem_cons.mpr ⟨b0, fun q_ hq => absurd hq List.not_mem_nil⟩, fun q_ hq => absurd hq List.not_mem_nil, fun q_ hq => absurd hq List.not_mem_nil, fun n_ hn => yg_lo hn, fun q_ hq => absurd hq List.not_mem_nil⟩
  have Hs : ysh xdrO_A.1 (yg (xdrO_s a1000)) h_ := ysh_of2 hs (List.forall_mem_cons.mpr ⟨⟨by decide, k1000⟩, fun q_ hq => absurd hq List.not_mem_nil⟩)
  have Ho : ymem (xdrO_r v1_ v2) (yg (xdrO_s a1000)) xdrO_O h_ := List.forall_mem_cons.mpr ⟨bpat_some (fxr_at hs.2 (show fxk fxl 0 0 = some 1 by decide +kernel)), List.forall_mem_cons.mpr ⟨bpat_some (fxr_at hs.2 (show fxk fxl 1 0 = some 2 by decide +kernel)), List.forall_mem_cons.mpr ⟨bpat_some o0_, fun q_ hq => absurd hq List.not_mem_nil⟩⟩⟩
  have HC : ∀ q_ ∈ xdrO_C, xhold (xdrO_r v1_ v2) q_ := fun q_ hq => absurd hq List.not_mem_nil
  rcases yrun (yis_ok xdrO_k) hA Hs Ho HC with ⟨q_, hq, h', K_, G_⟩ | ⟨q_, hq, h', K_, G_⟩
  · have e_ := List.mem_singleton.mp hq
    subst e_
    exact ⟨h', yfr_sm K_.2.2.2 hs K_.1 (ywa_s xdrO_w List.mem_cons_self), ⟨bpat_of (K_.2.1 _ List.mem_cons_self), fun a_ j_ n0_ => yfr_bp K_.2.2.2 (List.forall_mem_cons.mpr ⟨fun e_ => n0_ ⟨e_.1.symm, e_.2.symm⟩, fun q_ hq => absurd hq List.not_mem_nil⟩), G_⟩⟩
  · cases hq
-- xdrT: 47 steps, 1 ends, 0 returns
def xdrT_L : List (Nat × Nat × Nat) := [(1000, 6, 2), (1001, 20, 12)]
def xdrT_O : yO := [(0, .int 0, .index 1), (1, .int 13, .arg 312), (1000, .int 1, .arg 311), (1000, .int 0, .index 1001)]
def xdrT_A : yA := (yZ xdrT_L, [(.arg 311, 12)], [], [], [(132, [.rem (.op2 .iushr (.add (.mul (.arg 312) (.int 1103515245)) (.int 12345)) (.int 8)) (.int 100)], .arg 500)])
def xdrT_C : List xB := [(.lt, .arg 311, .int 12, true), (.lt, .arg 4, .arg 2, true)]
def xdrT_ss : List yS := [(41, [(4, .add (.arg 4) (.int 1)), (3, .index 1000), (0, .index 0), (1, .arg 1), (2, .arg 2)], [], [(1000, .int 1, .add (.arg 311) (.int 1)), (1001, .arg 311, .arg 500), (1, .int 13, .add (.mul (.arg 312) (.int 1103515245)) (.int 12345)), (0, .int 0, .index 1), (1000, .int 0, .index 1001)], [(.lt, .arg 311, .int 12, true), (.lt, .arg 4, .arg 2, true)], [(1000, .int 1), (1001, .arg 311), (1, .int 13)])]
def xdrT_rs : List yR := []
theorem xdrT_w : ywa xdrT_A xdrT_ss xdrT_rs = true := by decide +kernel
theorem xdrT_k : yis (yev xdrT_A 3000 60 78 [41] (41, [(4, .arg 4), (3, .index 1000), (0, .index 0), (1, .arg 1), (2, .arg 2)], [], xdrT_O, xdrT_C, [])) xdrT_ss xdrT_rs = true := by decide +kernel
def xdrT_r (v1_ v2 v4_ v311 v312 v500 : Int32) (k_ : Nat) : Value := bif Nat.beq k_ 1 then .int v1_ else (bif Nat.beq k_ 2 then .int v2 else (bif Nat.beq k_ 4 then .int v4_ else (bif Nat.beq k_ 311 then .int v311 else (bif Nat.beq k_ 312 then .int v312 else (bif Nat.beq k_ 500 then .int v500 else (.int 0))))))
def xdrT_s (a1000 a1001 : Nat) (n_ : Nat) : Nat := bif Nat.beq n_ 1000 then a1000 else (bif Nat.beq n_ 1001 then a1001 else (0))
theorem xdrT {h_ : xH} {a1000 a1001 : Nat} {v1_ v2 v4_ v311 v312 v500 : Int32} (hs : sHp h_) (k1000 : bcq h_ a1000 6 2) (k1001 : bcq h_ a1001 20 12) (o0_ : bpat h_ 1 13 = some (.int v312)) (o1 : bpat h_ a1000 1 = some (.int v311)) (o2 : bpat h_ a1000 0 = some (.index a1001)) (b0 : 0 ≤ (v311).toInt ∧ (v311).toInt < 12) (p0_ : ∀ (h_ : xH) (D_ : Nat), 5 ≤ D_ → xrun D_ 132 0 [(0, .int (((((v312 * (1103515245 : Int32)) + (12345 : Int32))).toUInt32 >>> (((8 : Int32)).toUInt32 &&& Int32.toUInt32 31)).toInt32 - ((((v312 * (1103515245 : Int32)) + (12345 : Int32))).toUInt32 >>> (((8 : Int32)).toUInt32 &&& Int32.toUInt32 31)).toInt32 / (100 : Int32) * (100 : Int32)))] [] h_ (some (.int v500), h_, [])) (c0_ : v311.toInt < (12 : Int32).toInt) (c1_ : v4_.toInt < v2.toInt) : ∃ h', ysm h_ h' ∧ (((bpat h' a1000 1 = some (.int (v311 + (1 : Int32)))) ∧ (bpat h' a1001 (v311).toInt.toNat = some (.int v500)) ∧ (bpat h' 1 13 = some (.int ((v312 * (1103515245 : Int32)) + (12345 : Int32)))) ∧ (∀ a_ j_ : Nat, ¬ (a_ = a1000 ∧ j_ = 1) → ¬ (a_ = a1001 ∧ j_ = (v311).toInt.toNat) → ¬ (a_ = 1 ∧ j_ = 13) → bpat h' a_ j_ = bpat h_ a_ j_) ∧ (bldD 60 78 41 [(4, .int v4_), (3, .index a1000), (0, .index 0), (1, .int v1_), (2, .int v2)] [] h_ 41 [(4, .int (v4_ + (1 : Int32))), (3, .index a1000), (0, .index 0), (1, .int v1_), (2, .int v2)] [] h'))) := by
  have hA : yas xdrT_A (xdrT_r v1_ v2 v4_ v311 v312 v500) (yg (xdrT_s a1000 a1001)) := ⟨List.forall_mem_cons.mpr ⟨b0, fun q_ hq => absurd hq List.not_mem_nil⟩, fun q_ hq => absurd hq List.not_mem_nil, fun q_ hq => absurd hq List.not_mem_nil, fun n_ hn => yg_lo hn, List.forall_mem_cons.mpr ⟨p0_, fun q_ hq => absurd hq List.not_mem_nil⟩⟩
  have Hs : ysh xdrT_A.1 (yg (xdrT_s a1000 a1001)) h_ := ysh_of2 hs (List.forall_mem_cons.mpr ⟨⟨by decide, k1000⟩, List.forall_mem_cons.mpr ⟨⟨by decide, k1001⟩, fun q_ hq => absurd hq List.not_mem_nil⟩⟩)
  have Ho : ymem (xdrT_r v1_ v2 v4_ v311 v312 v500) (yg (xdrT_s a1000 a1001)) xdrT_O h_ := List.forall_mem_cons.mpr ⟨bpat_some (fxr_at hs.2 (show fxk fxl 0 0 = some 1 by decide +kernel)), List.forall_mem_cons.mpr ⟨bpat_some o0_, List.forall_mem_cons.mpr ⟨bpat_some o1, List.forall_mem_cons.mpr ⟨bpat_some o2, fun q_ hq => absurd hq List.not_mem_nil⟩⟩⟩⟩
  have HC : ∀ q_ ∈ xdrT_C, xhold (xdrT_r v1_ v2 v4_ v311 v312 v500) q_ := List.forall_mem_cons.mpr ⟨xh_ltT c0_, List.forall_mem_cons.mpr ⟨xh_ltT c1_, fun q_ hq => absurd hq List.not_mem_nil⟩⟩
  rcases yrun (yis_ok xdrT_k) hA Hs Ho HC with ⟨q_, hq, h', K_, G_⟩ | ⟨q_, hq, h', K_, G_⟩
  · have e_ := List.mem_singleton.mp hq
    subst e_
    exact ⟨h', yfr_sm K_.2.2.2 hs K_.1 (ywa_s xdrT_w List.mem_cons_self), ⟨bpat_of (K_.2.1 _ List.mem_cons_self), bpat_of (K_.2.1 _ (List.mem_cons_of_mem _ List.mem_cons_self)), bpat_of (K_.2.1 _ (List.mem_cons_of_mem _ (List.mem_cons_of_mem _ List.mem_cons_self))), fun a_ j_ n0_ n1_ n2_ => yfr_bp K_.2.2.2 (List.forall_mem_cons.mpr ⟨fun e_ => n0_ ⟨e_.1.symm, e_.2.symm⟩, List.forall_mem_cons.mpr ⟨fun e_ => n1_ ⟨e_.1.symm, e_.2.symm⟩, List.forall_mem_cons.mpr ⟨fun e_ => n2_ ⟨e_.1.symm, e_.2.symm⟩, fun q_ hq => absurd hq List.not_mem_nil⟩⟩⟩), G_⟩⟩
  · cases hq
-- xdrX: 5 steps, 1 ends, 0 returns
def xdrX_L : List (Nat × Nat × Nat) := [(1000, 6, 2)]
def xdrX_O : yO := []
def xdrX_A : yA := (yZ xdrX_L, [], [], [], [])
def xdrX_C : List xB := [(.lt, .arg 4, .arg 2, false)]
def xdrX_ss : List yS := [(73, [(4, .arg 4), (3, .index 1000), (0, .index 0), (1, .arg 1), (2, .arg 2)], [.index 1000, .arg 2], [], [(.lt, .arg 4, .arg 2, false)], [])]
def xdrX_rs : List yR := []
theorem xdrX_w : ywa xdrX_A xdrX_ss xdrX_rs = true := by decide +kernel
theorem xdrX_k : yis (yev xdrX_A 3000 60 78 [73] (41, [(4, .arg 4), (3, .index 1000), (0, .index 0), (1, .arg 1), (2, .arg 2)], [], xdrX_O, xdrX_C, [])) xdrX_ss xdrX_rs = true := by decide +kernel
def xdrX_r (v1_ v2 v4_ : Int32) (k_ : Nat) : Value := bif Nat.beq k_ 1 then .int v1_ else (bif Nat.beq k_ 2 then .int v2 else (bif Nat.beq k_ 4 then .int v4_ else (.int 0)))
def xdrX_s (a1000 : Nat) (n_ : Nat) : Nat := bif Nat.beq n_ 1000 then a1000 else (0)
theorem xdrX {h_ : xH} {a1000 : Nat} {v1_ v2 v4_ : Int32} (hs : sHp h_) (k1000 : bcq h_ a1000 6 2) (c0_ : v2.toInt ≤ v4_.toInt) : ∃ h', ysm h_ h' ∧ (((∀ a_ j_ : Nat, bpat h' a_ j_ = bpat h_ a_ j_) ∧ (bldD 60 78 41 [(4, .int v4_), (3, .index a1000), (0, .index 0), (1, .int v1_), (2, .int v2)] [] h_ 73 [(4, .int v4_), (3, .index a1000), (0, .index 0), (1, .int v1_), (2, .int v2)] [.index a1000, .int v2] h'))) := by
  have hA : yas xdrX_A (xdrX_r v1_ v2 v4_) (yg (xdrX_s a1000)) := ⟨fun q_ hq => absurd hq List.not_mem_nil, fun q_ hq => absurd hq List.not_mem_nil, fun q_ hq => absurd hq List.not_mem_nil, fun n_ hn => yg_lo hn, fun q_ hq => absurd hq List.not_mem_nil⟩
  have Hs : ysh xdrX_A.1 (yg (xdrX_s a1000)) h_ := ysh_of2 hs (List.forall_mem_cons.mpr ⟨⟨by decide, k1000⟩, fun q_ hq => absurd hq List.not_mem_nil⟩)
  have Ho : ymem (xdrX_r v1_ v2 v4_) (yg (xdrX_s a1000)) xdrX_O h_ := fun q_ hq => absurd hq List.not_mem_nil
  have HC : ∀ q_ ∈ xdrX_C, xhold (xdrX_r v1_ v2 v4_) q_ := List.forall_mem_cons.mpr ⟨xh_ltF c0_, fun q_ hq => absurd hq List.not_mem_nil⟩
  rcases yrun (yis_ok xdrX_k) hA Hs Ho HC with ⟨q_, hq, h', K_, G_⟩ | ⟨q_, hq, h', K_, G_⟩
  · have e_ := List.mem_singleton.mp hq
    subst e_
    exact ⟨h', yfr_sm K_.2.2.2 hs K_.1 (ywa_s xdrX_w List.mem_cons_self), ⟨fun a_ j_ => yfr_bp K_.2.2.2 (fun q_ hq => absurd hq List.not_mem_nil), G_⟩⟩
  · cases hq
-- xdrR: 2 steps, 0 ends, 1 returns
def xdrR_L : List (Nat × Nat × Nat) := [(1000, 6, 2)]
def xdrR_O : yO := []
def xdrR_A : yA := (yZ xdrR_L, [], [], [], [])
def xdrR_C : List xB := []
def xdrR_ss : List yS := []
def xdrR_rs : List yR := [(some (.sub (.arg 2) (.arg 400)), [], [], [])]
theorem xdrR_w : ywa xdrR_A xdrR_ss xdrR_rs = true := by decide +kernel
theorem xdrR_k : yis (yev xdrR_A 3000 60 78 [] (76, [(4, .arg 4), (3, .index 1000), (0, .index 0), (1, .arg 1), (2, .arg 2)], [.arg 400, .arg 2], xdrR_O, xdrR_C, [])) xdrR_ss xdrR_rs = true := by decide +kernel
def xdrR_r (v1_ v2 v4_ v400 : Int32) (k_ : Nat) : Value := bif Nat.beq k_ 1 then .int v1_ else (bif Nat.beq k_ 2 then .int v2 else (bif Nat.beq k_ 4 then .int v4_ else (bif Nat.beq k_ 400 then .int v400 else (.int 0))))
def xdrR_s (a1000 : Nat) (n_ : Nat) : Nat := bif Nat.beq n_ 1000 then a1000 else (0)
theorem xdrR {h_ : xH} {a1000 : Nat} {v1_ v2 v4_ v400 : Int32} (hs : sHp h_) (k1000 : bcq h_ a1000 6 2) : ∃ h', ysm h_ h' ∧ (((∀ a_ j_ : Nat, bpat h' a_ j_ = bpat h_ a_ j_) ∧ (∀ D_, 60 ≤ D_ → xrun D_ 78 76 [(4, .int v4_), (3, .index a1000), (0, .index 0), (1, .int v1_), (2, .int v2)] [.int v400, .int v2] h_ (some (.int (v2 - v400)), h', [])))) := by
  have hA : yas xdrR_A (xdrR_r v1_ v2 v4_ v400) (yg (xdrR_s a1000)) := ⟨fun q_ hq => absurd hq List.not_mem_nil, fun q_ hq => absurd hq List.not_mem_nil, fun q_ hq => absurd hq List.not_mem_nil, fun n_ hn => yg_lo hn, fun q_ hq => absurd hq List.not_mem_nil⟩
  have Hs : ysh xdrR_A.1 (yg (xdrR_s a1000)) h_ := ysh_of2 hs (List.forall_mem_cons.mpr ⟨⟨by decide, k1000⟩, fun q_ hq => absurd hq List.not_mem_nil⟩)
  have Ho : ymem (xdrR_r v1_ v2 v4_ v400) (yg (xdrR_s a1000)) xdrR_O h_ := fun q_ hq => absurd hq List.not_mem_nil
  have HC : ∀ q_ ∈ xdrR_C, xhold (xdrR_r v1_ v2 v4_ v400) q_ := fun q_ hq => absurd hq List.not_mem_nil
  rcases yrun (yis_ok xdrR_k) hA Hs Ho HC with ⟨q_, hq, h', K_, G_⟩ | ⟨q_, hq, h', K_, G_⟩
  · cases hq
  · have e_ := List.mem_singleton.mp hq
    subst e_
    exact ⟨h', yfr_sm K_.2.2.2 hs K_.1 (ywa_r xdrR_w List.mem_cons_self), ⟨fun a_ j_ => yfr_bp K_.2.2.2 (fun q_ hq => absurd hq List.not_mem_nil), G_⟩⟩
-- mdrE: 115 steps, 1 ends, 4 returns
def mdrE_L : List (Nat × Nat × Nat) := []
def mdrE_O : yO := [(338, .int 0, .index 339), (339, .int 0, .arg 310), (338, .int 3, .index 341), (341, .int 1, .arg 400)]
def mdrE_A : yA := (yZ mdrE_L, [], [], [], [])
def mdrE_C : List xB := []
def mdrE_ss : List yS := [(24, [(0, .index 338), (1, .arg 1), (2, .arg 2)], [], [(338, .int 0, .index 339), (339, .int 0, .arg 310), (338, .int 3, .index 341), (341, .int 1, .arg 400)], [(.le, .arg 2, .int 12, true), (.lt, .arg 2, .int 0, false), (.le, .arg 1, .sub (.arg 310) (.int 1), true), (.lt, .arg 1, .int 0, false)], [])]
def mdrE_rs : List yR := [(some (.int (Int32.ofInt (-1000001))), [(341, .int 1, .add (.arg 400) (.int 1)), (338, .int 0, .index 339), (339, .int 0, .arg 310), (338, .int 3, .index 341)], [(.lt, .arg 1, .int 0, true)], [(341, .int 1)]),
  (some (.int (Int32.ofInt (-1000001))), [(341, .int 1, .add (.arg 400) (.int 1)), (338, .int 0, .index 339), (339, .int 0, .arg 310), (338, .int 3, .index 341)], [(.le, .arg 1, .sub (.arg 310) (.int 1), false), (.lt, .arg 1, .int 0, false)], [(341, .int 1)]),
  (some (.int (Int32.ofInt (-1000001))), [(341, .int 1, .add (.arg 400) (.int 1)), (338, .int 0, .index 339), (339, .int 0, .arg 310), (338, .int 3, .index 341)], [(.lt, .arg 2, .int 0, true), (.le, .arg 1, .sub (.arg 310) (.int 1), true), (.lt, .arg 1, .int 0, false)], [(341, .int 1)]),
  (some (.int (Int32.ofInt (-1000001))), [(341, .int 1, .add (.arg 400) (.int 1)), (338, .int 0, .index 339), (339, .int 0, .arg 310), (338, .int 3, .index 341)], [(.le, .arg 2, .int 12, false), (.lt, .arg 2, .int 0, false), (.le, .arg 1, .sub (.arg 310) (.int 1), true), (.lt, .arg 1, .int 0, false)], [(341, .int 1)])]
theorem mdrE_w : ywa mdrE_A mdrE_ss mdrE_rs = true := by decide +kernel
theorem mdrE_k : yis (yev mdrE_A 3000 60 165 [24] (0, [(0, .index 338), (1, .arg 1), (2, .arg 2)], [], mdrE_O, mdrE_C, [])) mdrE_ss mdrE_rs = true := by decide +kernel
def mdrE_r (v1_ v2 v310 v400 : Int32) (k_ : Nat) : Value := bif Nat.beq k_ 1 then .int v1_ else (bif Nat.beq k_ 2 then .int v2 else (bif Nat.beq k_ 310 then .int v310 else (bif Nat.beq k_ 400 then .int v400 else (.int 0))))
def mdrE_s (n_ : Nat) : Nat := 0
theorem mdrE {h_ : xH} {v1_ v2 v310 v400 : Int32} (hs : sHp h_) (o0_ : bpat h_ 339 0 = some (.int v310)) (o1 : bpat h_ 341 1 = some (.int v400)) : ∃ h', ysm h_ h' ∧ (((v2.toInt ≤ (12 : Int32).toInt) ∧ ((0 : Int32).toInt ≤ v2.toInt) ∧ (v1_.toInt ≤ (v310 - (1 : Int32)).toInt) ∧ ((0 : Int32).toInt ≤ v1_.toInt) ∧ (∀ a_ j_ : Nat, bpat h' a_ j_ = bpat h_ a_ j_) ∧ (bldD 60 165 0 [(0, .index 338), (1, .int v1_), (2, .int v2)] [] h_ 24 [(0, .index 338), (1, .int v1_), (2, .int v2)] [] h'))
  ∨ ((v1_.toInt < (0 : Int32).toInt) ∧ (bpat h' 341 1 = some (.int (v400 + (1 : Int32)))) ∧ (∀ a_ j_ : Nat, ¬ (a_ = 341 ∧ j_ = 1) → bpat h' a_ j_ = bpat h_ a_ j_) ∧ (∀ D_, 60 ≤ D_ → xrun D_ 165 0 [(0, .index 338), (1, .int v1_), (2, .int v2)] [] h_ (some (.int (Int32.ofInt (-1000001))), h', [])))
  ∨ (((v310 - (1 : Int32)).toInt < v1_.toInt) ∧ ((0 : Int32).toInt ≤ v1_.toInt) ∧ (bpat h' 341 1 = some (.int (v400 + (1 : Int32)))) ∧ (∀ a_ j_ : Nat, ¬ (a_ = 341 ∧ j_ = 1) → bpat h' a_ j_ = bpat h_ a_ j_) ∧ (∀ D_, 60 ≤ D_ → xrun D_ 165 0 [(0, .index 338), (1, .int v1_), (2, .int v2)] [] h_ (some (.int (Int32.ofInt (-1000001))), h', [])))
  ∨ ((v2.toInt < (0 : Int32).toInt) ∧ (v1_.toInt ≤ (v310 - (1 : Int32)).toInt) ∧ ((0 : Int32).toInt ≤ v1_.toInt) ∧ (bpat h' 341 1 = some (.int (v400 + (1 : Int32)))) ∧ (∀ a_ j_ : Nat, ¬ (a_ = 341 ∧ j_ = 1) → bpat h' a_ j_ = bpat h_ a_ j_) ∧ (∀ D_, 60 ≤ D_ → xrun D_ 165 0 [(0, .index 338), (1, .int v1_), (2, .int v2)] [] h_ (some (.int (Int32.ofInt (-1000001))), h', [])))
  ∨ (((12 : Int32).toInt < v2.toInt) ∧ ((0 : Int32).toInt ≤ v2.toInt) ∧ (v1_.toInt ≤ (v310 - (1 : Int32)).toInt) ∧ ((0 : Int32).toInt ≤ v1_.toInt) ∧ (bpat h' 341 1 = some (.int (v400 + (1 : Int32)))) ∧ (∀ a_ j_ : Nat, ¬ (a_ = 341 ∧ j_ = 1) → bpat h' a_ j_ = bpat h_ a_ j_) ∧ (∀ D_, 60 ≤ D_ → xrun D_ 165 0 [(0, .index 338), (1, .int v1_), (2, .int v2)] [] h_ (some (.int (Int32.ofInt (-1000001))), h', [])))) := by
  have hA : yas mdrE_A (mdrE_r v1_ v2 v310 v400) (yg mdrE_s) := ⟨fun q_ hq => absurd hq List.not_mem_nil, fun q_ hq => absurd hq List.not_mem_nil, fun q_ hq => absurd hq List.not_mem_nil, fun n_ hn => yg_lo hn, fun q_ hq => absurd hq List.not_mem_nil⟩
  have Hs : ysh mdrE_A.1 (yg mdrE_s) h_ := ysh_of2 hs (fun q_ hq => absurd hq List.not_mem_nil)
  have Ho : ymem (mdrE_r v1_ v2 v310 v400) (yg mdrE_s) mdrE_O h_ := List.forall_mem_cons.mpr ⟨bpat_some (fxr_at hs.2 (show fxk fxl 338 0 = some 339 by decide +kernel)), List.forall_mem_cons.mpr ⟨bpat_some o0_, List.forall_mem_cons.mpr ⟨bpat_some (fxr_at hs.2 (show fxk fxl 338 3 = some 341 by decide +kernel)), List.forall_mem_cons.mpr ⟨bpat_some o1, fun q_ hq => absurd hq List.not_mem_nil⟩⟩⟩⟩
  have HC : ∀ q_ ∈ mdrE_C, xhold (mdrE_r v1_ v2 v310 v400) q_ := fun q_ hq => absurd hq List.not_mem_nil
  rcases yrun (yis_ok mdrE_k) hA Hs Ho HC with ⟨q_, hq, h', K_, G_⟩ | ⟨q_, hq, h', K_, G_⟩
  · have e_ := List.mem_singleton.mp hq
    subst e_
    exact ⟨h', yfr_sm K_.2.2.2 hs K_.1 (ywa_s mdrE_w List.mem_cons_self), Or.inl (⟨xq_leT rfl rfl (K_.2.2.1 _ List.mem_cons_self), xq_ltF rfl rfl (K_.2.2.1 _ (List.mem_cons_of_mem _ List.mem_cons_self)), xq_leT rfl (yv_sub2 rfl rfl) (K_.2.2.1 _ (List.mem_cons_of_mem _ (List.mem_cons_of_mem _ List.mem_cons_self))), xq_ltF rfl rfl (K_.2.2.1 _ (List.mem_cons_of_mem _ (List.mem_cons_of_mem _ (List.mem_cons_of_mem _ List.mem_cons_self)))), fun a_ j_ => yfr_bp K_.2.2.2 (fun q_ hq => absurd hq List.not_mem_nil), G_⟩)⟩
  · rcases List.mem_cons.mp hq with e_ | hq
    · subst e_
      exact ⟨h', yfr_sm K_.2.2.2 hs K_.1 (ywa_r mdrE_w List.mem_cons_self), Or.inr (Or.inl (⟨xq_ltT rfl rfl (K_.2.2.1 _ List.mem_cons_self), bpat_of (K_.2.1 _ List.mem_cons_self), fun a_ j_ n0_ => yfr_bp K_.2.2.2 (List.forall_mem_cons.mpr ⟨fun e_ => n0_ ⟨e_.1.symm, e_.2.symm⟩, fun q_ hq => absurd hq List.not_mem_nil⟩), G_⟩))⟩
    rcases List.mem_cons.mp hq with e_ | hq
    · subst e_
      exact ⟨h', yfr_sm K_.2.2.2 hs K_.1 (ywa_r mdrE_w (List.mem_cons_of_mem _ List.mem_cons_self)), Or.inr (Or.inr (Or.inl (⟨xq_leF rfl (yv_sub2 rfl rfl) (K_.2.2.1 _ List.mem_cons_self), xq_ltF rfl rfl (K_.2.2.1 _ (List.mem_cons_of_mem _ List.mem_cons_self)), bpat_of (K_.2.1 _ List.mem_cons_self), fun a_ j_ n0_ => yfr_bp K_.2.2.2 (List.forall_mem_cons.mpr ⟨fun e_ => n0_ ⟨e_.1.symm, e_.2.symm⟩, fun q_ hq => absurd hq List.not_mem_nil⟩), G_⟩)))⟩
    rcases List.mem_cons.mp hq with e_ | hq
    · subst e_
      exact ⟨h', yfr_sm K_.2.2.2 hs K_.1 (ywa_r mdrE_w (List.mem_cons_of_mem _ (List.mem_cons_of_mem _ List.mem_cons_self))), Or.inr (Or.inr (Or.inr (Or.inl (⟨xq_ltT rfl rfl (K_.2.2.1 _ List.mem_cons_self), xq_leT rfl (yv_sub2 rfl rfl) (K_.2.2.1 _ (List.mem_cons_of_mem _ List.mem_cons_self)), xq_ltF rfl rfl (K_.2.2.1 _ (List.mem_cons_of_mem _ (List.mem_cons_of_mem _ List.mem_cons_self))), bpat_of (K_.2.1 _ List.mem_cons_self), fun a_ j_ n0_ => yfr_bp K_.2.2.2 (List.forall_mem_cons.mpr ⟨fun e_ => n0_ ⟨e_.1.symm, e_.2.symm⟩, fun q_ hq => absurd hq List.not_mem_nil⟩), G_⟩))))⟩
    have e_ := List.mem_singleton.mp hq
    subst e_
    exact ⟨h', yfr_sm K_.2.2.2 hs K_.1 (ywa_r mdrE_w (List.mem_cons_of_mem _ (List.mem_cons_of_mem _ (List.mem_cons_of_mem _ List.mem_cons_self)))), Or.inr (Or.inr (Or.inr (Or.inr (⟨xq_leF rfl rfl (K_.2.2.1 _ List.mem_cons_self), xq_ltF rfl rfl (K_.2.2.1 _ (List.mem_cons_of_mem _ List.mem_cons_self)), xq_leT rfl (yv_sub2 rfl rfl) (K_.2.2.1 _ (List.mem_cons_of_mem _ (List.mem_cons_of_mem _ List.mem_cons_self))), xq_ltF rfl rfl (K_.2.2.1 _ (List.mem_cons_of_mem _ (List.mem_cons_of_mem _ (List.mem_cons_of_mem _ List.mem_cons_self)))), bpat_of (K_.2.1 _ List.mem_cons_self), fun a_ j_ n0_ => yfr_bp K_.2.2.2 (List.forall_mem_cons.mpr ⟨fun e_ => n0_ ⟨e_.1.symm, e_.2.symm⟩, fun q_ hq => absurd hq List.not_mem_nil⟩), G_⟩))))⟩
-- mdrO: 13 steps, 1 ends, 0 returns
def mdrO_L : List (Nat × Nat × Nat) := []
def mdrO_O : yO := [(338, .int 0, .index 339)]
def mdrO_A : yA := (yZ mdrO_L, [(.add (.int 34) (.mul (.int 13) (.arg 1)), 768)], [], [], [])
def mdrO_C : List xB := []
def mdrO_ss : List yS := [(42, [(4, .int 1), (3, .int 0), (0, .index 338), (1, .arg 1), (2, .arg 2)], [], [(339, .add (.int 34) (.mul (.int 13) (.arg 1)), .arg 2), (338, .int 0, .index 339)], [], [(339, .add (.int 34) (.mul (.int 13) (.arg 1)))])]
def mdrO_rs : List yR := []
theorem mdrO_w : ywa mdrO_A mdrO_ss mdrO_rs = true := by decide +kernel
theorem mdrO_k : yis (yev mdrO_A 3000 60 165 [42] (24, [(0, .index 338), (1, .arg 1), (2, .arg 2)], [], mdrO_O, mdrO_C, [])) mdrO_ss mdrO_rs = true := by decide +kernel
def mdrO_r (v1_ v2 : Int32) (k_ : Nat) : Value := bif Nat.beq k_ 1 then .int v1_ else (bif Nat.beq k_ 2 then .int v2 else (.int 0))
def mdrO_s (n_ : Nat) : Nat := 0
theorem mdrO {h_ : xH} {v1_ v2 : Int32} (hs : sHp h_) (b0 : 0 ≤ (((34 : Int32) + ((13 : Int32) * v1_))).toInt ∧ (((34 : Int32) + ((13 : Int32) * v1_))).toInt < 768) : ∃ h', ysm h_ h' ∧ (((bpat h' 339 (((34 : Int32) + ((13 : Int32) * v1_))).toInt.toNat = some (.int v2)) ∧ (∀ a_ j_ : Nat, ¬ (a_ = 339 ∧ j_ = (((34 : Int32) + ((13 : Int32) * v1_))).toInt.toNat) → bpat h' a_ j_ = bpat h_ a_ j_) ∧ (bldD 60 165 24 [(0, .index 338), (1, .int v1_), (2, .int v2)] [] h_ 42 [(4, .int (1 : Int32)), (3, .int (0 : Int32)), (0, .index 338), (1, .int v1_), (2, .int v2)] [] h'))) := by
  have hA : yas mdrO_A (mdrO_r v1_ v2) (yg mdrO_s) := ⟨List.forall_mem_cons.mpr ⟨b0, fun q_ hq => absurd hq List.not_mem_nil⟩, fun q_ hq => absurd hq List.not_mem_nil, fun q_ hq => absurd hq List.not_mem_nil, fun n_ hn => yg_lo hn, fun q_ hq => absurd hq List.not_mem_nil⟩
  have Hs : ysh mdrO_A.1 (yg mdrO_s) h_ := ysh_of2 hs (fun q_ hq => absurd hq List.not_mem_nil)
  have Ho : ymem (mdrO_r v1_ v2) (yg mdrO_s) mdrO_O h_ := List.forall_mem_cons.mpr ⟨bpat_some (fxr_at hs.2 (show fxk fxl 338 0 = some 339 by decide +kernel)), fun q_ hq => absurd hq List.not_mem_nil⟩
  have HC : ∀ q_ ∈ mdrO_C, xhold (mdrO_r v1_ v2) q_ := fun q_ hq => absurd hq List.not_mem_nil
  rcases yrun (yis_ok mdrO_k) hA Hs Ho HC with ⟨q_, hq, h', K_, G_⟩ | ⟨q_, hq, h', K_, G_⟩
  · have e_ := List.mem_singleton.mp hq
    subst e_
    exact ⟨h', yfr_sm K_.2.2.2 hs K_.1 (ywa_s mdrO_w List.mem_cons_self), ⟨bpat_of (K_.2.1 _ List.mem_cons_self), fun a_ j_ n0_ => yfr_bp K_.2.2.2 (List.forall_mem_cons.mpr ⟨fun e_ => n0_ ⟨e_.1.symm, e_.2.symm⟩, fun q_ hq => absurd hq List.not_mem_nil⟩), G_⟩⟩
  · cases hq
-- mdrT: 89 steps, 4 ends, 0 returns
def mdrT_L : List (Nat × Nat × Nat) := []
def mdrT_O : yO := [(338, .int 0, .index 339), (339, .int 8, .arg 312)]
def mdrT_A : yA := (yZ mdrT_L, [(.add (.add (.int 34) (.mul (.int 13) (.arg 1))) (.arg 4), 768)], [(.add (.add (.int 34) (.mul (.int 13) (.arg 1))) (.arg 4), .int 8)], [], [(142, [.rem (.op2 .iushr (.add (.mul (.arg 312) (.int 1103515245)) (.int 12345)) (.int 8)) (.int 100)], .arg 500), (143, [.rem (.op2 .iushr (.add (.mul (.arg 312) (.int 1103515245)) (.int 12345)) (.int 8)) (.int 100)], .arg 501), (143, [.int 60], .arg 502)])
def mdrT_C : List xB := [(.le, .arg 4, .arg 2, true)]
def mdrT_ss : List yS := [(42, [(4, .add (.arg 4) (.int 1)), (3, .add (.arg 3) (.int 0)), (5, .int 60), (0, .index 338), (1, .arg 1), (2, .arg 2)], [], [(339, .add (.add (.int 34) (.mul (.int 13) (.arg 1))) (.arg 4), .int 60), (339, .int 8, .add (.mul (.arg 312) (.int 1103515245)) (.int 12345)), (338, .int 0, .index 339)], [(.eq, .arg 502, .int 60, false), (.eq, .arg 500, .int 0, true), (.le, .arg 4, .arg 2, true)], [(339, .add (.add (.int 34) (.mul (.int 13) (.arg 1))) (.arg 4)), (339, .int 8)]),
  (42, [(4, .add (.arg 4) (.int 1)), (3, .add (.arg 3) (.int 1)), (5, .int 60), (0, .index 338), (1, .arg 1), (2, .arg 2)], [], [(339, .add (.add (.int 34) (.mul (.int 13) (.arg 1))) (.arg 4), .int 60), (339, .int 8, .add (.mul (.arg 312) (.int 1103515245)) (.int 12345)), (338, .int 0, .index 339)], [(.eq, .arg 502, .int 60, true), (.eq, .arg 500, .int 0, true), (.le, .arg 4, .arg 2, true)], [(339, .add (.add (.int 34) (.mul (.int 13) (.arg 1))) (.arg 4)), (339, .int 8)]),
  (42, [(4, .add (.arg 4) (.int 1)), (3, .add (.arg 3) (.int 0)), (5, .rem (.op2 .iushr (.add (.mul (.arg 312) (.int 1103515245)) (.int 12345)) (.int 8)) (.int 100)), (0, .index 338), (1, .arg 1), (2, .arg 2)], [], [(339, .add (.add (.int 34) (.mul (.int 13) (.arg 1))) (.arg 4), .rem (.op2 .iushr (.add (.mul (.arg 312) (.int 1103515245)) (.int 12345)) (.int 8)) (.int 100)), (339, .int 8, .add (.mul (.arg 312) (.int 1103515245)) (.int 12345)), (338, .int 0, .index 339)], [(.eq, .arg 501, .rem (.op2 .iushr (.add (.mul (.arg 312) (.int 1103515245)) (.int 12345)) (.int 8)) (.int 100), false), (.eq, .arg 500, .int 0, false), (.le, .arg 4, .arg 2, true)], [(339, .add (.add (.int 34) (.mul (.int 13) (.arg 1))) (.arg 4)), (339, .int 8)]),
  (42, [(4, .add (.arg 4) (.int 1)), (3, .add (.arg 3) (.int 1)), (5, .rem (.op2 .iushr (.add (.mul (.arg 312) (.int 1103515245)) (.int 12345)) (.int 8)) (.int 100)), (0, .index 338), (1, .arg 1), (2, .arg 2)], [], [(339, .add (.add (.int 34) (.mul (.int 13) (.arg 1))) (.arg 4), .rem (.op2 .iushr (.add (.mul (.arg 312) (.int 1103515245)) (.int 12345)) (.int 8)) (.int 100)), (339, .int 8, .add (.mul (.arg 312) (.int 1103515245)) (.int 12345)), (338, .int 0, .index 339)], [(.eq, .arg 501, .rem (.op2 .iushr (.add (.mul (.arg 312) (.int 1103515245)) (.int 12345)) (.int 8)) (.int 100), true), (.eq, .arg 500, .int 0, false), (.le, .arg 4, .arg 2, true)], [(339, .add (.add (.int 34) (.mul (.int 13) (.arg 1))) (.arg 4)), (339, .int 8)])]
def mdrT_rs : List yR := []
theorem mdrT_w : ywa mdrT_A mdrT_ss mdrT_rs = true := by decide +kernel
theorem mdrT_k : yis (yev mdrT_A 3000 60 165 [42] (42, [(4, .arg 4), (3, .arg 3), (5, .arg 5), (0, .index 338), (1, .arg 1), (2, .arg 2)], [], mdrT_O, mdrT_C, [])) mdrT_ss mdrT_rs = true := by decide +kernel
def mdrT_r (v1_ v2 v3 v4_ v5 v312 v500 v501 v502 : Int32) (k_ : Nat) : Value := bif Nat.beq k_ 1 then .int v1_ else (bif Nat.beq k_ 2 then .int v2 else (bif Nat.beq k_ 3 then .int v3 else (bif Nat.beq k_ 4 then .int v4_ else (bif Nat.beq k_ 5 then .int v5 else (bif Nat.beq k_ 312 then .int v312 else (bif Nat.beq k_ 500 then .int v500 else (bif Nat.beq k_ 501 then .int v501 else (bif Nat.beq k_ 502 then .int v502 else (.int 0)))))))))
def mdrT_s (n_ : Nat) : Nat := 0
theorem mdrT {h_ : xH} {v1_ v2 v3 v4_ v5 v312 v500 v501 v502 : Int32} (hs : sHp h_) (o0_ : bpat h_ 339 8 = some (.int v312)) (b0 : 0 ≤ ((((34 : Int32) + ((13 : Int32) * v1_)) + v4_)).toInt ∧ ((((34 : Int32) + ((13 : Int32) * v1_)) + v4_)).toInt < 768) (x0_ : ¬ ((((34 : Int32) + ((13 : Int32) * v1_)) + v4_)).toInt.toNat = 8) (p0_ : ∀ (h_ : xH) (D_ : Nat), 5 ≤ D_ → xrun D_ 142 0 [(0, .int (((((v312 * (1103515245 : Int32)) + (12345 : Int32))).toUInt32 >>> (((8 : Int32)).toUInt32 &&& Int32.toUInt32 31)).toInt32 - ((((v312 * (1103515245 : Int32)) + (12345 : Int32))).toUInt32 >>> (((8 : Int32)).toUInt32 &&& Int32.toUInt32 31)).toInt32 / (100 : Int32) * (100 : Int32)))] [] h_ (some (.int v500), h_, [])) (p1_ : ∀ (h_ : xH) (D_ : Nat), 5 ≤ D_ → xrun D_ 143 0 [(0, .int (((((v312 * (1103515245 : Int32)) + (12345 : Int32))).toUInt32 >>> (((8 : Int32)).toUInt32 &&& Int32.toUInt32 31)).toInt32 - ((((v312 * (1103515245 : Int32)) + (12345 : Int32))).toUInt32 >>> (((8 : Int32)).toUInt32 &&& Int32.toUInt32 31)).toInt32 / (100 : Int32) * (100 : Int32)))] [] h_ (some (.int v501), h_, [])) (p2_ : ∀ (h_ : xH) (D_ : Nat), 5 ≤ D_ → xrun D_ 143 0 [(0, .int (60 : Int32))] [] h_ (some (.int v502), h_, [])) (c0_ : v4_.toInt ≤ v2.toInt) : ∃ h', ysm h_ h' ∧ (((¬ v502 = (60 : Int32)) ∧ (v500 = (0 : Int32)) ∧ (bpat h' 339 ((((34 : Int32) + ((13 : Int32) * v1_)) + v4_)).toInt.toNat = some (.int (60 : Int32))) ∧ (bpat h' 339 8 = some (.int ((v312 * (1103515245 : Int32)) + (12345 : Int32)))) ∧ (∀ a_ j_ : Nat, ¬ (a_ = 339 ∧ j_ = ((((34 : Int32) + ((13 : Int32) * v1_)) + v4_)).toInt.toNat) → ¬ (a_ = 339 ∧ j_ = 8) → bpat h' a_ j_ = bpat h_ a_ j_) ∧ (bldD 60 165 42 [(4, .int v4_), (3, .int v3), (5, .int v5), (0, .index 338), (1, .int v1_), (2, .int v2)] [] h_ 42 [(4, .int (v4_ + (1 : Int32))), (3, .int (v3 + (0 : Int32))), (5, .int (60 : Int32)), (0, .index 338), (1, .int v1_), (2, .int v2)] [] h'))
  ∨ ((v502 = (60 : Int32)) ∧ (v500 = (0 : Int32)) ∧ (bpat h' 339 ((((34 : Int32) + ((13 : Int32) * v1_)) + v4_)).toInt.toNat = some (.int (60 : Int32))) ∧ (bpat h' 339 8 = some (.int ((v312 * (1103515245 : Int32)) + (12345 : Int32)))) ∧ (∀ a_ j_ : Nat, ¬ (a_ = 339 ∧ j_ = ((((34 : Int32) + ((13 : Int32) * v1_)) + v4_)).toInt.toNat) → ¬ (a_ = 339 ∧ j_ = 8) → bpat h' a_ j_ = bpat h_ a_ j_) ∧ (bldD 60 165 42 [(4, .int v4_), (3, .int v3), (5, .int v5), (0, .index 338), (1, .int v1_), (2, .int v2)] [] h_ 42 [(4, .int (v4_ + (1 : Int32))), (3, .int (v3 + (1 : Int32))), (5, .int (60 : Int32)), (0, .index 338), (1, .int v1_), (2, .int v2)] [] h'))
  ∨ ((¬ v501 = (((((v312 * (1103515245 : Int32)) + (12345 : Int32))).toUInt32 >>> (((8 : Int32)).toUInt32 &&& Int32.toUInt32 31)).toInt32 - ((((v312 * (1103515245 : Int32)) + (12345 : Int32))).toUInt32 >>> (((8 : Int32)).toUInt32 &&& Int32.toUInt32 31)).toInt32 / (100 : Int32) * (100 : Int32))) ∧ (¬ v500 = (0 : Int32)) ∧ (bpat h' 339 ((((34 : Int32) + ((13 : Int32) * v1_)) + v4_)).toInt.toNat = some (.int (((((v312 * (1103515245 : Int32)) + (12345 : Int32))).toUInt32 >>> (((8 : Int32)).toUInt32 &&& Int32.toUInt32 31)).toInt32 - ((((v312 * (1103515245 : Int32)) + (12345 : Int32))).toUInt32 >>> (((8 : Int32)).toUInt32 &&& Int32.toUInt32 31)).toInt32 / (100 : Int32) * (100 : Int32)))) ∧ (bpat h' 339 8 = some (.int ((v312 * (1103515245 : Int32)) + (12345 : Int32)))) ∧ (∀ a_ j_ : Nat, ¬ (a_ = 339 ∧ j_ = ((((34 : Int32) + ((13 : Int32) * v1_)) + v4_)).toInt.toNat) → ¬ (a_ = 339 ∧ j_ = 8) → bpat h' a_ j_ = bpat h_ a_ j_) ∧ (bldD 60 165 42 [(4, .int v4_), (3, .int v3), (5, .int v5), (0, .index 338), (1, .int v1_), (2, .int v2)] [] h_ 42 [(4, .int (v4_ + (1 : Int32))), (3, .int (v3 + (0 : Int32))), (5, .int (((((v312 * (1103515245 : Int32)) + (12345 : Int32))).toUInt32 >>> (((8 : Int32)).toUInt32 &&& Int32.toUInt32 31)).toInt32 - ((((v312 * (1103515245 : Int32)) + (12345 : Int32))).toUInt32 >>> (((8 : Int32)).toUInt32 &&& Int32.toUInt32 31)).toInt32 / (100 : Int32) * (100 : Int32))), (0, .index 338), (1, .int v1_), (2, .int v2)] [] h'))
  ∨ ((v501 = (((((v312 * (1103515245 : Int32)) + (12345 : Int32))).toUInt32 >>> (((8 : Int32)).toUInt32 &&& Int32.toUInt32 31)).toInt32 - ((((v312 * (1103515245 : Int32)) + (12345 : Int32))).toUInt32 >>> (((8 : Int32)).toUInt32 &&& Int32.toUInt32 31)).toInt32 / (100 : Int32) * (100 : Int32))) ∧ (¬ v500 = (0 : Int32)) ∧ (bpat h' 339 ((((34 : Int32) + ((13 : Int32) * v1_)) + v4_)).toInt.toNat = some (.int (((((v312 * (1103515245 : Int32)) + (12345 : Int32))).toUInt32 >>> (((8 : Int32)).toUInt32 &&& Int32.toUInt32 31)).toInt32 - ((((v312 * (1103515245 : Int32)) + (12345 : Int32))).toUInt32 >>> (((8 : Int32)).toUInt32 &&& Int32.toUInt32 31)).toInt32 / (100 : Int32) * (100 : Int32)))) ∧ (bpat h' 339 8 = some (.int ((v312 * (1103515245 : Int32)) + (12345 : Int32)))) ∧ (∀ a_ j_ : Nat, ¬ (a_ = 339 ∧ j_ = ((((34 : Int32) + ((13 : Int32) * v1_)) + v4_)).toInt.toNat) → ¬ (a_ = 339 ∧ j_ = 8) → bpat h' a_ j_ = bpat h_ a_ j_) ∧ (bldD 60 165 42 [(4, .int v4_), (3, .int v3), (5, .int v5), (0, .index 338), (1, .int v1_), (2, .int v2)] [] h_ 42 [(4, .int (v4_ + (1 : Int32))), (3, .int (v3 + (1 : Int32))), (5, .int (((((v312 * (1103515245 : Int32)) + (12345 : Int32))).toUInt32 >>> (((8 : Int32)).toUInt32 &&& Int32.toUInt32 31)).toInt32 - ((((v312 * (1103515245 : Int32)) + (12345 : Int32))).toUInt32 >>> (((8 : Int32)).toUInt32 &&& Int32.toUInt32 31)).toInt32 / (100 : Int32) * (100 : Int32))), (0, .index 338), (1, .int v1_), (2, .int v2)] [] h'))) := by
  have hA : yas mdrT_A (mdrT_r v1_ v2 v3 v4_ v5 v312 v500 v501 v502) (yg mdrT_s) := ⟨List.forall_mem_cons.mpr ⟨b0, fun q_ hq => absurd hq List.not_mem_nil⟩, List.forall_mem_cons.mpr ⟨x0_, fun q_ hq => absurd hq List.not_mem_nil⟩, fun q_ hq => absurd hq List.not_mem_nil, fun n_ hn => yg_lo hn, List.forall_mem_cons.mpr ⟨p0_, List.forall_mem_cons.mpr ⟨p1_, List.forall_mem_cons.mpr ⟨p2_, fun q_ hq => absurd hq List.not_mem_nil⟩⟩⟩⟩
  have Hs : ysh mdrT_A.1 (yg mdrT_s) h_ := ysh_of2 hs (fun q_ hq => absurd hq List.not_mem_nil)
  have Ho : ymem (mdrT_r v1_ v2 v3 v4_ v5 v312 v500 v501 v502) (yg mdrT_s) mdrT_O h_ := List.forall_mem_cons.mpr ⟨bpat_some (fxr_at hs.2 (show fxk fxl 338 0 = some 339 by decide +kernel)), List.forall_mem_cons.mpr ⟨bpat_some o0_, fun q_ hq => absurd hq List.not_mem_nil⟩⟩
  have HC : ∀ q_ ∈ mdrT_C, xhold (mdrT_r v1_ v2 v3 v4_ v5 v312 v500 v501 v502) q_ := List.forall_mem_cons.mpr ⟨xh_leT c0_, fun q_ hq => absurd hq List.not_mem_nil⟩
  rcases yrun (yis_ok mdrT_k) hA Hs Ho HC with ⟨q_, hq, h', K_, G_⟩ | ⟨q_, hq, h', K_, G_⟩
  · rcases List.mem_cons.mp hq with e_ | hq
    · subst e_
      exact ⟨h', yfr_sm K_.2.2.2 hs K_.1 (ywa_s mdrT_w List.mem_cons_self), Or.inl (⟨xq_eqF rfl rfl (K_.2.2.1 _ List.mem_cons_self), xq_eqT rfl rfl (K_.2.2.1 _ (List.mem_cons_of_mem _ List.mem_cons_self)), bpat_of (K_.2.1 _ List.mem_cons_self), bpat_of (K_.2.1 _ (List.mem_cons_of_mem _ List.mem_cons_self)), fun a_ j_ n0_ n1_ => yfr_bp K_.2.2.2 (List.forall_mem_cons.mpr ⟨fun e_ => n0_ ⟨e_.1.symm, e_.2.symm⟩, List.forall_mem_cons.mpr ⟨fun e_ => n1_ ⟨e_.1.symm, e_.2.symm⟩, fun q_ hq => absurd hq List.not_mem_nil⟩⟩), G_⟩)⟩
    rcases List.mem_cons.mp hq with e_ | hq
    · subst e_
      exact ⟨h', yfr_sm K_.2.2.2 hs K_.1 (ywa_s mdrT_w (List.mem_cons_of_mem _ List.mem_cons_self)), Or.inr (Or.inl (⟨xq_eqT rfl rfl (K_.2.2.1 _ List.mem_cons_self), xq_eqT rfl rfl (K_.2.2.1 _ (List.mem_cons_of_mem _ List.mem_cons_self)), bpat_of (K_.2.1 _ List.mem_cons_self), bpat_of (K_.2.1 _ (List.mem_cons_of_mem _ List.mem_cons_self)), fun a_ j_ n0_ n1_ => yfr_bp K_.2.2.2 (List.forall_mem_cons.mpr ⟨fun e_ => n0_ ⟨e_.1.symm, e_.2.symm⟩, List.forall_mem_cons.mpr ⟨fun e_ => n1_ ⟨e_.1.symm, e_.2.symm⟩, fun q_ hq => absurd hq List.not_mem_nil⟩⟩), G_⟩))⟩
    rcases List.mem_cons.mp hq with e_ | hq
    · subst e_
      exact ⟨h', yfr_sm K_.2.2.2 hs K_.1 (ywa_s mdrT_w (List.mem_cons_of_mem _ (List.mem_cons_of_mem _ List.mem_cons_self))), Or.inr (Or.inr (Or.inl (⟨xq_eqF rfl rfl (K_.2.2.1 _ List.mem_cons_self), xq_eqF rfl rfl (K_.2.2.1 _ (List.mem_cons_of_mem _ List.mem_cons_self)), bpat_of (K_.2.1 _ List.mem_cons_self), bpat_of (K_.2.1 _ (List.mem_cons_of_mem _ List.mem_cons_self)), fun a_ j_ n0_ n1_ => yfr_bp K_.2.2.2 (List.forall_mem_cons.mpr ⟨fun e_ => n0_ ⟨e_.1.symm, e_.2.symm⟩, List.forall_mem_cons.mpr ⟨fun e_ => n1_ ⟨e_.1.symm, e_.2.symm⟩, fun q_ hq => absurd hq List.not_mem_nil⟩⟩), G_⟩)))⟩
    have e_ := List.mem_singleton.mp hq
    subst e_
    exact ⟨h', yfr_sm K_.2.2.2 hs K_.1 (ywa_s mdrT_w (List.mem_cons_of_mem _ (List.mem_cons_of_mem _ (List.mem_cons_of_mem _ List.mem_cons_self)))), Or.inr (Or.inr (Or.inr (⟨xq_eqT rfl rfl (K_.2.2.1 _ List.mem_cons_self), xq_eqF rfl rfl (K_.2.2.1 _ (List.mem_cons_of_mem _ List.mem_cons_self)), bpat_of (K_.2.1 _ List.mem_cons_self), bpat_of (K_.2.1 _ (List.mem_cons_of_mem _ List.mem_cons_self)), fun a_ j_ n0_ n1_ => yfr_bp K_.2.2.2 (List.forall_mem_cons.mpr ⟨fun e_ => n0_ ⟨e_.1.symm, e_.2.symm⟩, List.forall_mem_cons.mpr ⟨fun e_ => n1_ ⟨e_.1.symm, e_.2.symm⟩, fun q_ hq => absurd hq List.not_mem_nil⟩⟩), G_⟩)))⟩
  · cases hq
-- mdrS: 89 steps, 4 ends, 0 returns
def mdrS_L : List (Nat × Nat × Nat) := []
def mdrS_O : yO := [(338, .int 0, .index 339), (339, .int 8, .arg 312)]
def mdrS_A : yA := (yZ mdrS_L, [(.add (.add (.int 34) (.mul (.int 13) (.arg 1))) (.arg 4), 768)], [(.add (.add (.int 34) (.mul (.int 13) (.arg 1))) (.arg 4), .int 8)], [], [(142, [.rem (.op2 .iushr (.add (.mul (.arg 312) (.int 1103515245)) (.int 12345)) (.int 8)) (.int 100)], .arg 500), (143, [.rem (.op2 .iushr (.add (.mul (.arg 312) (.int 1103515245)) (.int 12345)) (.int 8)) (.int 100)], .arg 501), (143, [.int 60], .arg 502)])
def mdrS_C : List xB := [(.le, .arg 4, .arg 2, true)]
def mdrS_ss : List yS := [(42, [(4, .add (.arg 4) (.int 1)), (3, .add (.arg 3) (.int 0)), (5, .int 60), (0, .index 338), (1, .arg 1), (2, .arg 2)], [], [(339, .add (.add (.int 34) (.mul (.int 13) (.arg 1))) (.arg 4), .int 60), (339, .int 8, .add (.mul (.arg 312) (.int 1103515245)) (.int 12345)), (338, .int 0, .index 339)], [(.eq, .arg 502, .int 60, false), (.eq, .arg 500, .int 0, true), (.le, .arg 4, .arg 2, true)], [(339, .add (.add (.int 34) (.mul (.int 13) (.arg 1))) (.arg 4)), (339, .int 8)]),
  (42, [(4, .add (.arg 4) (.int 1)), (3, .add (.arg 3) (.int 1)), (5, .int 60), (0, .index 338), (1, .arg 1), (2, .arg 2)], [], [(339, .add (.add (.int 34) (.mul (.int 13) (.arg 1))) (.arg 4), .int 60), (339, .int 8, .add (.mul (.arg 312) (.int 1103515245)) (.int 12345)), (338, .int 0, .index 339)], [(.eq, .arg 502, .int 60, true), (.eq, .arg 500, .int 0, true), (.le, .arg 4, .arg 2, true)], [(339, .add (.add (.int 34) (.mul (.int 13) (.arg 1))) (.arg 4)), (339, .int 8)]),
  (42, [(4, .add (.arg 4) (.int 1)), (3, .add (.arg 3) (.int 0)), (5, .rem (.op2 .iushr (.add (.mul (.arg 312) (.int 1103515245)) (.int 12345)) (.int 8)) (.int 100)), (0, .index 338), (1, .arg 1), (2, .arg 2)], [], [(339, .add (.add (.int 34) (.mul (.int 13) (.arg 1))) (.arg 4), .rem (.op2 .iushr (.add (.mul (.arg 312) (.int 1103515245)) (.int 12345)) (.int 8)) (.int 100)), (339, .int 8, .add (.mul (.arg 312) (.int 1103515245)) (.int 12345)), (338, .int 0, .index 339)], [(.eq, .arg 501, .rem (.op2 .iushr (.add (.mul (.arg 312) (.int 1103515245)) (.int 12345)) (.int 8)) (.int 100), false), (.eq, .arg 500, .int 0, false), (.le, .arg 4, .arg 2, true)], [(339, .add (.add (.int 34) (.mul (.int 13) (.arg 1))) (.arg 4)), (339, .int 8)]),
  (42, [(4, .add (.arg 4) (.int 1)), (3, .add (.arg 3) (.int 1)), (5, .rem (.op2 .iushr (.add (.mul (.arg 312) (.int 1103515245)) (.int 12345)) (.int 8)) (.int 100)), (0, .index 338), (1, .arg 1), (2, .arg 2)], [], [(339, .add (.add (.int 34) (.mul (.int 13) (.arg 1))) (.arg 4), .rem (.op2 .iushr (.add (.mul (.arg 312) (.int 1103515245)) (.int 12345)) (.int 8)) (.int 100)), (339, .int 8, .add (.mul (.arg 312) (.int 1103515245)) (.int 12345)), (338, .int 0, .index 339)], [(.eq, .arg 501, .rem (.op2 .iushr (.add (.mul (.arg 312) (.int 1103515245)) (.int 12345)) (.int 8)) (.int 100), true), (.eq, .arg 500, .int 0, false), (.le, .arg 4, .arg 2, true)], [(339, .add (.add (.int 34) (.mul (.int 13) (.arg 1))) (.arg 4)), (339, .int 8)])]
def mdrS_rs : List yR := []
theorem mdrS_w : ywa mdrS_A mdrS_ss mdrS_rs = true := by decide +kernel
theorem mdrS_k : yis (yev mdrS_A 3000 60 165 [42] (42, [(4, .arg 4), (3, .arg 3), (0, .index 338), (1, .arg 1), (2, .arg 2)], [], mdrS_O, mdrS_C, [])) mdrS_ss mdrS_rs = true := by decide +kernel
def mdrS_r (v1_ v2 v3 v4_ v312 v500 v501 v502 : Int32) (k_ : Nat) : Value := bif Nat.beq k_ 1 then .int v1_ else (bif Nat.beq k_ 2 then .int v2 else (bif Nat.beq k_ 3 then .int v3 else (bif Nat.beq k_ 4 then .int v4_ else (bif Nat.beq k_ 312 then .int v312 else (bif Nat.beq k_ 500 then .int v500 else (bif Nat.beq k_ 501 then .int v501 else (bif Nat.beq k_ 502 then .int v502 else (.int 0))))))))
def mdrS_s (n_ : Nat) : Nat := 0
theorem mdrS {h_ : xH} {v1_ v2 v3 v4_ v312 v500 v501 v502 : Int32} (hs : sHp h_) (o0_ : bpat h_ 339 8 = some (.int v312)) (b0 : 0 ≤ ((((34 : Int32) + ((13 : Int32) * v1_)) + v4_)).toInt ∧ ((((34 : Int32) + ((13 : Int32) * v1_)) + v4_)).toInt < 768) (x0_ : ¬ ((((34 : Int32) + ((13 : Int32) * v1_)) + v4_)).toInt.toNat = 8) (p0_ : ∀ (h_ : xH) (D_ : Nat), 5 ≤ D_ → xrun D_ 142 0 [(0, .int (((((v312 * (1103515245 : Int32)) + (12345 : Int32))).toUInt32 >>> (((8 : Int32)).toUInt32 &&& Int32.toUInt32 31)).toInt32 - ((((v312 * (1103515245 : Int32)) + (12345 : Int32))).toUInt32 >>> (((8 : Int32)).toUInt32 &&& Int32.toUInt32 31)).toInt32 / (100 : Int32) * (100 : Int32)))] [] h_ (some (.int v500), h_, [])) (p1_ : ∀ (h_ : xH) (D_ : Nat), 5 ≤ D_ → xrun D_ 143 0 [(0, .int (((((v312 * (1103515245 : Int32)) + (12345 : Int32))).toUInt32 >>> (((8 : Int32)).toUInt32 &&& Int32.toUInt32 31)).toInt32 - ((((v312 * (1103515245 : Int32)) + (12345 : Int32))).toUInt32 >>> (((8 : Int32)).toUInt32 &&& Int32.toUInt32 31)).toInt32 / (100 : Int32) * (100 : Int32)))] [] h_ (some (.int v501), h_, [])) (p2_ : ∀ (h_ : xH) (D_ : Nat), 5 ≤ D_ → xrun D_ 143 0 [(0, .int (60 : Int32))] [] h_ (some (.int v502), h_, [])) (c0_ : v4_.toInt ≤ v2.toInt) : ∃ h', ysm h_ h' ∧ (((¬ v502 = (60 : Int32)) ∧ (v500 = (0 : Int32)) ∧ (bpat h' 339 ((((34 : Int32) + ((13 : Int32) * v1_)) + v4_)).toInt.toNat = some (.int (60 : Int32))) ∧ (bpat h' 339 8 = some (.int ((v312 * (1103515245 : Int32)) + (12345 : Int32)))) ∧ (∀ a_ j_ : Nat, ¬ (a_ = 339 ∧ j_ = ((((34 : Int32) + ((13 : Int32) * v1_)) + v4_)).toInt.toNat) → ¬ (a_ = 339 ∧ j_ = 8) → bpat h' a_ j_ = bpat h_ a_ j_) ∧ (bldD 60 165 42 [(4, .int v4_), (3, .int v3), (0, .index 338), (1, .int v1_), (2, .int v2)] [] h_ 42 [(4, .int (v4_ + (1 : Int32))), (3, .int (v3 + (0 : Int32))), (5, .int (60 : Int32)), (0, .index 338), (1, .int v1_), (2, .int v2)] [] h'))
  ∨ ((v502 = (60 : Int32)) ∧ (v500 = (0 : Int32)) ∧ (bpat h' 339 ((((34 : Int32) + ((13 : Int32) * v1_)) + v4_)).toInt.toNat = some (.int (60 : Int32))) ∧ (bpat h' 339 8 = some (.int ((v312 * (1103515245 : Int32)) + (12345 : Int32)))) ∧ (∀ a_ j_ : Nat, ¬ (a_ = 339 ∧ j_ = ((((34 : Int32) + ((13 : Int32) * v1_)) + v4_)).toInt.toNat) → ¬ (a_ = 339 ∧ j_ = 8) → bpat h' a_ j_ = bpat h_ a_ j_) ∧ (bldD 60 165 42 [(4, .int v4_), (3, .int v3), (0, .index 338), (1, .int v1_), (2, .int v2)] [] h_ 42 [(4, .int (v4_ + (1 : Int32))), (3, .int (v3 + (1 : Int32))), (5, .int (60 : Int32)), (0, .index 338), (1, .int v1_), (2, .int v2)] [] h'))
  ∨ ((¬ v501 = (((((v312 * (1103515245 : Int32)) + (12345 : Int32))).toUInt32 >>> (((8 : Int32)).toUInt32 &&& Int32.toUInt32 31)).toInt32 - ((((v312 * (1103515245 : Int32)) + (12345 : Int32))).toUInt32 >>> (((8 : Int32)).toUInt32 &&& Int32.toUInt32 31)).toInt32 / (100 : Int32) * (100 : Int32))) ∧ (¬ v500 = (0 : Int32)) ∧ (bpat h' 339 ((((34 : Int32) + ((13 : Int32) * v1_)) + v4_)).toInt.toNat = some (.int (((((v312 * (1103515245 : Int32)) + (12345 : Int32))).toUInt32 >>> (((8 : Int32)).toUInt32 &&& Int32.toUInt32 31)).toInt32 - ((((v312 * (1103515245 : Int32)) + (12345 : Int32))).toUInt32 >>> (((8 : Int32)).toUInt32 &&& Int32.toUInt32 31)).toInt32 / (100 : Int32) * (100 : Int32)))) ∧ (bpat h' 339 8 = some (.int ((v312 * (1103515245 : Int32)) + (12345 : Int32)))) ∧ (∀ a_ j_ : Nat, ¬ (a_ = 339 ∧ j_ = ((((34 : Int32) + ((13 : Int32) * v1_)) + v4_)).toInt.toNat) → ¬ (a_ = 339 ∧ j_ = 8) → bpat h' a_ j_ = bpat h_ a_ j_) ∧ (bldD 60 165 42 [(4, .int v4_), (3, .int v3), (0, .index 338), (1, .int v1_), (2, .int v2)] [] h_ 42 [(4, .int (v4_ + (1 : Int32))), (3, .int (v3 + (0 : Int32))), (5, .int (((((v312 * (1103515245 : Int32)) + (12345 : Int32))).toUInt32 >>> (((8 : Int32)).toUInt32 &&& Int32.toUInt32 31)).toInt32 - ((((v312 * (1103515245 : Int32)) + (12345 : Int32))).toUInt32 >>> (((8 : Int32)).toUInt32 &&& Int32.toUInt32 31)).toInt32 / (100 : Int32) * (100 : Int32))), (0, .index 338), (1, .int v1_), (2, .int v2)] [] h'))
  ∨ ((v501 = (((((v312 * (1103515245 : Int32)) + (12345 : Int32))).toUInt32 >>> (((8 : Int32)).toUInt32 &&& Int32.toUInt32 31)).toInt32 - ((((v312 * (1103515245 : Int32)) + (12345 : Int32))).toUInt32 >>> (((8 : Int32)).toUInt32 &&& Int32.toUInt32 31)).toInt32 / (100 : Int32) * (100 : Int32))) ∧ (¬ v500 = (0 : Int32)) ∧ (bpat h' 339 ((((34 : Int32) + ((13 : Int32) * v1_)) + v4_)).toInt.toNat = some (.int (((((v312 * (1103515245 : Int32)) + (12345 : Int32))).toUInt32 >>> (((8 : Int32)).toUInt32 &&& Int32.toUInt32 31)).toInt32 - ((((v312 * (1103515245 : Int32)) + (12345 : Int32))).toUInt32 >>> (((8 : Int32)).toUInt32 &&& Int32.toUInt32 31)).toInt32 / (100 : Int32) * (100 : Int32)))) ∧ (bpat h' 339 8 = some (.int ((v312 * (1103515245 : Int32)) + (12345 : Int32)))) ∧ (∀ a_ j_ : Nat, ¬ (a_ = 339 ∧ j_ = ((((34 : Int32) + ((13 : Int32) * v1_)) + v4_)).toInt.toNat) → ¬ (a_ = 339 ∧ j_ = 8) → bpat h' a_ j_ = bpat h_ a_ j_) ∧ (bldD 60 165 42 [(4, .int v4_), (3, .int v3), (0, .index 338), (1, .int v1_), (2, .int v2)] [] h_ 42 [(4, .int (v4_ + (1 : Int32))), (3, .int (v3 + (1 : Int32))), (5, .int (((((v312 * (1103515245 : Int32)) + (12345 : Int32))).toUInt32 >>> (((8 : Int32)).toUInt32 &&& Int32.toUInt32 31)).toInt32 - ((((v312 * (1103515245 : Int32)) + (12345 : Int32))).toUInt32 >>> (((8 : Int32)).toUInt32 &&& Int32.toUInt32 31)).toInt32 / (100 : Int32) * (100 : Int32))), (0, .index 338), (1, .int v1_), (2, .int v2)] [] h'))) := by
  have hA : yas mdrS_A (mdrS_r v1_ v2 v3 v4_ v312 v500 v501 v502) (yg mdrS_s) := ⟨List.forall_mem_cons.mpr ⟨b0, fun q_ hq => absurd hq List.not_mem_nil⟩, List.forall_mem_cons.mpr ⟨x0_, fun q_ hq => absurd hq List.not_mem_nil⟩, fun q_ hq => absurd hq List.not_mem_nil, fun n_ hn => yg_lo hn, List.forall_mem_cons.mpr ⟨p0_, List.forall_mem_cons.mpr ⟨p1_, List.forall_mem_cons.mpr ⟨p2_, fun q_ hq => absurd hq List.not_mem_nil⟩⟩⟩⟩
  have Hs : ysh mdrS_A.1 (yg mdrS_s) h_ := ysh_of2 hs (fun q_ hq => absurd hq List.not_mem_nil)
  have Ho : ymem (mdrS_r v1_ v2 v3 v4_ v312 v500 v501 v502) (yg mdrS_s) mdrS_O h_ := List.forall_mem_cons.mpr ⟨bpat_some (fxr_at hs.2 (show fxk fxl 338 0 = some 339 by decide +kernel)), List.forall_mem_cons.mpr ⟨bpat_some o0_, fun q_ hq => absurd hq List.not_mem_nil⟩⟩
  have HC : ∀ q_ ∈ mdrS_C, xhold (mdrS_r v1_ v2 v3 v4_ v312 v500 v501 v502) q_ := List.forall_mem_cons.mpr ⟨xh_leT c0_, fun q_ hq => absurd hq List.not_mem_nil⟩
  rcases yrun (yis_ok mdrS_k) hA Hs Ho HC with ⟨q_, hq, h', K_, G_⟩ | ⟨q_, hq, h', K_, G_⟩
  · rcases List.mem_cons.mp hq with e_ | hq
    · subst e_
      exact ⟨h', yfr_sm K_.2.2.2 hs K_.1 (ywa_s mdrS_w List.mem_cons_self), Or.inl (⟨xq_eqF rfl rfl (K_.2.2.1 _ List.mem_cons_self), xq_eqT rfl rfl (K_.2.2.1 _ (List.mem_cons_of_mem _ List.mem_cons_self)), bpat_of (K_.2.1 _ List.mem_cons_self), bpat_of (K_.2.1 _ (List.mem_cons_of_mem _ List.mem_cons_self)), fun a_ j_ n0_ n1_ => yfr_bp K_.2.2.2 (List.forall_mem_cons.mpr ⟨fun e_ => n0_ ⟨e_.1.symm, e_.2.symm⟩, List.forall_mem_cons.mpr ⟨fun e_ => n1_ ⟨e_.1.symm, e_.2.symm⟩, fun q_ hq => absurd hq List.not_mem_nil⟩⟩), G_⟩)⟩
    rcases List.mem_cons.mp hq with e_ | hq
    · subst e_
      exact ⟨h', yfr_sm K_.2.2.2 hs K_.1 (ywa_s mdrS_w (List.mem_cons_of_mem _ List.mem_cons_self)), Or.inr (Or.inl (⟨xq_eqT rfl rfl (K_.2.2.1 _ List.mem_cons_self), xq_eqT rfl rfl (K_.2.2.1 _ (List.mem_cons_of_mem _ List.mem_cons_self)), bpat_of (K_.2.1 _ List.mem_cons_self), bpat_of (K_.2.1 _ (List.mem_cons_of_mem _ List.mem_cons_self)), fun a_ j_ n0_ n1_ => yfr_bp K_.2.2.2 (List.forall_mem_cons.mpr ⟨fun e_ => n0_ ⟨e_.1.symm, e_.2.symm⟩, List.forall_mem_cons.mpr ⟨fun e_ => n1_ ⟨e_.1.symm, e_.2.symm⟩, fun q_ hq => absurd hq List.not_mem_nil⟩⟩), G_⟩))⟩
    rcases List.mem_cons.mp hq with e_ | hq
    · subst e_
      exact ⟨h', yfr_sm K_.2.2.2 hs K_.1 (ywa_s mdrS_w (List.mem_cons_of_mem _ (List.mem_cons_of_mem _ List.mem_cons_self))), Or.inr (Or.inr (Or.inl (⟨xq_eqF rfl rfl (K_.2.2.1 _ List.mem_cons_self), xq_eqF rfl rfl (K_.2.2.1 _ (List.mem_cons_of_mem _ List.mem_cons_self)), bpat_of (K_.2.1 _ List.mem_cons_self), bpat_of (K_.2.1 _ (List.mem_cons_of_mem _ List.mem_cons_self)), fun a_ j_ n0_ n1_ => yfr_bp K_.2.2.2 (List.forall_mem_cons.mpr ⟨fun e_ => n0_ ⟨e_.1.symm, e_.2.symm⟩, List.forall_mem_cons.mpr ⟨fun e_ => n1_ ⟨e_.1.symm, e_.2.symm⟩, fun q_ hq => absurd hq List.not_mem_nil⟩⟩), G_⟩)))⟩
    have e_ := List.mem_singleton.mp hq
    subst e_
    exact ⟨h', yfr_sm K_.2.2.2 hs K_.1 (ywa_s mdrS_w (List.mem_cons_of_mem _ (List.mem_cons_of_mem _ (List.mem_cons_of_mem _ List.mem_cons_self)))), Or.inr (Or.inr (Or.inr (⟨xq_eqT rfl rfl (K_.2.2.1 _ List.mem_cons_self), xq_eqF rfl rfl (K_.2.2.1 _ (List.mem_cons_of_mem _ List.mem_cons_self)), bpat_of (K_.2.1 _ List.mem_cons_self), bpat_of (K_.2.1 _ (List.mem_cons_of_mem _ List.mem_cons_self)), fun a_ j_ n0_ n1_ => yfr_bp K_.2.2.2 (List.forall_mem_cons.mpr ⟨fun e_ => n0_ ⟨e_.1.symm, e_.2.symm⟩, List.forall_mem_cons.mpr ⟨fun e_ => n1_ ⟨e_.1.symm, e_.2.symm⟩, fun q_ hq => absurd hq List.not_mem_nil⟩⟩), G_⟩)))⟩
  · cases hq
-- mdrX: 5 steps, 0 ends, 1 returns
def mdrX_L : List (Nat × Nat × Nat) := []
def mdrX_O : yO := []
def mdrX_A : yA := (yZ mdrX_L, [], [], [], [])
def mdrX_C : List xB := [(.le, .arg 4, .arg 2, false)]
def mdrX_ss : List yS := []
def mdrX_rs : List yR := [(some (.arg 3), [], [(.le, .arg 4, .arg 2, false)], [])]
theorem mdrX_w : ywa mdrX_A mdrX_ss mdrX_rs = true := by decide +kernel
theorem mdrX_k : yis (yev mdrX_A 3000 60 165 [] (42, [(4, .arg 4), (3, .arg 3), (5, .arg 5), (0, .index 338), (1, .arg 1), (2, .arg 2)], [], mdrX_O, mdrX_C, [])) mdrX_ss mdrX_rs = true := by decide +kernel
def mdrX_r (v1_ v2 v3 v4_ v5 : Int32) (k_ : Nat) : Value := bif Nat.beq k_ 1 then .int v1_ else (bif Nat.beq k_ 2 then .int v2 else (bif Nat.beq k_ 3 then .int v3 else (bif Nat.beq k_ 4 then .int v4_ else (bif Nat.beq k_ 5 then .int v5 else (.int 0)))))
def mdrX_s (n_ : Nat) : Nat := 0
theorem mdrX {h_ : xH} {v1_ v2 v3 v4_ v5 : Int32} (hs : sHp h_) (c0_ : v2.toInt < v4_.toInt) : ∃ h', ysm h_ h' ∧ (((∀ a_ j_ : Nat, bpat h' a_ j_ = bpat h_ a_ j_) ∧ (∀ D_, 60 ≤ D_ → xrun D_ 165 42 [(4, .int v4_), (3, .int v3), (5, .int v5), (0, .index 338), (1, .int v1_), (2, .int v2)] [] h_ (some (.int v3), h', [])))) := by
  have hA : yas mdrX_A (mdrX_r v1_ v2 v3 v4_ v5) (yg mdrX_s) := ⟨fun q_ hq => absurd hq List.not_mem_nil, fun q_ hq => absurd hq List.not_mem_nil, fun q_ hq => absurd hq List.not_mem_nil, fun n_ hn => yg_lo hn, fun q_ hq => absurd hq List.not_mem_nil⟩
  have Hs : ysh mdrX_A.1 (yg mdrX_s) h_ := ysh_of2 hs (fun q_ hq => absurd hq List.not_mem_nil)
  have Ho : ymem (mdrX_r v1_ v2 v3 v4_ v5) (yg mdrX_s) mdrX_O h_ := fun q_ hq => absurd hq List.not_mem_nil
  have HC : ∀ q_ ∈ mdrX_C, xhold (mdrX_r v1_ v2 v3 v4_ v5) q_ := List.forall_mem_cons.mpr ⟨xh_leF c0_, fun q_ hq => absurd hq List.not_mem_nil⟩
  rcases yrun (yis_ok mdrX_k) hA Hs Ho HC with ⟨q_, hq, h', K_, G_⟩ | ⟨q_, hq, h', K_, G_⟩
  · cases hq
  · have e_ := List.mem_singleton.mp hq
    subst e_
    exact ⟨h', yfr_sm K_.2.2.2 hs K_.1 (ywa_r mdrX_w List.mem_cons_self), ⟨fun a_ j_ => yfr_bp K_.2.2.2 (fun q_ hq => absurd hq List.not_mem_nil), G_⟩⟩
-- mdrY: 5 steps, 0 ends, 1 returns
def mdrY_L : List (Nat × Nat × Nat) := []
def mdrY_O : yO := []
def mdrY_A : yA := (yZ mdrY_L, [], [], [], [])
def mdrY_C : List xB := [(.le, .arg 4, .arg 2, false)]
def mdrY_ss : List yS := []
def mdrY_rs : List yR := [(some (.arg 3), [], [(.le, .arg 4, .arg 2, false)], [])]
theorem mdrY_w : ywa mdrY_A mdrY_ss mdrY_rs = true := by decide +kernel
theorem mdrY_k : yis (yev mdrY_A 3000 60 165 [] (42, [(4, .arg 4), (3, .arg 3), (0, .index 338), (1, .arg 1), (2, .arg 2)], [], mdrY_O, mdrY_C, [])) mdrY_ss mdrY_rs = true := by decide +kernel
def mdrY_r (v1_ v2 v3 v4_ : Int32) (k_ : Nat) : Value := bif Nat.beq k_ 1 then .int v1_ else (bif Nat.beq k_ 2 then .int v2 else (bif Nat.beq k_ 3 then .int v3 else (bif Nat.beq k_ 4 then .int v4_ else (.int 0))))
def mdrY_s (n_ : Nat) : Nat := 0
theorem mdrY {h_ : xH} {v1_ v2 v3 v4_ : Int32} (hs : sHp h_) (c0_ : v2.toInt < v4_.toInt) : ∃ h', ysm h_ h' ∧ (((∀ a_ j_ : Nat, bpat h' a_ j_ = bpat h_ a_ j_) ∧ (∀ D_, 60 ≤ D_ → xrun D_ 165 42 [(4, .int v4_), (3, .int v3), (0, .index 338), (1, .int v1_), (2, .int v2)] [] h_ (some (.int v3), h', [])))) := by
  have hA : yas mdrY_A (mdrY_r v1_ v2 v3 v4_) (yg mdrY_s) := ⟨fun q_ hq => absurd hq List.not_mem_nil, fun q_ hq => absurd hq List.not_mem_nil, fun q_ hq => absurd hq List.not_mem_nil, fun n_ hn => yg_lo hn, fun q_ hq => absurd hq List.not_mem_nil⟩
  have Hs : ysh mdrY_A.1 (yg mdrY_s) h_ := ysh_of2 hs (fun q_ hq => absurd hq List.not_mem_nil)
  have Ho : ymem (mdrY_r v1_ v2 v3 v4_) (yg mdrY_s) mdrY_O h_ := fun q_ hq => absurd hq List.not_mem_nil
  have HC : ∀ q_ ∈ mdrY_C, xhold (mdrY_r v1_ v2 v3 v4_) q_ := List.forall_mem_cons.mpr ⟨xh_leF c0_, fun q_ hq => absurd hq List.not_mem_nil⟩
  rcases yrun (yis_ok mdrY_k) hA Hs Ho HC with ⟨q_, hq, h', K_, G_⟩ | ⟨q_, hq, h', K_, G_⟩
  · cases hq
  · have e_ := List.mem_singleton.mp hq
    subst e_
    exact ⟨h', yfr_sm K_.2.2.2 hs K_.1 (ywa_r mdrY_w List.mem_cons_self), ⟨fun a_ j_ => yfr_bp K_.2.2.2 (fun q_ hq => absurd hq List.not_mem_nil), G_⟩⟩
theorem rwx_ad2 {h_ h' : xH} {a_ b_ m_ : Nat} {l : List Int32} {x_ : Int32} (R_ : rwx h_ a_ b_ m_ l) (hl : l.length < m_) (hm_ : ysm h_ h') (e1_ : bpat h' a_ 1 = some (.int (Int32.ofNat (l.length + 1)))) (e2_ : bpat h' b_ l.length = some (.int x_)) (f_ : ∀ c_ j_, (c_ = a_ ∨ c_ = b_) → ¬ (c_ = a_ ∧ j_ = 1) → ¬ (c_ = b_ ∧ j_ = l.length) → bpat h' c_ j_ = bpat h_ c_ j_) : rwx h' a_ b_ m_ (l ++ [x_]) := by
  obtain ⟨⟨R1, R2⟩, ⟨R3, R4⟩, R5, R6⟩ := R_
  have nb : ¬ a_ = b_ := bcq_ne R1 R2 (by decide)
  have ll : (l ++ [x_]).length = l.length + 1 := by rw [List.length_append]; rfl
  refine ⟨⟨hm_.2 _ _ _ R1, hm_.2 _ _ _ R2⟩, ⟨?_, by rw [ll]; exact e1_⟩, by rw [ll]; omega, fun j_ y_ hy => ?_⟩
  · rw [f_ a_ 0 (Or.inl rfl) (fun q_ => by cases q_.2) (fun q_ => nb q_.1)]
    exact R3
  · by_cases g_ : j_ < l.length
    · rw [List.getElem?_append_left g_] at hy
      rw [f_ b_ j_ (Or.inr rfl) (fun q_ => nb q_.1.symm) (fun q_ => by omega)]
      exact R6 j_ y_ hy
    · have hj := (List.getElem?_eq_some_iff.mp hy).1
      rw [ll] at hj
      have ej : j_ = l.length := by omega
      subst ej
      rw [List.getElem?_append_right (Nat.le_refl _), Nat.sub_self] at hy
      cases hy
      exact e2_
def dzn (z_ : Int32) : Int32 := ((z_ * (1103515245 : Int32)) + (12345 : Int32))
def dvr (z_ : Int32) : Int32 := (((((z_ * (1103515245 : Int32)) + (12345 : Int32))).toUInt32 >>> (((8 : Int32)).toUInt32 &&& Int32.toUInt32 31)).toInt32 - ((((z_ * (1103515245 : Int32)) + (12345 : Int32))).toUInt32 >>> (((8 : Int32)).toUInt32 &&& Int32.toUInt32 31)).toInt32 / (100 : Int32) * (100 : Int32))
theorem dzn_e (z_ : Int32) : dzn z_ = ((z_ * (1103515245 : Int32)) + (12345 : Int32)) := rfl
theorem dvr_e (z_ : Int32) : dvr z_ = (((((z_ * (1103515245 : Int32)) + (12345 : Int32))).toUInt32 >>> (((8 : Int32)).toUInt32 &&& Int32.toUInt32 31)).toInt32 - ((((z_ * (1103515245 : Int32)) + (12345 : Int32))).toUInt32 >>> (((8 : Int32)).toUInt32 &&& Int32.toUInt32 31)).toInt32 / (100 : Int32) * (100 : Int32)) := rfl
def zdn (n_ : Nat) (z_ : Int32) : Int32 := match n_ with
  | 0 => z_
  | n_ + 1 => dzn (zdn n_ z_)
/-- n draws -/
def drw (n_ : Nat) (z_ : Int32) : List Int32 := match n_ with
  | 0 => []
  | n_ + 1 => drw n_ z_ ++ [puZ_F (dvr (zdn n_ z_))]
theorem zdn_s (n_ : Nat) (z_ : Int32) : zdn (n_ + 1) z_ = dzn (zdn n_ z_) := rfl
theorem drw_s (n_ : Nat) (z_ : Int32) : drw (n_ + 1) z_ = drw n_ z_ ++ [puZ_F (dvr (zdn n_ z_))] := rfl
theorem drw_len : ∀ {n_ : Nat} {z_ : Int32}, (drw n_ z_).length = n_ := by
  intro n_
  induction n_ with
  | zero => intro z_; rfl
  | succ n_ ih_ =>
    intro z_
    rw [drw_s, List.length_append, ih_]
    rfl
theorem uns_app {l : List Int32} {y_ : Int32} : uns (l ++ [y_]) = uns l + (if puC_F y_ = y_ then 0 else 1) := by
  induction l with
  | nil => show (if puC_F y_ = y_ then 0 else 1) + 0 = 0 + (if puC_F y_ = y_ then 0 else 1); omega
  | cons u_ t_ ih_ =>
    have e1_ : uns ((u_ :: t_) ++ [y_]) = (if puC_F u_ = u_ then 0 else 1) + uns (t_ ++ [y_]) := rfl
    have e2_ : uns (u_ :: t_) = (if puC_F u_ = u_ then 0 else 1) + uns t_ := rfl
    rw [e1_, e2_, ih_]
    omega
def drawF (W_ : Nat → List Int32) (V : Nat → Int32) (z_ n_ : Int32) : (Nat → List Int32) × (Nat → Int32) × Int32 := if (0 ≤ z_.toInt ∧ z_.toInt < (V 0).toInt) ∧ (0 ≤ n_.toInt ∧ n_.toInt ≤ 12) then (upR W_ z_.toInt.toNat (drw n_.toInt.toNat (V 4)), upI V 4 (zdn n_.toInt.toNat (V 4)), n_ - Int32.ofNat (uns (drw n_.toInt.toNat (V 4)))) else (W_, V, Int32.ofInt (-1000001))
theorem dx_lp {a_ b_ c_ n_ : Nat} {z_ : Int32} (hn : n_ ≤ 12) : ∀ (k_ i_ : Nat) (h_ : xH), i_ + k_ = n_ → sHp h_ → rwx h_ a_ b_ 12 (drw i_ z_) → bpat h_ 1 13 = some (.int (zdn i_ z_)) → ∃ h', rwx h' a_ b_ 12 (drw n_ z_) ∧ bpat h' 1 13 = some (.int (zdn n_ z_)) ∧ ysm h_ h' ∧ (∀ c2_ j_, ¬ (c2_ = 1 ∧ j_ = 13) → ¬ c2_ = a_ → ¬ c2_ = b_ → bpat h' c2_ j_ = bpat h_ c2_ j_) ∧ bldD 60 78 41 [(4, .int (Int32.ofNat i_)), (3, .index a_), (0, .index 0), (1, .int (Int32.ofNat c_)), (2, .int (Int32.ofNat n_))] [] h_ 73 [(4, .int (Int32.ofNat n_)), (3, .index a_), (0, .index 0), (1, .int (Int32.ofNat c_)), (2, .int (Int32.ofNat n_))] [.index a_, .int (Int32.ofNat n_)] h' := by
  intro k_
  induction k_ with
  | zero =>
    intro i_ h_ hi_ hs R_ ez
    obtain ⟨h1, m1_, f1_, ld⟩ := xdrX (v1_ := Int32.ofNat c_) (v2 := Int32.ofNat n_) (v4_ := Int32.ofNat i_) hs R_.1.1 (by rw [i32n (by omega), i32n (by omega)]; omega)
    have ei : i_ = n_ := by omega
    subst ei
    exact ⟨h1, rwx_keep R_ m1_ (fun c2_ j_ _ => f1_ c2_ j_), (f1_ _ _).trans ez, m1_, fun c2_ j_ _ _ _ => f1_ c2_ j_, ld⟩
  | succ k_ ih_ =>
    intro i_ h_ hi_ hs R_ ez
    have na : ¬ a_ = 1 := fun q_ => bcq_ne R_.1.1 (bcq_of (n_ := 1) (z_ := (10, 15)) hs rfl) (by decide) q_
    have nb : ¬ b_ = 1 := fun q_ => bcq_ne R_.1.2 (bcq_of (n_ := 1) (z_ := (10, 15)) hs rfl) (by decide) q_
    have zl : (12 : Int32).toInt = 12 := rfl
    have hl : (drw i_ z_).length = i_ := drw_len
    have R4 := R_.2.1.2
    rw [hl] at R4
    generalize ew : zdn i_ z_ = w_ at ez
    obtain ⟨h1, m1_, e1_, e2_, ez1, f_, ld⟩ := xdrT (v1_ := Int32.ofNat c_) (v2 := Int32.ofNat n_) (v4_ := Int32.ofNat i_) (v312 := w_) (v500 := puZ_F (dvr w_)) hs R_.1.1 R_.1.2 ez R4 R_.2.1.1 ⟨by rw [i32n (by omega)]; omega, by rw [i32n (by omega)]; omega⟩ (fun h_ D_ hD => by rw [← dvr_e w_]; exact puZ (dvr w_) h_ D_ hD) (by rw [i32n (by omega)]; omega) (by rw [i32n (by omega), i32n (by omega)]; omega)
    rw [i32s] at e1_ ld
    rw [i32t (by omega)] at e2_ f_
    have R1 : rwx h1 a_ b_ 12 (drw (i_ + 1) z_) := by
      rw [drw_s, ew]
      refine rwx_ad2 R_ (by omega) m1_ (by rw [hl]; exact e1_) (by rw [hl]; exact e2_) (fun c2_ j_ hc_ n1_ n2_ => f_ c2_ j_ n1_ (by rw [hl] at n2_; exact n2_) (fun q_ => ?_))
      rcases hc_ with rfl | rfl
      · exact na q_.1
      · exact nb q_.1
    obtain ⟨h2, R2, e3_, m2_, f2_, ld2⟩ := ih_ (i_ + 1) h1 (by omega) m1_.1 R1 (by rw [zdn_s, ew, dzn_e]; exact ez1)
    exact ⟨h2, R2, e3_, ysm_tr m1_ m2_, fun c2_ j_ n1_ n2_ n3_ => (f2_ c2_ j_ n1_ n2_ n3_).trans (f_ c2_ j_ (fun q_ => n2_ q_.1) (fun q_ => n3_ q_.1) n1_), fun D_ hD o H_ => ld D_ hD o (ld2 D_ hD o H_)⟩
theorem x_draw {W_ : Nat → List Int32} {V : Nat → Int32} {h_ : xH} {z_ n_ : Int32} (B_ : bInv bZ bIj h_) (K_ : okS W_ V) (H_ : SX W_ V h_) : ∃ h', ysm h_ h' ∧ (SX (drawF W_ V z_ n_).1 (drawF W_ V z_ n_).2.1 h' ∧ ∀ D_, 62 ≤ D_ → xrun D_ 78 0 [(0, .index 0), (1, .int z_), (2, .int n_)] [] h_ (some (.int (drawF W_ V z_ n_).2.2), h', [])) := by
  obtain ⟨y_, oy⟩ := xerr (k_ := 1) B_ (by omega)
  have zz := z0_
  have z12 := i12_
  unfold drawF
  by_cases g_ : (0 ≤ z_.toInt ∧ z_.toInt < (V 0).toInt) ∧ (0 ≤ n_.toInt ∧ n_.toInt ≤ 12)
  · rw [if_pos g_]
    obtain ⟨c_, hc_, hN_, rfl, ec⟩ := isC_n K_ g_.1
    obtain ⟨k_, hk, ek, rfl⟩ := n34 g_.2.1 g_.2.2
    have ek2 : (Int32.ofNat k_).toInt.toNat = k_ := i32t (by omega)
    obtain ⟨s1_, s2_, s3_⟩ := cl_s H_.1 hc_
    have R_ := SX_w H_ (cl_x hc_)
    rw [ec, ek2]
    obtain ⟨h0, m0_, e0_⟩ := xdrE (v1_ := Int32.ofNat c_) (v2 := Int32.ofNat k_) H_.1 (xNc H_) oy
    rcases e0_ with ⟨-, -, -, -, f0_, ld0⟩ | ⟨g1, w0_, f_, r_⟩ | ⟨g1, g2, w0_, f_, r_⟩ | ⟨g1, g2, g3_, w0_, f_, r_⟩ | ⟨g1, g2, g3_, g4, w0_, f_, r_⟩
    · obtain ⟨h1, m1_, e1_, f1_, ld1⟩ := xdrO (v1_ := Int32.ofNat c_) (v2 := Int32.ofNat k_) m0_.1 (m0_.2 _ _ _ s2_) (by rw [ec, f0_]; exact s1_) ⟨by omega, by omega⟩
      have R1 : rwx h1 (34 + 2 * c_) (35 + 2 * c_) 12 [] := rwx_nil (rwx_keep R_ m0_ (fun c2_ j_ _ => f0_ c2_ j_)) m1_ e1_ (fun j_ n_ => f1_ _ j_ (fun q_ => n_ q_.2))
      obtain ⟨h2, R2, e2_, m2_, f2_, ld2⟩ := dx_lp (c_ := c_) (z_ := V 4) hk k_ 0 h1 (by omega) m1_.1 R1 (by rw [f1_ 1 13 (fun q_ => absurd q_.2 (by omega)), f0_]; exact SX_v H_ (show ((1, 13), 4) ∈ wvX by decide))
      have W2_ : rW (34 + 2 * c_) (35 + 2 * c_) h2 (drw k_ (V 4)) := ⟨m2_.1, R2, by rw [drw_len]; omega⟩
      obtain ⟨h3, W3, m3_, f3_, r3⟩ := usX W2_
      have S2 : ∀ z2, bcq h2 z2 11 15 → xidx h2.length (.index z2) = true := fun z2 k2_ => xidx_i (bcq_lt k2_)
      have c3_ := ycv (mi := 78) (pc := 73) (cm := 42) (lo_ := [(4, .int (Int32.ofNat k_)), (3, .index (34 + 2 * c_)), (0, .index 0), (1, .int (Int32.ofNat c_)), (2, .int (Int32.ofNat k_))]) (st_ := [.index (34 + 2 * c_), .int (Int32.ofNat k_)]) (as_ := []) (s' := [.int (Int32.ofNat k_)]) rfl rfl R2.1.1 rfl (xcc_l (List.forall_mem_cons.mpr ⟨rfl, List.forall_mem_cons.mpr ⟨xidx_i (bcq_lt R2.1.1), List.forall_mem_cons.mpr ⟨xidx_i (bcq_lt (bcq_of (n_ := 0) (z_ := (11, 15)) m2_.1 rfl)), List.forall_mem_cons.mpr ⟨rfl, List.forall_mem_cons.mpr ⟨rfl, fun q_ hq => absurd hq List.not_mem_nil⟩⟩⟩⟩⟩) (List.forall_mem_cons.mpr ⟨⟨rfl, rfl⟩, fun t_ ht => absurd ht List.not_mem_nil⟩) (Nat.le_of_ble_eq_true rfl)) r3
      obtain ⟨h4, m4_, f4_, r4⟩ := xdrR (v1_ := Int32.ofNat c_) (v2 := Int32.ofNat k_) (v4_ := Int32.ofNat k_) (v400 := Int32.ofNat (uns (drw k_ (V 4)))) W3.1 W3.2.1.1.1
      have MM : ysm h_ h4 := ysm_tr m0_ (ysm_tr m1_ (ysm_tr m2_ (ysm_tr m3_ m4_)))
      refine ⟨h4, MM, SX_ir H_ MM (show ((1, 13), 4) ∈ wvX by decide) (cl_x hc_) ((f4_ _ _).trans ((f3_ _ _).trans e2_)) (rwx_keep R2 (ysm_tr m3_ m4_) (fun c2_ j_ _ => (f4_ _ _).trans (f3_ _ _))) (fun c2_ j_ _ n1_ n2_ n3_ => (f4_ _ _).trans ((f3_ _ _).trans ((f2_ c2_ j_ n1_ n2_ n3_).trans ((f1_ c2_ j_ (fun q_ => n2_ q_.1)).trans (f0_ _ _))))), fun D_ hD => ld0 D_ (by omega) _ (ld1 D_ (by omega) _ (ld2 D_ (by omega) _ (c3_ D_ (by omega) _ (r4 D_ (by omega)))))⟩
    · exact absurd g1 (by omega)
    · exact absurd g1 (by omega)
    · exact absurd g1 (by omega)
    · exact absurd g1 (by omega)
  · rw [if_neg g_]
    obtain ⟨h1, m_, e_⟩ := xdrE (v1_ := z_) (v2 := n_) H_.1 (xNc H_) oy
    rcases e_ with ⟨g1, g2, g3_, g4, f_, q_⟩ | ⟨g1, w0_, f_, q_⟩ | ⟨g1, g2, w0_, f_, q_⟩ | ⟨g1, g2, g3_, w0_, f_, q_⟩ | ⟨g1, g2, g3_, g4, w0_, f_, q_⟩
    · exact absurd (by omega) g_
    · exact ⟨h1, m_, SX_e H_ m_ f_, fun D_ hD => q_ D_ (by omega)⟩
    · exact ⟨h1, m_, SX_e H_ m_ f_, fun D_ hD => q_ D_ (by omega)⟩
    · exact ⟨h1, m_, SX_e H_ m_ f_, fun D_ hD => q_ D_ (by omega)⟩
    · exact ⟨h1, m_, SX_e H_ m_ f_, fun D_ hD => q_ D_ (by omega)⟩
/-- a SOUND, as the class asks -/
theorem puS_i (y_ : Int32) : ¬ puS_F y_ = 0 ↔ snd_ y_ := by
  unfold puS_F snd_
  simp only [xcmb]
  have a0_ : y_ < 0 ↔ y_.toInt < 0 := Int32.lt_iff_toInt_lt
  have a1_ : y_ ≤ 53 ↔ y_.toInt ≤ 53 := Int32.le_iff_toInt_le
  have a2 : y_ < 60 ↔ y_.toInt < 60 := Int32.lt_iff_toInt_lt
  have a3 : y_ ≤ 99 ↔ y_.toInt ≤ 99 := Int32.le_iff_toInt_le
  have n01 : ¬ (1 : Int32) = 0 := by decide
  by_cases h1 : y_ < 0
  · have := a0_.mp h1
    simp only [h1, decide_true, cond_true]
    exact ⟨fun q_ => (q_ trivial).elim, fun q_ => by omega⟩
  · have g1 : ¬ y_.toInt < 0 := fun q_ => h1 (a0_.mpr q_)
    simp only [h1, decide_false, cond_false]
    by_cases h2 : y_ ≤ 53
    · have := a1_.mp h2
      simp only [h2, decide_true, cond_true]
      exact ⟨fun _ => by omega, fun _ => n01⟩
    · have g2 : ¬ y_.toInt ≤ 53 := fun q_ => h2 (a1_.mpr q_)
      simp only [h2, decide_false, cond_false]
      by_cases h3 : y_ < 60
      · have := a2.mp h3
        simp only [h3, decide_true, cond_true]
        exact ⟨fun q_ => (q_ trivial).elim, fun q_ => by omega⟩
      · have g3_ : ¬ y_.toInt < 60 := fun q_ => h3 (a2.mpr q_)
        simp only [h3, decide_false, cond_false]
        by_cases h4 : y_ ≤ 99
        · have := a3.mp h4
          simp only [h4, decide_true, cond_true]
          exact ⟨fun _ => by omega, fun _ => n01⟩
        · have g4 : ¬ y_.toInt ≤ 99 := fun q_ => h4 (a3.mpr q_)
          simp only [h4, decide_false, cond_false]
          exact ⟨fun q_ => (q_ trivial).elim, fun q_ => by omega⟩
theorem puZ_snd (y_ : Int32) : snd_ (puZ_F y_) := by
  rw [puZ_m]
  by_cases g_ : pmS_F y_ = 0
  · rw [if_pos g_]
    exact ⟨by decide, Or.inr ⟨by decide, by decide⟩⟩
  · rw [if_neg g_]
    exact (puS_i y_).mp g_
theorem snd_r {y_ : Int32} (h_ : snd_ y_) : 0 ≤ y_.toInt ∧ y_.toInt < 100 := by
  unfold snd_ at h_
  omega
theorem sds_s {l : List Int32} (h_ : snds l) : sds l := fun y_ hy => snd_r (h_ y_ hy)
theorem drw_snd : ∀ {n_ : Nat} {z_ : Int32}, snds (drw n_ z_) := by
  intro n_
  induction n_ with
  | zero => intro z_ y_ hy; exact absurd hy List.not_mem_nil
  | succ n_ ih_ =>
    intro z_ y_ hy
    rw [drw_s] at hy
    rcases List.mem_append.mp hy with hy | hy
    · exact ih_ y_ hy
    · rw [List.mem_singleton.mp hy]
      exact puZ_snd _
theorem i34k {c_ i_ : Nat} (hc_ : c_ < 12) (hi_ : i_ ≤ 12) : ((34 : Int32) + 13 * Int32.ofNat c_ + Int32.ofNat i_).toInt.toNat = 34 + 13 * c_ + i_ ∧ (0 ≤ ((34 : Int32) + 13 * Int32.ofNat c_ + Int32.ofNat i_).toInt ∧ ((34 : Int32) + 13 * Int32.ofNat c_ + Int32.ofNat i_).toInt < 768) := by
  have k_ : (List.range 12).all (fun c_ => decide ((34 : Int32) + 13 * Int32.ofNat c_ = Int32.ofNat (34 + 13 * c_))) = true := by decide +kernel
  have e_ := of_decide_eq_true (List.all_eq_true.mp k_ c_ (List.mem_range.mpr hc_))
  rw [e_, i32p, i32n (by omega)]
  omega
def mdH (c_ n_ i_ own_ : Nat) (lo_ : xL) : Prop := lo_ = [(4, .int (Int32.ofNat i_)), (3, .int (Int32.ofNat own_)), (0, .index 338), (1, .int (Int32.ofNat c_)), (2, .int (Int32.ofNat n_))] ∨ ∃ y_ : Int32, lo_ = [(4, .int (Int32.ofNat i_)), (3, .int (Int32.ofNat own_)), (5, .int y_), (0, .index 338), (1, .int (Int32.ofNat c_)), (2, .int (Int32.ofNat n_))]
/-- a turn of the reference's -/
theorem md_t {c_ n_ i_ own_ : Nat} {h_ : xH} {lo_ : xL} {z_ : Int32} (hc_ : c_ < 12) (hn : n_ ≤ 12) (h1 : 1 ≤ i_) (hi_ : i_ ≤ n_) (ho : own_ ≤ 100) (hs : sHp h_) (ez : bpat h_ 339 8 = some (.int z_)) (HD : mdH c_ n_ i_ own_ lo_) : ∃ h' lo', ysm h_ h' ∧ (bpat h' 339 (34 + 13 * c_ + i_) = some (.int (puZ_F (dvr z_))) ∧ (bpat h' 339 8 = some (.int (dzn z_)) ∧ ((∀ a_ j_, ¬ (a_ = 339 ∧ j_ = 34 + 13 * c_ + i_) → ¬ (a_ = 339 ∧ j_ = 8) → bpat h' a_ j_ = bpat h_ a_ j_) ∧ (mdH c_ n_ (i_ + 1) (own_ + (if puC_F (puZ_F (dvr z_)) = puZ_F (dvr z_) then 1 else 0)) lo' ∧ bldD 60 165 42 lo_ [] h_ 42 lo' [] h')))) := by
  obtain ⟨ix, bx⟩ := i34k (c_ := c_) (i_ := i_) hc_ (by omega)
  have c0_ : (Int32.ofNat i_).toInt ≤ (Int32.ofNat n_).toInt := by rw [i32n (by omega), i32n (by omega)]; omega
  have x0_ : ¬ ((34 : Int32) + 13 * Int32.ofNat c_ + Int32.ofNat i_).toInt.toNat = 8 := by rw [ix]; omega
  have pz := puZ_m (dvr z_)
  have p6_ : pmC_F 60 = 60 := by decide
  have pq_ : ¬ pmS_F (dvr z_) = 0 → pmC_F (dvr z_) = puC_F (dvr z_) := fun q_ => by
    have s_ := snd_r ((puS_i (dvr z_)).mp q_)
    exact pu_C s_.1 s_.2
  have fin_ : ∀ (u_ : Int32) (k_ : Nat), Int32.ofNat own_ + Int32.ofNat k_ = Int32.ofNat (own_ + k_) := fun u_ k_ => i32p own_ k_
  have z0 : (0 : Int32) = Int32.ofNat 0 := rfl
  have z1 : (1 : Int32) = Int32.ofNat 1 := rfl
  rcases HD with rfl | ⟨y_, rfl⟩
  · obtain ⟨h', m_, e_⟩ := mdrS (v1_ := Int32.ofNat c_) (v2 := Int32.ofNat n_) (v3 := Int32.ofNat own_) (v4_ := Int32.ofNat i_) (v500 := pmS_F (dvr z_)) (v501 := pmC_F (dvr z_)) (v502 := pmC_F 60) hs ez bx x0_ (fun h_ D_ hD => by rw [← dvr_e z_]; exact pmS (dvr z_) h_ D_ hD) (fun h_ D_ hD => by rw [← dvr_e z_]; exact pmC (dvr z_) h_ D_ hD) (fun h_ D_ hD => pmC 60 h_ D_ hD) c0_
    rw [ix, i32s, ← dvr_e z_, ← dzn_e z_] at e_
    rcases e_ with ⟨g1, g2, e1_, e2_, f_, ld⟩ | ⟨g1, g2, e1_, e2_, f_, ld⟩ | ⟨g1, g2, e1_, e2_, f_, ld⟩ | ⟨g1, g2, e1_, e2_, f_, ld⟩
    · exact absurd p6_ g1
    · have ev_ : puZ_F (dvr z_) = 60 := by rw [pz, if_pos g2]
      rw [ev_, if_pos (show puC_F 60 = 60 by decide)]
      rw [z1, i32p] at ld
      exact ⟨h', _, m_, e1_, e2_, f_, Or.inr ⟨_, rfl⟩, ld⟩
    · have ev_ : puZ_F (dvr z_) = dvr z_ := by rw [pz, if_neg g2]
      rw [ev_, if_neg (fun q_ => g1 ((pq_ g2).trans q_))]
      rw [z0, i32p] at ld
      exact ⟨h', _, m_, e1_, e2_, f_, Or.inr ⟨_, rfl⟩, ld⟩
    · have ev_ : puZ_F (dvr z_) = dvr z_ := by rw [pz, if_neg g2]
      rw [ev_, if_pos ((pq_ g2).symm.trans g1)]
      rw [z1, i32p] at ld
      exact ⟨h', _, m_, e1_, e2_, f_, Or.inr ⟨_, rfl⟩, ld⟩
  · obtain ⟨h', m_, e_⟩ := mdrT (v1_ := Int32.ofNat c_) (v2 := Int32.ofNat n_) (v3 := Int32.ofNat own_) (v4_ := Int32.ofNat i_) (v5 := y_) (v500 := pmS_F (dvr z_)) (v501 := pmC_F (dvr z_)) (v502 := pmC_F 60) hs ez bx x0_ (fun h_ D_ hD => by rw [← dvr_e z_]; exact pmS (dvr z_) h_ D_ hD) (fun h_ D_ hD => by rw [← dvr_e z_]; exact pmC (dvr z_) h_ D_ hD) (fun h_ D_ hD => pmC 60 h_ D_ hD) c0_
    rw [ix, i32s, ← dvr_e z_, ← dzn_e z_] at e_
    rcases e_ with ⟨g1, g2, e1_, e2_, f_, ld⟩ | ⟨g1, g2, e1_, e2_, f_, ld⟩ | ⟨g1, g2, e1_, e2_, f_, ld⟩ | ⟨g1, g2, e1_, e2_, f_, ld⟩
    · exact absurd p6_ g1
    · have ev_ : puZ_F (dvr z_) = 60 := by rw [pz, if_pos g2]
      rw [ev_, if_pos (show puC_F 60 = 60 by decide)]
      rw [z1, i32p] at ld
      exact ⟨h', _, m_, e1_, e2_, f_, Or.inr ⟨_, rfl⟩, ld⟩
    · have ev_ : puZ_F (dvr z_) = dvr z_ := by rw [pz, if_neg g2]
      rw [ev_, if_neg (fun q_ => g1 ((pq_ g2).trans q_))]
      rw [z0, i32p] at ld
      exact ⟨h', _, m_, e1_, e2_, f_, Or.inr ⟨_, rfl⟩, ld⟩
    · have ev_ : puZ_F (dvr z_) = dvr z_ := by rw [pz, if_neg g2]
      rw [ev_, if_pos ((pq_ g2).symm.trans g1)]
      rw [z1, i32p] at ld
      exact ⟨h', _, m_, e1_, e2_, f_, Or.inr ⟨_, rfl⟩, ld⟩
theorem md_lp {c_ n_ : Nat} {z_ : Int32} (hc_ : c_ < 12) (hn : n_ ≤ 12) : ∀ (k_ i_ : Nat) (h_ : xH) (lo_ : xL), i_ + k_ = n_ → sHp h_ → (∀ j_ y_, (drw i_ z_)[j_]? = some y_ → bpat h_ 339 (35 + 13 * c_ + j_) = some (.int y_)) → bpat h_ 339 8 = some (.int (zdn i_ z_)) → mdH c_ n_ (i_ + 1) (i_ - uns (drw i_ z_)) lo_ → ∃ h', (∀ j_ y_, (drw n_ z_)[j_]? = some y_ → bpat h' 339 (35 + 13 * c_ + j_) = some (.int y_)) ∧ bpat h' 339 8 = some (.int (zdn n_ z_)) ∧ ysm h_ h' ∧ (∀ c2_ j_, ¬ (c2_ = 339 ∧ (35 + 13 * c_ ≤ j_ ∧ j_ < 47 + 13 * c_)) → ¬ (c2_ = 339 ∧ j_ = 8) → bpat h' c2_ j_ = bpat h_ c2_ j_) ∧ ∀ D_, 60 ≤ D_ → xrun D_ 165 42 lo_ [] h_ (some (.int (Int32.ofNat (n_ - uns (drw n_ z_)))), h', []) := by
  intro k_
  induction k_ with
  | zero =>
    intro i_ h_ lo_ hi_ hs P_ ez HD
    have ei : i_ = n_ := by omega
    subst ei
    have c0_ : (Int32.ofNat i_).toInt < (Int32.ofNat (i_ + 1)).toInt := by rw [i32n (by omega), i32n (by omega)]; omega
    rcases HD with rfl | ⟨y_, rfl⟩
    · obtain ⟨h1, m1_, f1_, r1_⟩ := mdrY (v1_ := Int32.ofNat c_) (v2 := Int32.ofNat i_) (v3 := Int32.ofNat (i_ - uns (drw i_ z_))) (v4_ := Int32.ofNat (i_ + 1)) hs c0_
      exact ⟨h1, fun j_ y_ hy => (f1_ _ _).trans (P_ j_ y_ hy), (f1_ _ _).trans ez, m1_, fun c2_ j_ _ _ => f1_ c2_ j_, r1_⟩
    · obtain ⟨h1, m1_, f1_, r1_⟩ := mdrX (v1_ := Int32.ofNat c_) (v2 := Int32.ofNat i_) (v3 := Int32.ofNat (i_ - uns (drw i_ z_))) (v4_ := Int32.ofNat (i_ + 1)) (v5 := y_) hs c0_
      exact ⟨h1, fun j_ y_ hy => (f1_ _ _).trans (P_ j_ y_ hy), (f1_ _ _).trans ez, m1_, fun c2_ j_ _ _ => f1_ c2_ j_, r1_⟩
  | succ k_ ih_ =>
    intro i_ h_ lo_ hi_ hs P_ ez HD
    have hl : (drw i_ z_).length = i_ := drw_len
    have ul_ : uns (drw i_ z_) ≤ i_ := by
      have := uns_le (l := drw i_ z_)
      omega
    obtain ⟨h1, lo1, m1_, e1_, e2_, f1_, HD1, ld1⟩ := md_t hc_ hn (by omega) (show i_ + 1 ≤ n_ by omega) (by omega) hs ez HD
    rw [← zdn_s] at e2_
    have P1_ : ∀ j_ y_, (drw (i_ + 1) z_)[j_]? = some y_ → bpat h1 339 (35 + 13 * c_ + j_) = some (.int y_) := by
      intro j_ y_ hy
      rw [drw_s] at hy
      rcases Nat.lt_or_ge j_ i_ with g_ | g_
      · rw [List.getElem?_append_left (by omega)] at hy
        exact (f1_ _ _ (fun q_ => by have q_ := q_.2; omega) (fun q_ => by have q_ := q_.2; omega)).trans (P_ j_ y_ hy)
      · rw [List.getElem?_append_right (by omega)] at hy
        have lj := (List.getElem?_eq_some_iff.mp hy).1
        rw [List.length_singleton] at lj
        have ej : j_ = i_ := by omega
        subst ej
        rw [hl, Nat.sub_self] at hy
        cases hy
        rw [show 35 + 13 * c_ + j_ = 34 + 13 * c_ + (j_ + 1) by omega]
        exact e1_
    have eo : i_ - uns (drw i_ z_) + (if puC_F (puZ_F (dvr (zdn i_ z_))) = puZ_F (dvr (zdn i_ z_)) then 1 else 0) = i_ + 1 - uns (drw (i_ + 1) z_) := by
      rw [drw_s, uns_app]
      split
      · omega
      · omega
    rw [eo] at HD1
    obtain ⟨h2, P2_, e3_, m2_, f2_, r2⟩ := ih_ (i_ + 1) h1 lo1 (by omega) m1_.1 P1_ e2_ HD1
    exact ⟨h2, P2_, e3_, ysm_tr m1_ m2_, fun c2_ j_ n1_ n2_ => (f2_ c2_ j_ n1_ n2_).trans (f1_ c2_ j_ (fun q_ => n1_ ⟨q_.1, by have q_ := q_.2; omega⟩) n2_), fun D_ hD => ld1 D_ hD _ (r2 D_ hD)⟩
theorem m_draw {W_ : Nat → List Int32} {V : Nat → Int32} {h_ : xH} {z_ n_ : Int32} (B_ : bInv bZ bIj h_) (K_ : okS W_ V) (H_ : SM W_ V h_) : ∃ h', ysm h_ h' ∧ (SM (drawF W_ V z_ n_).1 (drawF W_ V z_ n_).2.1 h' ∧ ∀ D_, 62 ≤ D_ → xrun D_ 165 0 [(0, .index 338), (1, .int z_), (2, .int n_)] [] h_ (some (.int (drawF W_ V z_ n_).2.2), h', [])) := by
  obtain ⟨y_, oy⟩ := merr (k_ := 1) B_ (by omega)
  have zz := z0_
  have z12 := i12_
  have kN_ := okN K_
  have n1_ := i32j (V 0) kN_.1 (by omega)
  unfold drawF
  by_cases g_ : (0 ≤ z_.toInt ∧ z_.toInt < (V 0).toInt) ∧ (0 ≤ n_.toInt ∧ n_.toInt ≤ 12)
  · rw [if_pos g_]
    obtain ⟨c_, hc_, hN_, rfl, ec⟩ := isC_n K_ g_.1
    obtain ⟨k_, hk, ek, rfl⟩ := n34 g_.2.1 g_.2.2
    have ek2 : (Int32.ofNat k_).toInt.toNat = k_ := i32t (by omega)
    obtain ⟨ix, b1⟩ := i34 hc_
    rw [ec, ek2]
    obtain ⟨h0, m0_, e0_⟩ := mdrE (v1_ := Int32.ofNat c_) (v2 := Int32.ofNat k_) H_.1 (mNc H_) oy
    rcases e0_ with ⟨-, -, -, -, f0_, ld0⟩ | ⟨g1, w0_, f_, r_⟩ | ⟨g1, g2, w0_, f_, r_⟩ | ⟨g1, g2, g3_, w0_, f_, r_⟩ | ⟨g1, g2, g3_, g4, w0_, f_, r_⟩
    · obtain ⟨h1, m1_, e1_, f1_, ld1⟩ := mdrO (v1_ := Int32.ofNat c_) (v2 := Int32.ofNat k_) m0_.1 b1
      rw [ix] at e1_ f1_
      obtain ⟨h2, P2_, e2_, m2_, f2_, r2⟩ := md_lp (z_ := V 4) hc_ hk k_ 0 h1 _ (by omega) m1_.1 (fun j_ y_ hy => absurd hy (by simp [drw])) (by rw [f1_ 339 8 (fun q_ => by have q_ := q_.2; omega), f0_]; exact H_.2.1.2) (Or.inl rfl)
      have hu := uns_le (l := drw k_ (V 4))
      have hl : (drw k_ (V 4)).length = k_ := drw_len
      rw [i32w (by omega) (by omega)]
      have MM : ysm h_ h2 := ysm_tr m0_ (ysm_tr m1_ m2_)
      refine ⟨h2, MM, SM_ir H_ (lenS_ok K_) MM (show (8, 4) ∈ (8, 4) :: wvM from List.mem_cons_self) (cl_m hc_) e2_ ⟨?_, fun j_ y_ hy => ?_⟩ (fun c2_ j_ _ n1_ n2_ => ?_), fun D_ hD => ld0 D_ (by omega) _ (ld1 D_ (by omega) _ (r2 D_ (by omega)))⟩
      · rw [f2_ 339 _ (fun q_ => by have q_ := q_.2; omega) (fun q_ => by have q_ := q_.2; omega), hl]
        exact e1_
      · rw [Nat.one_mul]
        exact P2_ j_ y_ hy
      · rw [f2_ c2_ j_ (fun q_ => n2_ ⟨q_.1, ?_⟩) n1_, f1_ c2_ j_ (fun q_ => n2_ ⟨q_.1, ?_⟩), f0_]
        · rw [q_.2]
          exact smo_c (j_ := 0) hc_ (by omega)
        · obtain ⟨q1_, q2_, q3_⟩ := q_
          have e_ := smo_c (c_ := c_) (j_ := j_ - (34 + 13 * c_)) hc_ (by omega)
          rw [show 34 + 13 * c_ + (j_ - (34 + 13 * c_)) = j_ by omega] at e_
          exact e_
    · exact absurd g1 (by omega)
    · exact absurd g1 (by omega)
    · exact absurd g1 (by omega)
    · exact absurd g1 (by omega)
  · rw [if_neg g_]
    obtain ⟨h1, m_, e_⟩ := mdrE (v1_ := z_) (v2 := n_) H_.1 (mNc H_) oy
    rcases e_ with ⟨g1, g2, g3_, g4, f_, q_⟩ | ⟨g1, w0_, f_, q_⟩ | ⟨g1, g2, w0_, f_, q_⟩ | ⟨g1, g2, g3_, w0_, f_, q_⟩ | ⟨g1, g2, g3_, g4, w0_, f_, q_⟩
    · exact absurd (by omega) g_
    · exact ⟨h1, m_, SM_e H_ m_ f_, fun D_ hD => q_ D_ (by omega)⟩
    · exact ⟨h1, m_, SM_e H_ m_ f_, fun D_ hD => q_ D_ (by omega)⟩
    · exact ⟨h1, m_, SM_e H_ m_ f_, fun D_ hD => q_ D_ (by omega)⟩
    · exact ⟨h1, m_, SM_e H_ m_ f_, fun D_ hD => q_ D_ (by omega)⟩
