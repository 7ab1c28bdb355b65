-- ===== put
def lowb (b_ d_ : Int32) : Int32 := if b_.toInt = 8 then d_.toInt8.toInt32 else if b_.toInt = 16 then d_.toInt16.toInt32 else d_
theorem shx {x_ : BitVec 32} {n_ m_ : Nat} (h_ : (n_ = 24 ∧ m_ = 256) ∨ ((n_ = 16 ∧ m_ = 65536) ∨ (n_ = 0 ∧ m_ = 4294967296))) : ((x_ <<< n_).sshiftRight n_).toInt = x_.toInt.bmod m_ := by
  rw [BitVec.toInt_sshiftRight, BitVec.toInt_shiftLeft, BitVec.toInt_eq_toNat_bmod, Int.shiftRight_eq_div_pow]
  have lt_ := x_.isLt
  generalize x_.toNat = t_ at lt_
  rcases h_ with ⟨rfl, rfl⟩ | ⟨rfl, rfl⟩ | ⟨rfl, rfl⟩
  · have e_ : ((t_ <<< 24 : Nat) : Int) = (t_ : Int) * 16777216 := by rw [Nat.shiftLeft_eq]; omega
    rw [e_]
    simp only [Int.bmod_def]
    split <;> split <;> split <;> omega
  · have e_ : ((t_ <<< 16 : Nat) : Int) = (t_ : Int) * 65536 := by rw [Nat.shiftLeft_eq]; omega
    rw [e_]
    simp only [Int.bmod_def]
    split <;> split <;> split <;> omega
  · have e_ : ((t_ <<< 0 : Nat) : Int) = (t_ : Int) := by rw [Nat.shiftLeft_eq]; omega
    rw [e_]
    simp only [Int.bmod_def]
    split <;> split <;> omega
theorem low_m {b_ d_ : Int32} (hb_ : b_.toInt = 8 ∨ (b_.toInt = 16 ∨ b_.toInt = 32)) : (d_ <<< (((32 : Int32) - b_) &&& (31 : Int32))) >>> (((32 : Int32) - b_) &&& (31 : Int32)) = lowb b_ d_ := by
  refine Int32.toInt_inj.mp ?_
  rw [← Int32.toInt_toBitVec, Int32.toBitVec_shiftRight, Int32.toBitVec_shiftLeft, BitVec.sshiftRight_eq', BitVec.shiftLeft_eq']
  unfold lowb
  rcases hb_ with h_ | h_ | h_
  · have eb : b_ = 8 := Int32.toInt_inj.mp (by rw [h_]; rfl)
    subst eb
    rw [if_pos h_, Int8.toInt_toInt32, Int32.toInt_toInt8, show ((((32 : Int32) - 8) &&& 31).toBitVec.smod 32).toNat = 24 by decide +kernel, shx (Or.inl ⟨rfl, rfl⟩)]
    rfl
  · have eb : b_ = 16 := Int32.toInt_inj.mp (by rw [h_]; rfl)
    subst eb
    rw [if_neg (by decide), if_pos h_, Int16.toInt_toInt32, Int32.toInt_toInt16, show ((((32 : Int32) - 16) &&& 31).toBitVec.smod 32).toNat = 16 by decide +kernel, shx (Or.inr (Or.inl ⟨rfl, rfl⟩))]
    rfl
  · have eb : b_ = 32 := Int32.toInt_inj.mp (by rw [h_]; rfl)
    subst eb
    rw [if_neg (by decide), if_neg (by decide), show ((((32 : Int32) - 32) &&& 31).toBitVec.smod 32).toNat = 0 by decide +kernel, shx (Or.inr (Or.inr ⟨rfl, rfl⟩)), Int32.toInt_toBitVec]
    have l1 := Int32.le_toInt d_
    have l2 := Int32.toInt_lt d_
    exact xbm32 (by omega) (by omega)
-- xpuA: 49 steps, 1 ends, 2 returns
def xpuA_L : List (Nat × Nat × Nat) := []
def xpuA_O : yO := [(0, .int 13, .index 323), (323, .int 1, .arg 400)]
def xpuA_A : yA := (yZ xpuA_L, [], [], [], [])
def xpuA_C : List xB := []
def xpuA_ss : List yS := [(13, [(0, .index 0), (1, .arg 1), (2, .arg 2), (3, .arg 3)], [], [(0, .int 13, .index 323), (323, .int 1, .arg 400)], [(.lt, .arg 1, .int 4, true), (.lt, .arg 1, .int 0, false)], [])]
def xpuA_rs : List yR := [(some (.int (Int32.ofInt (-1000001))), [(323, .int 1, .add (.arg 400) (.int 1)), (0, .int 13, .index 323)], [(.lt, .arg 1, .int 0, true)], [(323, .int 1)]),
  (some (.int (Int32.ofInt (-1000001))), [(323, .int 1, .add (.arg 400) (.int 1)), (0, .int 13, .index 323)], [(.lt, .arg 1, .int 4, false), (.lt, .arg 1, .int 0, false)], [(323, .int 1)])]
theorem xpuA_w : ywa xpuA_A xpuA_ss xpuA_rs = true := by decide +kernel
theorem xpuA_k : yis (yev xpuA_A 3000 60 109 [13] (0, [(0, .index 0), (1, .arg 1), (2, .arg 2), (3, .arg 3)], [], xpuA_O, xpuA_C, [])) xpuA_ss xpuA_rs = true := by decide +kernel
def xpuA_r (v1_ v2 v3 v400 : Int32) (k_ : Nat) : Value := bif Nat.beq k_ 1 then .int v1_ else (bif Nat.beq k_ 2 then .int v2 else (bif Nat.beq k_ 3 then .int v3 else (bif Nat.beq k_ 400 then .int v400 else (.int 0))))
def xpuA_s (n_ : Nat) : Nat := 0
theorem xpuA {h_ : xH} {v1_ v2 v3 v400 : Int32} (hs : sHp h_) (o0_ : bpat h_ 323 1 = some (.int v400)) : ∃ h', ysm h_ h' ∧ (((v1_.toInt < (4 : Int32).toInt) ∧ ((0 : Int32).toInt ≤ v1_.toInt) ∧ (∀ a_ j_ : Nat, bpat h' a_ j_ = bpat h_ a_ j_) ∧ (bldD 60 109 0 [(0, .index 0), (1, .int v1_), (2, .int v2), (3, .int v3)] [] h_ 13 [(0, .index 0), (1, .int v1_), (2, .int v2), (3, .int v3)] [] h'))
  ∨ ((v1_.toInt < (0 : Int32).toInt) ∧ (bpat h' 323 1 = some (.int (v400 + (1 : Int32)))) ∧ (∀ a_ j_ : Nat, ¬ (a_ = 323 ∧ j_ = 1) → bpat h' a_ j_ = bpat h_ a_ j_) ∧ (∀ D_, 60 ≤ D_ → xrun D_ 109 0 [(0, .index 0), (1, .int v1_), (2, .int v2), (3, .int v3)] [] h_ (some (.int (Int32.ofInt (-1000001))), h', [])))
  ∨ (((4 : Int32).toInt ≤ v1_.toInt) ∧ ((0 : Int32).toInt ≤ v1_.toInt) ∧ (bpat h' 323 1 = some (.int (v400 + (1 : Int32)))) ∧ (∀ a_ j_ : Nat, ¬ (a_ = 323 ∧ j_ = 1) → bpat h' a_ j_ = bpat h_ a_ j_) ∧ (∀ D_, 60 ≤ D_ → xrun D_ 109 0 [(0, .index 0), (1, .int v1_), (2, .int v2), (3, .int v3)] [] h_ (some (.int (Int32.ofInt (-1000001))), h', [])))) := by
  have hA : yas xpuA_A (xpuA_r v1_ v2 v3 v400) (yg xpuA_s) := ⟨fun q_ hq => absurd hq List.not_mem_nil, fun q_ hq => absurd hq List.not_mem_nil, fun q_ hq => absurd hq List.not_mem_nil, fun n_ hn => yg_lo hn, fun q_ hq => absurd hq List.not_mem_nil⟩
  have Hs : ysh xpuA_A.1 (yg xpuA_s) h_ := ysh_of2 hs (fun q_ hq => absurd hq List.not_mem_nil)
  have Ho : ymem (xpuA_r v1_ v2 v3 v400) (yg xpuA_s) xpuA_O h_ := List.forall_mem_cons.mpr ⟨bpat_some (fxr_at hs.2 (show fxk fxl 0 13 = some 323 by decide +kernel)), List.forall_mem_cons.mpr ⟨bpat_some o0_, fun q_ hq => absurd hq List.not_mem_nil⟩⟩
  have HC : ∀ q_ ∈ xpuA_C, xhold (xpuA_r v1_ v2 v3 v400) q_ := fun q_ hq => absurd hq List.not_mem_nil
  rcases yrun (yis_ok xpuA_k) hA Hs Ho HC with ⟨q_, hq, h', K_, G_⟩ | ⟨q_, hq, h', K_, G_⟩
  · have e_ := List.mem_singleton.mp hq
    subst e_
    exact ⟨h', yfr_sm K_.2.2.2 hs K_.1 (ywa_s xpuA_w List.mem_cons_self), Or.inl (⟨xq_ltT rfl rfl (K_.2.2.1 _ List.mem_cons_self), xq_ltF rfl rfl (K_.2.2.1 _ (List.mem_cons_of_mem _ List.mem_cons_self)), fun a_ j_ => yfr_bp K_.2.2.2 (fun q_ hq => absurd hq List.not_mem_nil), G_⟩)⟩
  · rcases List.mem_cons.mp hq with e_ | hq
    · subst e_
      exact ⟨h', yfr_sm K_.2.2.2 hs K_.1 (ywa_r xpuA_w List.mem_cons_self), Or.inr (Or.inl (⟨xq_ltT rfl rfl (K_.2.2.1 _ List.mem_cons_self), bpat_of (K_.2.1 _ List.mem_cons_self), fun a_ j_ n0_ => yfr_bp K_.2.2.2 (List.forall_mem_cons.mpr ⟨fun e_ => n0_ ⟨e_.1.symm, e_.2.symm⟩, fun q_ hq => absurd hq List.not_mem_nil⟩), G_⟩))⟩
    have e_ := List.mem_singleton.mp hq
    subst e_
    exact ⟨h', yfr_sm K_.2.2.2 hs K_.1 (ywa_r xpuA_w (List.mem_cons_of_mem _ List.mem_cons_self)), Or.inr (Or.inr (⟨xq_ltF rfl rfl (K_.2.2.1 _ List.mem_cons_self), xq_ltF rfl rfl (K_.2.2.1 _ (List.mem_cons_of_mem _ List.mem_cons_self)), bpat_of (K_.2.1 _ List.mem_cons_self), fun a_ j_ n0_ => yfr_bp K_.2.2.2 (List.forall_mem_cons.mpr ⟨fun e_ => n0_ ⟨e_.1.symm, e_.2.symm⟩, fun q_ hq => absurd hq List.not_mem_nil⟩), G_⟩))⟩
-- xpuB: 71 steps, 1 ends, 3 returns
def xpuB_L : List (Nat × Nat × Nat) := [(1000, 7, 3)]
def xpuB_O : yO := [(0, .int 7, .index 313), (313, .arg 1, .index 1000), (1000, .int 1, .arg 320), (0, .int 13, .index 323), (323, .int 1, .arg 400), (1000, .int 2, .arg 321), (323, .int 2, .arg 401)]
def xpuB_A : yA := (yZ xpuB_L, [(.arg 1, 4)], [], [], [])
def xpuB_C : List xB := []
def xpuB_ss : List yS := [(54, [(4, .index 1000), (0, .index 0), (1, .arg 1), (2, .arg 2), (3, .arg 3)], [], [(0, .int 7, .index 313), (313, .arg 1, .index 1000), (1000, .int 1, .arg 320), (0, .int 13, .index 323), (323, .int 1, .arg 400), (1000, .int 2, .arg 321), (323, .int 2, .arg 401)], [(.lt, .arg 2, .arg 321, true), (.lt, .arg 2, .int 0, false), (.eq, .arg 320, .int 0, false)], [])]
def xpuB_rs : List yR := [(some (.int (Int32.ofInt (-1000001))), [(323, .int 1, .add (.arg 400) (.int 1)), (0, .int 7, .index 313), (313, .arg 1, .index 1000), (1000, .int 1, .arg 320), (0, .int 13, .index 323), (1000, .int 2, .arg 321), (323, .int 2, .arg 401)], [(.lt, .arg 2, .int 0, true), (.eq, .arg 320, .int 0, false)], [(323, .int 1)]),
  (some (.int (Int32.ofInt (-1000001))), [(323, .int 1, .add (.arg 400) (.int 1)), (0, .int 7, .index 313), (313, .arg 1, .index 1000), (1000, .int 1, .arg 320), (0, .int 13, .index 323), (1000, .int 2, .arg 321), (323, .int 2, .arg 401)], [(.lt, .arg 2, .arg 321, false), (.lt, .arg 2, .int 0, false), (.eq, .arg 320, .int 0, false)], [(323, .int 1)]),
  (some (.int (Int32.ofInt (-1000002))), [(323, .int 2, .add (.arg 401) (.int 1)), (0, .int 7, .index 313), (313, .arg 1, .index 1000), (1000, .int 1, .arg 320), (0, .int 13, .index 323), (323, .int 1, .arg 400), (1000, .int 2, .arg 321)], [(.eq, .arg 320, .int 0, true)], [(323, .int 2)])]
theorem xpuB_w : ywa xpuB_A xpuB_ss xpuB_rs = true := by decide +kernel
theorem xpuB_k : yis (yev xpuB_A 3000 60 109 [54] (13, [(0, .index 0), (1, .arg 1), (2, .arg 2), (3, .arg 3)], [], xpuB_O, xpuB_C, [])) xpuB_ss xpuB_rs = true := by decide +kernel
def xpuB_r (v1_ v2 v3 v320 v321 v400 v401 : Int32) (k_ : Nat) : Value := bif Nat.beq k_ 1 then .int v1_ else (bif Nat.beq k_ 2 then .int v2 else (bif Nat.beq k_ 3 then .int v3 else (bif Nat.beq k_ 320 then .int v320 else (bif Nat.beq k_ 321 then .int v321 else (bif Nat.beq k_ 400 then .int v400 else (bif Nat.beq k_ 401 then .int v401 else (.int 0)))))))
def xpuB_s (a1000 : Nat) (n_ : Nat) : Nat := bif Nat.beq n_ 1000 then a1000 else (0)
theorem xpuB {h_ : xH} {a1000 : Nat} {v1_ v2 v3 v320 v321 v400 v401 : Int32} (hs : sHp h_) (k1000 : bcq h_ a1000 7 3) (o0_ : bpat h_ 313 (v1_).toInt.toNat = some (.index a1000)) (o1 : bpat h_ a1000 1 = some (.int v320)) (o2 : bpat h_ 323 1 = some (.int v400)) (o3_ : bpat h_ a1000 2 = some (.int v321)) (o4_ : bpat h_ 323 2 = some (.int v401)) (b0 : 0 ≤ (v1_).toInt ∧ (v1_).toInt < 4) : ∃ h', ysm h_ h' ∧ (((v2.toInt < v321.toInt) ∧ ((0 : Int32).toInt ≤ v2.toInt) ∧ (¬ v320 = (0 : Int32)) ∧ (∀ a_ j_ : Nat, bpat h' a_ j_ = bpat h_ a_ j_) ∧ (bldD 60 109 13 [(0, .index 0), (1, .int v1_), (2, .int v2), (3, .int v3)] [] h_ 54 [(4, .index a1000), (0, .index 0), (1, .int v1_), (2, .int v2), (3, .int v3)] [] h'))
  ∨ ((v2.toInt < (0 : Int32).toInt) ∧ (¬ v320 = (0 : Int32)) ∧ (bpat h' 323 1 = some (.int (v400 + (1 : Int32)))) ∧ (∀ a_ j_ : Nat, ¬ (a_ = 323 ∧ j_ = 1) → bpat h' a_ j_ = bpat h_ a_ j_) ∧ (∀ D_, 60 ≤ D_ → xrun D_ 109 13 [(0, .index 0), (1, .int v1_), (2, .int v2), (3, .int v3)] [] h_ (some (.int (Int32.ofInt (-1000001))), h', [])))
  ∨ ((v321.toInt ≤ v2.toInt) ∧ ((0 : Int32).toInt ≤ v2.toInt) ∧ (¬ v320 = (0 : Int32)) ∧ (bpat h' 323 1 = some (.int (v400 + (1 : Int32)))) ∧ (∀ a_ j_ : Nat, ¬ (a_ = 323 ∧ j_ = 1) → bpat h' a_ j_ = bpat h_ a_ j_) ∧ (∀ D_, 60 ≤ D_ → xrun D_ 109 13 [(0, .index 0), (1, .int v1_), (2, .int v2), (3, .int v3)] [] h_ (some (.int (Int32.ofInt (-1000001))), h', [])))
  ∨ ((v320 = (0 : Int32)) ∧ (bpat h' 323 2 = some (.int (v401 + (1 : Int32)))) ∧ (∀ a_ j_ : Nat, ¬ (a_ = 323 ∧ j_ = 2) → bpat h' a_ j_ = bpat h_ a_ j_) ∧ (∀ D_, 60 ≤ D_ → xrun D_ 109 13 [(0, .index 0), (1, .int v1_), (2, .int v2), (3, .int v3)] [] h_ (some (.int (Int32.ofInt (-1000002))), h', [])))) := by
  have hA : yas xpuB_A (xpuB_r v1_ v2 v3 v320 v321 v400 v401) (yg (xpuB_s a1000)) := ⟨List.forall_mem_cons.mpr ⟨b0, fun q_ hq => absurd hq List.not_mem_nil⟩, fun q_ hq => absurd hq List.not_mem_nil, fun q_ hq => absurd hq List.not_mem_nil, fun n_ hn => yg_lo hn, fun q_ hq => absurd hq List.not_mem_nil⟩
  have Hs : ysh xpuB_A.1 (yg (xpuB_s a1000)) h_ := ysh_of2 hs (List.forall_mem_cons.mpr ⟨⟨by decide, k1000⟩, fun q_ hq => absurd hq List.not_mem_nil⟩)
  have Ho : ymem (xpuB_r v1_ v2 v3 v320 v321 v400 v401) (yg (xpuB_s a1000)) xpuB_O h_ := List.forall_mem_cons.mpr ⟨bpat_some (fxr_at hs.2 (show fxk fxl 0 7 = some 313 by decide +kernel)), List.forall_mem_cons.mpr ⟨bpat_some o0_, List.forall_mem_cons.mpr ⟨bpat_some o1, List.forall_mem_cons.mpr ⟨bpat_some (fxr_at hs.2 (show fxk fxl 0 13 = some 323 by decide +kernel)), List.forall_mem_cons.mpr ⟨bpat_some o2, List.forall_mem_cons.mpr ⟨bpat_some o3_, List.forall_mem_cons.mpr ⟨bpat_some o4_, fun q_ hq => absurd hq List.not_mem_nil⟩⟩⟩⟩⟩⟩⟩
  have HC : ∀ q_ ∈ xpuB_C, xhold (xpuB_r v1_ v2 v3 v320 v321 v400 v401) q_ := fun q_ hq => absurd hq List.not_mem_nil
  rcases yrun (yis_ok xpuB_k) hA Hs Ho HC with ⟨q_, hq, h', K_, G_⟩ | ⟨q_, hq, h', K_, G_⟩
  · have e_ := List.mem_singleton.mp hq
    subst e_
    exact ⟨h', yfr_sm K_.2.2.2 hs K_.1 (ywa_s xpuB_w List.mem_cons_self), Or.inl (⟨xq_ltT rfl rfl (K_.2.2.1 _ List.mem_cons_self), xq_ltF rfl rfl (K_.2.2.1 _ (List.mem_cons_of_mem _ List.mem_cons_self)), xq_eqF rfl rfl (K_.2.2.1 _ (List.mem_cons_of_mem _ (List.mem_cons_of_mem _ List.mem_cons_self))), fun a_ j_ => yfr_bp K_.2.2.2 (fun q_ hq => absurd hq List.not_mem_nil), G_⟩)⟩
  · rcases List.mem_cons.mp hq with e_ | hq
    · subst e_
      exact ⟨h', yfr_sm K_.2.2.2 hs K_.1 (ywa_r xpuB_w List.mem_cons_self), Or.inr (Or.inl (⟨xq_ltT rfl rfl (K_.2.2.1 _ List.mem_cons_self), xq_eqF rfl rfl (K_.2.2.1 _ (List.mem_cons_of_mem _ List.mem_cons_self)), bpat_of (K_.2.1 _ List.mem_cons_self), fun a_ j_ n0_ => yfr_bp K_.2.2.2 (List.forall_mem_cons.mpr ⟨fun e_ => n0_ ⟨e_.1.symm, e_.2.symm⟩, fun q_ hq => absurd hq List.not_mem_nil⟩), G_⟩))⟩
    rcases List.mem_cons.mp hq with e_ | hq
    · subst e_
      exact ⟨h', yfr_sm K_.2.2.2 hs K_.1 (ywa_r xpuB_w (List.mem_cons_of_mem _ List.mem_cons_self)), Or.inr (Or.inr (Or.inl (⟨xq_ltF rfl rfl (K_.2.2.1 _ List.mem_cons_self), xq_ltF rfl rfl (K_.2.2.1 _ (List.mem_cons_of_mem _ List.mem_cons_self)), xq_eqF rfl rfl (K_.2.2.1 _ (List.mem_cons_of_mem _ (List.mem_cons_of_mem _ List.mem_cons_self))), bpat_of (K_.2.1 _ List.mem_cons_self), fun a_ j_ n0_ => yfr_bp K_.2.2.2 (List.forall_mem_cons.mpr ⟨fun e_ => n0_ ⟨e_.1.symm, e_.2.symm⟩, fun q_ hq => absurd hq List.not_mem_nil⟩), G_⟩)))⟩
    have e_ := List.mem_singleton.mp hq
    subst e_
    exact ⟨h', yfr_sm K_.2.2.2 hs K_.1 (ywa_r xpuB_w (List.mem_cons_of_mem _ (List.mem_cons_of_mem _ List.mem_cons_self))), Or.inr (Or.inr (Or.inr (⟨xq_eqT rfl rfl (K_.2.2.1 _ List.mem_cons_self), bpat_of (K_.2.1 _ List.mem_cons_self), fun a_ j_ n0_ => yfr_bp K_.2.2.2 (List.forall_mem_cons.mpr ⟨fun e_ => n0_ ⟨e_.1.symm, e_.2.symm⟩, fun q_ hq => absurd hq List.not_mem_nil⟩), G_⟩)))⟩
-- xpuO0: 17 steps, 0 ends, 1 returns
def xpuO0_L : List (Nat × Nat × Nat) := [(1000, 7, 3), (1001, 20, 24)]
def xpuO0_O : yO := [(1000, .int 0, .index 1001), (1000, .int 1, .arg 320)]
def xpuO0_A : yA := (yZ xpuO0_L, [(.arg 2, 24)], [], [], [])
def xpuO0_C : List xB := [(.eq, .arg 320, .int 8, true)]
def xpuO0_ss : List yS := []
def xpuO0_rs : List yR := [(some (.int 1), [(1001, .arg 2, .op1 .i2b (.arg 3)), (1000, .int 0, .index 1001), (1000, .int 1, .arg 320)], [(.eq, .arg 320, .int 8, true)], [(1001, .arg 2)])]
theorem xpuO0_w : ywa xpuO0_A xpuO0_ss xpuO0_rs = true := by decide +kernel
theorem xpuO0_k : yis (yev xpuO0_A 3000 60 109 [] (54, [(4, .index 1000), (0, .index 0), (1, .arg 1), (2, .arg 2), (3, .arg 3)], [], xpuO0_O, xpuO0_C, [])) xpuO0_ss xpuO0_rs = true := by decide +kernel
def xpuO0_r (v1_ v2 v3 v320 : Int32) (k_ : Nat) : Value := bif Nat.beq k_ 1 then .int v1_ else (bif Nat.beq k_ 2 then .int v2 else (bif Nat.beq k_ 3 then .int v3 else (bif Nat.beq k_ 320 then .int v320 else (.int 0))))
def xpuO0_s (a1000 a1001 : Nat) (n_ : Nat) : Nat := bif Nat.beq n_ 1000 then a1000 else (bif Nat.beq n_ 1001 then a1001 else (0))
theorem xpuO0 {h_ : xH} {a1000 a1001 : Nat} {v1_ v2 v3 v320 : Int32} (hs : sHp h_) (k1000 : bcq h_ a1000 7 3) (k1001 : bcq h_ a1001 20 24) (o0_ : bpat h_ a1000 0 = some (.index a1001)) (o1 : bpat h_ a1000 1 = some (.int v320)) (b0 : 0 ≤ (v2).toInt ∧ (v2).toInt < 24) (c0_ : v320 = (8 : Int32)) : ∃ h', ysm h_ h' ∧ (((bpat h' a1001 (v2).toInt.toNat = some (.int (v3).toInt8.toInt32)) ∧ (∀ a_ j_ : Nat, ¬ (a_ = a1001 ∧ j_ = (v2).toInt.toNat) → bpat h' a_ j_ = bpat h_ a_ j_) ∧ (∀ D_, 60 ≤ D_ → xrun D_ 109 54 [(4, .index a1000), (0, .index 0), (1, .int v1_), (2, .int v2), (3, .int v3)] [] h_ (some (.int (1 : Int32)), h', [])))) := by
  have hA : yas xpuO0_A (xpuO0_r v1_ v2 v3 v320) (yg (xpuO0_s a1000 a1001)) := ⟨List.forall_mem_cons.mpr ⟨b0, fun q_ hq => absurd hq List.not_mem_nil⟩, fun q_ hq => absurd hq List.not_mem_nil, fun q_ hq => absurd hq List.not_mem_nil, fun n_ hn => yg_lo hn, fun q_ hq => absurd hq List.not_mem_nil⟩
  have Hs : ysh xpuO0_A.1 (yg (xpuO0_s a1000 a1001)) h_ := ysh_of2 hs (List.forall_mem_cons.mpr ⟨⟨by decide, k1000⟩, List.forall_mem_cons.mpr ⟨⟨by decide, k1001⟩, fun q_ hq => absurd hq List.not_mem_nil⟩⟩)
  have Ho : ymem (xpuO0_r v1_ v2 v3 v320) (yg (xpuO0_s a1000 a1001)) xpuO0_O h_ := List.forall_mem_cons.mpr ⟨bpat_some o0_, List.forall_mem_cons.mpr ⟨bpat_some o1, fun q_ hq => absurd hq List.not_mem_nil⟩⟩
  have HC : ∀ q_ ∈ xpuO0_C, xhold (xpuO0_r v1_ v2 v3 v320) q_ := List.forall_mem_cons.mpr ⟨xh_eqT2 c0_, fun q_ hq => absurd hq List.not_mem_nil⟩
  rcases yrun (yis_ok xpuO0_k) hA Hs Ho HC with ⟨q_, hq, h', K_, G_⟩ | ⟨q_, hq, h', K_, G_⟩
  · cases hq
  · have e_ := List.mem_singleton.mp hq
    subst e_
    exact ⟨h', yfr_sm K_.2.2.2 hs K_.1 (ywa_r xpuO0_w List.mem_cons_self), ⟨bpat_of (K_.2.1 _ List.mem_cons_self), fun a_ j_ n0_ => yfr_bp K_.2.2.2 (List.forall_mem_cons.mpr ⟨fun e_ => n0_ ⟨e_.1.symm, e_.2.symm⟩, fun q_ hq => absurd hq List.not_mem_nil⟩), G_⟩⟩
-- xpuO1: 21 steps, 0 ends, 1 returns
def xpuO1_L : List (Nat × Nat × Nat) := [(1000, 7, 3), (1001, 20, 24)]
def xpuO1_O : yO := [(1000, .int 0, .index 1001), (1000, .int 1, .arg 320)]
def xpuO1_A : yA := (yZ xpuO1_L, [(.arg 2, 24)], [], [], [])
def xpuO1_C : List xB := [(.eq, .arg 320, .int 16, true), (.eq, .arg 320, .int 8, false)]
def xpuO1_ss : List yS := []
def xpuO1_rs : List yR := [(some (.int 1), [(1001, .arg 2, .op1 .i2s (.arg 3)), (1000, .int 0, .index 1001), (1000, .int 1, .arg 320)], [(.eq, .arg 320, .int 16, true), (.eq, .arg 320, .int 8, false)], [(1001, .arg 2)])]
theorem xpuO1_w : ywa xpuO1_A xpuO1_ss xpuO1_rs = true := by decide +kernel
theorem xpuO1_k : yis (yev xpuO1_A 3000 60 109 [] (54, [(4, .index 1000), (0, .index 0), (1, .arg 1), (2, .arg 2), (3, .arg 3)], [], xpuO1_O, xpuO1_C, [])) xpuO1_ss xpuO1_rs = true := by decide +kernel
def xpuO1_r (v1_ v2 v3 v320 : Int32) (k_ : Nat) : Value := bif Nat.beq k_ 1 then .int v1_ else (bif Nat.beq k_ 2 then .int v2 else (bif Nat.beq k_ 3 then .int v3 else (bif Nat.beq k_ 320 then .int v320 else (.int 0))))
def xpuO1_s (a1000 a1001 : Nat) (n_ : Nat) : Nat := bif Nat.beq n_ 1000 then a1000 else (bif Nat.beq n_ 1001 then a1001 else (0))
theorem xpuO1 {h_ : xH} {a1000 a1001 : Nat} {v1_ v2 v3 v320 : Int32} (hs : sHp h_) (k1000 : bcq h_ a1000 7 3) (k1001 : bcq h_ a1001 20 24) (o0_ : bpat h_ a1000 0 = some (.index a1001)) (o1 : bpat h_ a1000 1 = some (.int v320)) (b0 : 0 ≤ (v2).toInt ∧ (v2).toInt < 24) (c0_ : v320 = (16 : Int32)) (c1_ : ¬ v320 = (8 : Int32)) : ∃ h', ysm h_ h' ∧ (((bpat h' a1001 (v2).toInt.toNat = some (.int (v3).toInt16.toInt32)) ∧ (∀ a_ j_ : Nat, ¬ (a_ = a1001 ∧ j_ = (v2).toInt.toNat) → bpat h' a_ j_ = bpat h_ a_ j_) ∧ (∀ D_, 60 ≤ D_ → xrun D_ 109 54 [(4, .index a1000), (0, .index 0), (1, .int v1_), (2, .int v2), (3, .int v3)] [] h_ (some (.int (1 : Int32)), h', [])))) := by
  have hA : yas xpuO1_A (xpuO1_r v1_ v2 v3 v320) (yg (xpuO1_s a1000 a1001)) := ⟨List.forall_mem_cons.mpr ⟨b0, fun q_ hq => absurd hq List.not_mem_nil⟩, fun q_ hq => absurd hq List.not_mem_nil, fun q_ hq => absurd hq List.not_mem_nil, fun n_ hn => yg_lo hn, fun q_ hq => absurd hq List.not_mem_nil⟩
  have Hs : ysh xpuO1_A.1 (yg (xpuO1_s a1000 a1001)) h_ := ysh_of2 hs (List.forall_mem_cons.mpr ⟨⟨by decide, k1000⟩, List.forall_mem_cons.mpr ⟨⟨by decide, k1001⟩, fun q_ hq => absurd hq List.not_mem_nil⟩⟩)
  have Ho : ymem (xpuO1_r v1_ v2 v3 v320) (yg (xpuO1_s a1000 a1001)) xpuO1_O h_ := List.forall_mem_cons.mpr ⟨bpat_some o0_, List.forall_mem_cons.mpr ⟨bpat_some o1, fun q_ hq => absurd hq List.not_mem_nil⟩⟩
  have HC : ∀ q_ ∈ xpuO1_C, xhold (xpuO1_r v1_ v2 v3 v320) q_ := List.forall_mem_cons.mpr ⟨xh_eqT2 c0_, List.forall_mem_cons.mpr ⟨xh_eqF2 c1_, fun q_ hq => absurd hq List.not_mem_nil⟩⟩
  rcases yrun (yis_ok xpuO1_k) hA Hs Ho HC with ⟨q_, hq, h', K_, G_⟩ | ⟨q_, hq, h', K_, G_⟩
  · cases hq
  · have e_ := List.mem_singleton.mp hq
    subst e_
    exact ⟨h', yfr_sm K_.2.2.2 hs K_.1 (ywa_r xpuO1_w List.mem_cons_self), ⟨bpat_of (K_.2.1 _ List.mem_cons_self), fun a_ j_ n0_ => yfr_bp K_.2.2.2 (List.forall_mem_cons.mpr ⟨fun e_ => n0_ ⟨e_.1.symm, e_.2.symm⟩, fun q_ hq => absurd hq List.not_mem_nil⟩), G_⟩⟩
-- xpuO2: 19 steps, 0 ends, 1 returns
def xpuO2_L : List (Nat × Nat × Nat) := [(1000, 7, 3), (1001, 20, 24)]
def xpuO2_O : yO := [(1000, .int 0, .index 1001), (1000, .int 1, .arg 320)]
def xpuO2_A : yA := (yZ xpuO2_L, [(.arg 2, 24)], [], [], [])
def xpuO2_C : List xB := [(.eq, .arg 320, .int 16, false), (.eq, .arg 320, .int 8, false)]
def xpuO2_ss : List yS := []
def xpuO2_rs : List yR := [(some (.int 1), [(1001, .arg 2, .arg 3), (1000, .int 0, .index 1001), (1000, .int 1, .arg 320)], [(.eq, .arg 320, .int 16, false), (.eq, .arg 320, .int 8, false)], [(1001, .arg 2)])]
theorem xpuO2_w : ywa xpuO2_A xpuO2_ss xpuO2_rs = true := by decide +kernel
theorem xpuO2_k : yis (yev xpuO2_A 3000 60 109 [] (54, [(4, .index 1000), (0, .index 0), (1, .arg 1), (2, .arg 2), (3, .arg 3)], [], xpuO2_O, xpuO2_C, [])) xpuO2_ss xpuO2_rs = true := by decide +kernel
def xpuO2_r (v1_ v2 v3 v320 : Int32) (k_ : Nat) : Value := bif Nat.beq k_ 1 then .int v1_ else (bif Nat.beq k_ 2 then .int v2 else (bif Nat.beq k_ 3 then .int v3 else (bif Nat.beq k_ 320 then .int v320 else (.int 0))))
def xpuO2_s (a1000 a1001 : Nat) (n_ : Nat) : Nat := bif Nat.beq n_ 1000 then a1000 else (bif Nat.beq n_ 1001 then a1001 else (0))
theorem xpuO2 {h_ : xH} {a1000 a1001 : Nat} {v1_ v2 v3 v320 : Int32} (hs : sHp h_) (k1000 : bcq h_ a1000 7 3) (k1001 : bcq h_ a1001 20 24) (o0_ : bpat h_ a1000 0 = some (.index a1001)) (o1 : bpat h_ a1000 1 = some (.int v320)) (b0 : 0 ≤ (v2).toInt ∧ (v2).toInt < 24) (c0_ : ¬ v320 = (16 : Int32)) (c1_ : ¬ v320 = (8 : Int32)) : ∃ h', ysm h_ h' ∧ (((bpat h' a1001 (v2).toInt.toNat = some (.int v3)) ∧ (∀ a_ j_ : Nat, ¬ (a_ = a1001 ∧ j_ = (v2).toInt.toNat) → bpat h' a_ j_ = bpat h_ a_ j_) ∧ (∀ D_, 60 ≤ D_ → xrun D_ 109 54 [(4, .index a1000), (0, .index 0), (1, .int v1_), (2, .int v2), (3, .int v3)] [] h_ (some (.int (1 : Int32)), h', [])))) := by
  have hA : yas xpuO2_A (xpuO2_r v1_ v2 v3 v320) (yg (xpuO2_s a1000 a1001)) := ⟨List.forall_mem_cons.mpr ⟨b0, fun q_ hq => absurd hq List.not_mem_nil⟩, fun q_ hq => absurd hq List.not_mem_nil, fun q_ hq => absurd hq List.not_mem_nil, fun n_ hn => yg_lo hn, fun q_ hq => absurd hq List.not_mem_nil⟩
  have Hs : ysh xpuO2_A.1 (yg (xpuO2_s a1000 a1001)) h_ := ysh_of2 hs (List.forall_mem_cons.mpr ⟨⟨by decide, k1000⟩, List.forall_mem_cons.mpr ⟨⟨by decide, k1001⟩, fun q_ hq => absurd hq List.not_mem_nil⟩⟩)
  have Ho : ymem (xpuO2_r v1_ v2 v3 v320) (yg (xpuO2_s a1000 a1001)) xpuO2_O h_ := List.forall_mem_cons.mpr ⟨bpat_some o0_, List.forall_mem_cons.mpr ⟨bpat_some o1, fun q_ hq => absurd hq List.not_mem_nil⟩⟩
  have HC : ∀ q_ ∈ xpuO2_C, xhold (xpuO2_r v1_ v2 v3 v320) q_ := List.forall_mem_cons.mpr ⟨xh_eqF2 c0_, List.forall_mem_cons.mpr ⟨xh_eqF2 c1_, fun q_ hq => absurd hq List.not_mem_nil⟩⟩
  rcases yrun (yis_ok xpuO2_k) hA Hs Ho HC with ⟨q_, hq, h', K_, G_⟩ | ⟨q_, hq, h', K_, G_⟩
  · cases hq
  · have e_ := List.mem_singleton.mp hq
    subst e_
    exact ⟨h', yfr_sm K_.2.2.2 hs K_.1 (ywa_r xpuO2_w List.mem_cons_self), ⟨bpat_of (K_.2.1 _ List.mem_cons_self), fun a_ j_ n0_ => yfr_bp K_.2.2.2 (List.forall_mem_cons.mpr ⟨fun e_ => n0_ ⟨e_.1.symm, e_.2.symm⟩, fun q_ hq => absurd hq List.not_mem_nil⟩), G_⟩⟩
-- mpuA: 57 steps, 1 ends, 2 returns
def mpuA_L : List (Nat × Nat × Nat) := []
def mpuA_O : yO := [(338, .int 3, .index 341), (341, .int 1, .arg 400)]
def mpuA_A : yA := (yZ mpuA_L, [], [], [], [])
def mpuA_C : List xB := []
def mpuA_ss : List yS := [(13, [(0, .index 338), (1, .arg 1), (2, .arg 2), (3, .arg 3)], [], [(338, .int 3, .index 341), (341, .int 1, .arg 400)], [(.le, .arg 1, .int 3, true), (.lt, .arg 1, .int 0, false)], [])]
def mpuA_rs : List yR := [(some (.int (Int32.ofInt (-1000001))), [(341, .int 1, .add (.arg 400) (.int 1)), (338, .int 3, .index 341)], [(.lt, .arg 1, .int 0, true)], [(341, .int 1)]),
  (some (.int (Int32.ofInt (-1000001))), [(341, .int 1, .add (.arg 400) (.int 1)), (338, .int 3, .index 341)], [(.le, .arg 1, .int 3, false), (.lt, .arg 1, .int 0, false)], [(341, .int 1)])]
theorem mpuA_w : ywa mpuA_A mpuA_ss mpuA_rs = true := by decide +kernel
theorem mpuA_k : yis (yev mpuA_A 3000 60 229 [13] (0, [(0, .index 338), (1, .arg 1), (2, .arg 2), (3, .arg 3)], [], mpuA_O, mpuA_C, [])) mpuA_ss mpuA_rs = true := by decide +kernel
def mpuA_r (v1_ v2 v3 v400 : Int32) (k_ : Nat) : Value := bif Nat.beq k_ 1 then .int v1_ else (bif Nat.beq k_ 2 then .int v2 else (bif Nat.beq k_ 3 then .int v3 else (bif Nat.beq k_ 400 then .int v400 else (.int 0))))
def mpuA_s (n_ : Nat) : Nat := 0
theorem mpuA {h_ : xH} {v1_ v2 v3 v400 : Int32} (hs : sHp h_) (o0_ : bpat h_ 341 1 = some (.int v400)) : ∃ h', ysm h_ h' ∧ (((v1_.toInt ≤ (3 : Int32).toInt) ∧ ((0 : Int32).toInt ≤ v1_.toInt) ∧ (∀ a_ j_ : Nat, bpat h' a_ j_ = bpat h_ a_ j_) ∧ (bldD 60 229 0 [(0, .index 338), (1, .int v1_), (2, .int v2), (3, .int v3)] [] h_ 13 [(0, .index 338), (1, .int v1_), (2, .int v2), (3, .int v3)] [] h'))
  ∨ ((v1_.toInt < (0 : Int32).toInt) ∧ (bpat h' 341 1 = some (.int (v400 + (1 : Int32)))) ∧ (∀ a_ j_ : Nat, ¬ (a_ = 341 ∧ j_ = 1) → bpat h' a_ j_ = bpat h_ a_ j_) ∧ (∀ D_, 60 ≤ D_ → xrun D_ 229 0 [(0, .index 338), (1, .int v1_), (2, .int v2), (3, .int v3)] [] h_ (some (.int (Int32.ofInt (-1000001))), h', [])))
  ∨ (((3 : Int32).toInt < v1_.toInt) ∧ ((0 : Int32).toInt ≤ v1_.toInt) ∧ (bpat h' 341 1 = some (.int (v400 + (1 : Int32)))) ∧ (∀ a_ j_ : Nat, ¬ (a_ = 341 ∧ j_ = 1) → bpat h' a_ j_ = bpat h_ a_ j_) ∧ (∀ D_, 60 ≤ D_ → xrun D_ 229 0 [(0, .index 338), (1, .int v1_), (2, .int v2), (3, .int v3)] [] h_ (some (.int (Int32.ofInt (-1000001))), h', [])))) := by
  have hA : yas mpuA_A (mpuA_r v1_ v2 v3 v400) (yg mpuA_s) := ⟨fun q_ hq => absurd hq List.not_mem_nil, fun q_ hq => absurd hq List.not_mem_nil, fun q_ hq => absurd hq List.not_mem_nil, fun n_ hn => yg_lo hn, fun q_ hq => absurd hq List.not_mem_nil⟩
  have Hs : ysh mpuA_A.1 (yg mpuA_s) h_ := ysh_of2 hs (fun q_ hq => absurd hq List.not_mem_nil)
  have Ho : ymem (mpuA_r v1_ v2 v3 v400) (yg mpuA_s) mpuA_O h_ := List.forall_mem_cons.mpr ⟨bpat_some (fxr_at hs.2 (show fxk fxl 338 3 = some 341 by decide +kernel)), List.forall_mem_cons.mpr ⟨bpat_some o0_, fun q_ hq => absurd hq List.not_mem_nil⟩⟩
  have HC : ∀ q_ ∈ mpuA_C, xhold (mpuA_r v1_ v2 v3 v400) q_ := fun q_ hq => absurd hq List.not_mem_nil
  rcases yrun (yis_ok mpuA_k) hA Hs Ho HC with ⟨q_, hq, h', K_, G_⟩ | ⟨q_, hq, h', K_, G_⟩
  · have e_ := List.mem_singleton.mp hq
    subst e_
    exact ⟨h', yfr_sm K_.2.2.2 hs K_.1 (ywa_s mpuA_w List.mem_cons_self), Or.inl (⟨xq_leT rfl rfl (K_.2.2.1 _ List.mem_cons_self), xq_ltF rfl rfl (K_.2.2.1 _ (List.mem_cons_of_mem _ List.mem_cons_self)), fun a_ j_ => yfr_bp K_.2.2.2 (fun q_ hq => absurd hq List.not_mem_nil), G_⟩)⟩
  · rcases List.mem_cons.mp hq with e_ | hq
    · subst e_
      exact ⟨h', yfr_sm K_.2.2.2 hs K_.1 (ywa_r mpuA_w List.mem_cons_self), Or.inr (Or.inl (⟨xq_ltT rfl rfl (K_.2.2.1 _ List.mem_cons_self), bpat_of (K_.2.1 _ List.mem_cons_self), fun a_ j_ n0_ => yfr_bp K_.2.2.2 (List.forall_mem_cons.mpr ⟨fun e_ => n0_ ⟨e_.1.symm, e_.2.symm⟩, fun q_ hq => absurd hq List.not_mem_nil⟩), G_⟩))⟩
    have e_ := List.mem_singleton.mp hq
    subst e_
    exact ⟨h', yfr_sm K_.2.2.2 hs K_.1 (ywa_r mpuA_w (List.mem_cons_of_mem _ List.mem_cons_self)), Or.inr (Or.inr (⟨xq_leF rfl rfl (K_.2.2.1 _ List.mem_cons_self), xq_ltF rfl rfl (K_.2.2.1 _ (List.mem_cons_of_mem _ List.mem_cons_self)), bpat_of (K_.2.1 _ List.mem_cons_self), fun a_ j_ n0_ => yfr_bp K_.2.2.2 (List.forall_mem_cons.mpr ⟨fun e_ => n0_ ⟨e_.1.symm, e_.2.symm⟩, fun q_ hq => absurd hq List.not_mem_nil⟩), G_⟩))⟩
-- mpuB: 78 steps, 1 ends, 3 returns
def mpuB_L : List (Nat × Nat × Nat) := []
def mpuB_O : yO := [(338, .int 22, .index 350), (350, .arg 1, .arg 320), (338, .int 23, .index 351), (351, .arg 1, .arg 321), (338, .int 3, .index 341), (341, .int 1, .arg 400), (341, .int 2, .arg 401)]
def mpuB_A : yA := (yZ mpuB_L, [(.arg 1, 4)], [], [], [])
def mpuB_C : List xB := []
def mpuB_ss : List yS := [(50, [(0, .index 338), (1, .arg 1), (2, .arg 2), (3, .arg 3)], [], [(338, .int 22, .index 350), (350, .arg 1, .arg 320), (338, .int 23, .index 351), (351, .arg 1, .arg 321), (338, .int 3, .index 341), (341, .int 1, .arg 400), (341, .int 2, .arg 401)], [(.le, .arg 2, .sub (.arg 321) (.int 1), true), (.lt, .arg 2, .int 0, false), (.eq, .arg 320, .int 0, false)], [])]
def mpuB_rs : List yR := [(some (.int (Int32.ofInt (-1000001))), [(341, .int 1, .add (.arg 400) (.int 1)), (338, .int 22, .index 350), (350, .arg 1, .arg 320), (338, .int 23, .index 351), (351, .arg 1, .arg 321), (338, .int 3, .index 341), (341, .int 2, .arg 401)], [(.lt, .arg 2, .int 0, true), (.eq, .arg 320, .int 0, false)], [(341, .int 1)]),
  (some (.int (Int32.ofInt (-1000001))), [(341, .int 1, .add (.arg 400) (.int 1)), (338, .int 22, .index 350), (350, .arg 1, .arg 320), (338, .int 23, .index 351), (351, .arg 1, .arg 321), (338, .int 3, .index 341), (341, .int 2, .arg 401)], [(.le, .arg 2, .sub (.arg 321) (.int 1), false), (.lt, .arg 2, .int 0, false), (.eq, .arg 320, .int 0, false)], [(341, .int 1)]),
  (some (.int (Int32.ofInt (-1000002))), [(341, .int 2, .add (.arg 401) (.int 1)), (338, .int 22, .index 350), (350, .arg 1, .arg 320), (338, .int 23, .index 351), (351, .arg 1, .arg 321), (338, .int 3, .index 341), (341, .int 1, .arg 400)], [(.eq, .arg 320, .int 0, true)], [(341, .int 2)])]
theorem mpuB_w : ywa mpuB_A mpuB_ss mpuB_rs = true := by decide +kernel
theorem mpuB_k : yis (yev mpuB_A 3000 60 229 [50] (13, [(0, .index 338), (1, .arg 1), (2, .arg 2), (3, .arg 3)], [], mpuB_O, mpuB_C, [])) mpuB_ss mpuB_rs = true := by decide +kernel
def mpuB_r (v1_ v2 v3 v320 v321 v400 v401 : Int32) (k_ : Nat) : Value := bif Nat.beq k_ 1 then .int v1_ else (bif Nat.beq k_ 2 then .int v2 else (bif Nat.beq k_ 3 then .int v3 else (bif Nat.beq k_ 320 then .int v320 else (bif Nat.beq k_ 321 then .int v321 else (bif Nat.beq k_ 400 then .int v400 else (bif Nat.beq k_ 401 then .int v401 else (.int 0)))))))
def mpuB_s (n_ : Nat) : Nat := 0
theorem mpuB {h_ : xH} {v1_ v2 v3 v320 v321 v400 v401 : Int32} (hs : sHp h_) (o0_ : bpat h_ 350 (v1_).toInt.toNat = some (.int v320)) (o1 : bpat h_ 351 (v1_).toInt.toNat = some (.int v321)) (o2 : bpat h_ 341 1 = some (.int v400)) (o3_ : bpat h_ 341 2 = some (.int v401)) (b0 : 0 ≤ (v1_).toInt ∧ (v1_).toInt < 4) : ∃ h', ysm h_ h' ∧ (((v2.toInt ≤ (v321 - (1 : Int32)).toInt) ∧ ((0 : Int32).toInt ≤ v2.toInt) ∧ (¬ v320 = (0 : Int32)) ∧ (∀ a_ j_ : Nat, bpat h' a_ j_ = bpat h_ a_ j_) ∧ (bldD 60 229 13 [(0, .index 338), (1, .int v1_), (2, .int v2), (3, .int v3)] [] h_ 50 [(0, .index 338), (1, .int v1_), (2, .int v2), (3, .int v3)] [] h'))
  ∨ ((v2.toInt < (0 : Int32).toInt) ∧ (¬ v320 = (0 : Int32)) ∧ (bpat h' 341 1 = some (.int (v400 + (1 : Int32)))) ∧ (∀ a_ j_ : Nat, ¬ (a_ = 341 ∧ j_ = 1) → bpat h' a_ j_ = bpat h_ a_ j_) ∧ (∀ D_, 60 ≤ D_ → xrun D_ 229 13 [(0, .index 338), (1, .int v1_), (2, .int v2), (3, .int v3)] [] h_ (some (.int (Int32.ofInt (-1000001))), h', [])))
  ∨ (((v321 - (1 : Int32)).toInt < v2.toInt) ∧ ((0 : Int32).toInt ≤ v2.toInt) ∧ (¬ v320 = (0 : Int32)) ∧ (bpat h' 341 1 = some (.int (v400 + (1 : Int32)))) ∧ (∀ a_ j_ : Nat, ¬ (a_ = 341 ∧ j_ = 1) → bpat h' a_ j_ = bpat h_ a_ j_) ∧ (∀ D_, 60 ≤ D_ → xrun D_ 229 13 [(0, .index 338), (1, .int v1_), (2, .int v2), (3, .int v3)] [] h_ (some (.int (Int32.ofInt (-1000001))), h', [])))
  ∨ ((v320 = (0 : Int32)) ∧ (bpat h' 341 2 = some (.int (v401 + (1 : Int32)))) ∧ (∀ a_ j_ : Nat, ¬ (a_ = 341 ∧ j_ = 2) → bpat h' a_ j_ = bpat h_ a_ j_) ∧ (∀ D_, 60 ≤ D_ → xrun D_ 229 13 [(0, .index 338), (1, .int v1_), (2, .int v2), (3, .int v3)] [] h_ (some (.int (Int32.ofInt (-1000002))), h', [])))) := by
  have hA : yas mpuB_A (mpuB_r v1_ v2 v3 v320 v321 v400 v401) (yg mpuB_s) := ⟨List.forall_mem_cons.mpr ⟨b0, fun q_ hq => absurd hq List.not_mem_nil⟩, fun q_ hq => absurd hq List.not_mem_nil, fun q_ hq => absurd hq List.not_mem_nil, fun n_ hn => yg_lo hn, fun q_ hq => absurd hq List.not_mem_nil⟩
  have Hs : ysh mpuB_A.1 (yg mpuB_s) h_ := ysh_of2 hs (fun q_ hq => absurd hq List.not_mem_nil)
  have Ho : ymem (mpuB_r v1_ v2 v3 v320 v321 v400 v401) (yg mpuB_s) mpuB_O h_ := List.forall_mem_cons.mpr ⟨bpat_some (fxr_at hs.2 (show fxk fxl 338 22 = some 350 by decide +kernel)), List.forall_mem_cons.mpr ⟨bpat_some o0_, List.forall_mem_cons.mpr ⟨bpat_some (fxr_at hs.2 (show fxk fxl 338 23 = some 351 by decide +kernel)), List.forall_mem_cons.mpr ⟨bpat_some o1, List.forall_mem_cons.mpr ⟨bpat_some (fxr_at hs.2 (show fxk fxl 338 3 = some 341 by decide +kernel)), List.forall_mem_cons.mpr ⟨bpat_some o2, List.forall_mem_cons.mpr ⟨bpat_some o3_, fun q_ hq => absurd hq List.not_mem_nil⟩⟩⟩⟩⟩⟩⟩
  have HC : ∀ q_ ∈ mpuB_C, xhold (mpuB_r v1_ v2 v3 v320 v321 v400 v401) q_ := fun q_ hq => absurd hq List.not_mem_nil
  rcases yrun (yis_ok mpuB_k) hA Hs Ho HC with ⟨q_, hq, h', K_, G_⟩ | ⟨q_, hq, h', K_, G_⟩
  · have e_ := List.mem_singleton.mp hq
    subst e_
    exact ⟨h', yfr_sm K_.2.2.2 hs K_.1 (ywa_s mpuB_w List.mem_cons_self), Or.inl (⟨xq_leT rfl (yv_sub2 rfl rfl) (K_.2.2.1 _ List.mem_cons_self), xq_ltF rfl rfl (K_.2.2.1 _ (List.mem_cons_of_mem _ List.mem_cons_self)), xq_eqF rfl rfl (K_.2.2.1 _ (List.mem_cons_of_mem _ (List.mem_cons_of_mem _ List.mem_cons_self))), fun a_ j_ => yfr_bp K_.2.2.2 (fun q_ hq => absurd hq List.not_mem_nil), G_⟩)⟩
  · rcases List.mem_cons.mp hq with e_ | hq
    · subst e_
      exact ⟨h', yfr_sm K_.2.2.2 hs K_.1 (ywa_r mpuB_w List.mem_cons_self), Or.inr (Or.inl (⟨xq_ltT rfl rfl (K_.2.2.1 _ List.mem_cons_self), xq_eqF rfl rfl (K_.2.2.1 _ (List.mem_cons_of_mem _ List.mem_cons_self)), bpat_of (K_.2.1 _ List.mem_cons_self), fun a_ j_ n0_ => yfr_bp K_.2.2.2 (List.forall_mem_cons.mpr ⟨fun e_ => n0_ ⟨e_.1.symm, e_.2.symm⟩, fun q_ hq => absurd hq List.not_mem_nil⟩), G_⟩))⟩
    rcases List.mem_cons.mp hq with e_ | hq
    · subst e_
      exact ⟨h', yfr_sm K_.2.2.2 hs K_.1 (ywa_r mpuB_w (List.mem_cons_of_mem _ List.mem_cons_self)), Or.inr (Or.inr (Or.inl (⟨xq_leF rfl (yv_sub2 rfl rfl) (K_.2.2.1 _ List.mem_cons_self), xq_ltF rfl rfl (K_.2.2.1 _ (List.mem_cons_of_mem _ List.mem_cons_self)), xq_eqF rfl rfl (K_.2.2.1 _ (List.mem_cons_of_mem _ (List.mem_cons_of_mem _ List.mem_cons_self))), bpat_of (K_.2.1 _ List.mem_cons_self), fun a_ j_ n0_ => yfr_bp K_.2.2.2 (List.forall_mem_cons.mpr ⟨fun e_ => n0_ ⟨e_.1.symm, e_.2.symm⟩, fun q_ hq => absurd hq List.not_mem_nil⟩), G_⟩)))⟩
    have e_ := List.mem_singleton.mp hq
    subst e_
    exact ⟨h', yfr_sm K_.2.2.2 hs K_.1 (ywa_r mpuB_w (List.mem_cons_of_mem _ (List.mem_cons_of_mem _ List.mem_cons_self))), Or.inr (Or.inr (Or.inr (⟨xq_eqT rfl rfl (K_.2.2.1 _ List.mem_cons_self), bpat_of (K_.2.1 _ List.mem_cons_self), fun a_ j_ n0_ => yfr_bp K_.2.2.2 (List.forall_mem_cons.mpr ⟨fun e_ => n0_ ⟨e_.1.symm, e_.2.symm⟩, fun q_ hq => absurd hq List.not_mem_nil⟩), G_⟩)))⟩
-- mpuO: 22 steps, 0 ends, 1 returns
def mpuO_L : List (Nat × Nat × Nat) := []
def mpuO_O : yO := [(338, .int 22, .index 350), (350, .arg 1, .arg 320), (338, .int 24, .index 352)]
def mpuO_A : yA := (yZ mpuO_L, [(.arg 1, 4), (.add (.mul (.int 24) (.arg 1)) (.arg 2), 96)], [], [], [])
def mpuO_C : List xB := []
def mpuO_ss : List yS := []
def mpuO_rs : List yR := [(some (.int 1), [(352, .add (.mul (.int 24) (.arg 1)) (.arg 2), .op2 .ishr (.op2 .ishl (.arg 3) (.sub (.int 32) (.arg 320))) (.sub (.int 32) (.arg 320))), (338, .int 22, .index 350), (350, .arg 1, .arg 320), (338, .int 24, .index 352)], [], [(352, .add (.mul (.int 24) (.arg 1)) (.arg 2))])]
theorem mpuO_w : ywa mpuO_A mpuO_ss mpuO_rs = true := by decide +kernel
theorem mpuO_k : yis (yev mpuO_A 3000 60 229 [] (50, [(0, .index 338), (1, .arg 1), (2, .arg 2), (3, .arg 3)], [], mpuO_O, mpuO_C, [])) mpuO_ss mpuO_rs = true := by decide +kernel
def mpuO_r (v1_ v2 v3 v320 : Int32) (k_ : Nat) : Value := bif Nat.beq k_ 1 then .int v1_ else (bif Nat.beq k_ 2 then .int v2 else (bif Nat.beq k_ 3 then .int v3 else (bif Nat.beq k_ 320 then .int v320 else (.int 0))))
def mpuO_s (n_ : Nat) : Nat := 0
theorem mpuO {h_ : xH} {v1_ v2 v3 v320 : Int32} (hs : sHp h_) (o0_ : bpat h_ 350 (v1_).toInt.toNat = some (.int v320)) (b0 : 0 ≤ (v1_).toInt ∧ (v1_).toInt < 4) (b1 : 0 ≤ ((((24 : Int32) * v1_) + v2)).toInt ∧ ((((24 : Int32) * v1_) + v2)).toInt < 96) : ∃ h', ysm h_ h' ∧ (((bpat h' 352 ((((24 : Int32) * v1_) + v2)).toInt.toNat = some (.int ((v3 <<< (((32 : Int32) - v320) &&& 31)) >>> (((32 : Int32) - v320) &&& 31)))) ∧ (∀ a_ j_ : Nat, ¬ (a_ = 352 ∧ j_ = ((((24 : Int32) * v1_) + v2)).toInt.toNat) → bpat h' a_ j_ = bpat h_ a_ j_) ∧ (∀ D_, 60 ≤ D_ → xrun D_ 229 50 [(0, .index 338), (1, .int v1_), (2, .int v2), (3, .int v3)] [] h_ (some (.int (1 : Int32)), h', [])))) := by
  have hA : yas mpuO_A (mpuO_r v1_ v2 v3 v320) (yg mpuO_s) := ⟨List.forall_mem_cons.mpr ⟨b0, List.forall_mem_cons.mpr ⟨b1, fun q_ hq => absurd hq List.not_mem_nil⟩⟩, fun q_ hq => absurd hq List.not_mem_nil, fun q_ hq => absurd hq List.not_mem_nil, fun n_ hn => yg_lo hn, fun q_ hq => absurd hq List.not_mem_nil⟩
  have Hs : ysh mpuO_A.1 (yg mpuO_s) h_ := ysh_of2 hs (fun q_ hq => absurd hq List.not_mem_nil)
  have Ho : ymem (mpuO_r v1_ v2 v3 v320) (yg mpuO_s) mpuO_O h_ := List.forall_mem_cons.mpr ⟨bpat_some (fxr_at hs.2 (show fxk fxl 338 22 = some 350 by decide +kernel)), List.forall_mem_cons.mpr ⟨bpat_some o0_, List.forall_mem_cons.mpr ⟨bpat_some (fxr_at hs.2 (show fxk fxl 338 24 = some 352 by decide +kernel)), fun q_ hq => absurd hq List.not_mem_nil⟩⟩⟩
  have HC : ∀ q_ ∈ mpuO_C, xhold (mpuO_r v1_ v2 v3 v320) q_ := fun q_ hq => absurd hq List.not_mem_nil
  rcases yrun (yis_ok mpuO_k) hA Hs Ho HC with ⟨q_, hq, h', K_, G_⟩ | ⟨q_, hq, h', K_, G_⟩
  · cases hq
  · have e_ := List.mem_singleton.mp hq
    subst e_
    exact ⟨h', yfr_sm K_.2.2.2 hs K_.1 (ywa_r mpuO_w List.mem_cons_self), ⟨bpat_of (K_.2.1 _ List.mem_cons_self), fun a_ j_ n0_ => yfr_bp K_.2.2.2 (List.forall_mem_cons.mpr ⟨fun e_ => n0_ ⟨e_.1.symm, e_.2.symm⟩, fun q_ hq => absurd hq List.not_mem_nil⟩), G_⟩⟩
def putF (W_ : Nat → List Int32) (V : Nat → Int32) (z_ i_ d_ : Int32) : (Nat → List Int32) × (Nat → Int32) × Int32 := if 0 ≤ z_.toInt ∧ z_.toInt < 4 then (if (V (210 + 2 * z_.toInt.toNat)).toInt = 0 then (W_, V, Int32.ofInt (-1000002)) else if 0 ≤ i_.toInt ∧ i_.toInt < (V (211 + 2 * z_.toInt.toNat)).toInt then (upR W_ (40 + z_.toInt.toNat) ((W_ (40 + z_.toInt.toNat)).set i_.toInt.toNat (lowb (V (210 + 2 * z_.toInt.toNat)) d_)), V, 1) else (W_, V, Int32.ofInt (-1000001))) else (W_, V, Int32.ofInt (-1000001))
theorem set_at {l : List Int32} {i_ j_ : Nat} {y_ q_ : Int32} (h_ : (l.set i_ q_)[j_]? = some y_) : (j_ = i_ ∧ y_ = q_) ∨ (¬ j_ = i_ ∧ l[j_]? = some y_) := by
  by_cases g_ : j_ = i_
  · subst g_
    have lj := (List.getElem?_eq_some_iff.mp h_).1
    rw [List.length_set] at lj
    rw [List.getElem?_set_self lj] at h_
    exact Or.inl ⟨rfl, (Option.some.inj h_).symm⟩
  · rw [List.getElem?_set_ne (fun q_ => g_ q_.symm)] at h_
    exact Or.inr ⟨g_, h_⟩
theorem x_put {W_ : Nat → List Int32} {V : Nat → Int32} {h_ : xH} {z_ i_ d_ : Int32} (B_ : bInv bZ bIj h_) (K_ : okS W_ V) (H_ : SX W_ V h_) : ∃ h', ysm h_ h' ∧ (SX (putF W_ V z_ i_ d_).1 (putF W_ V z_ i_ d_).2.1 h' ∧ ∀ D_, 60 ≤ D_ → xrun D_ 109 0 [(0, .index 0), (1, .int z_), (2, .int i_), (3, .int d_)] [] h_ (some (.int (putF W_ V z_ i_ d_).2.2), h', [])) := by
  obtain ⟨y_, oy⟩ := xerr (k_ := 1) B_ (by omega)
  obtain ⟨y2, oy2⟩ := xerr (k_ := 2) B_ (by omega)
  have zz := z0_
  have z4 := i4_
  unfold putF
  obtain ⟨h0, m0_, e_⟩ := xpuA (v1_ := z_) (v2 := i_) (v3 := d_) H_.1 oy
  rcases e_ with ⟨g1, g2, f0_, r0⟩ | ⟨g1, w0_, f_, r_⟩ | ⟨g1, g2, w0_, f_, r_⟩
  rotate_left
  · rw [if_neg (by omega)]
    exact ⟨h0, m0_, SX_e H_ m0_ f_, r_⟩
  · rw [if_neg (by omega)]
    exact ⟨h0, m0_, SX_e H_ m0_ f_, r_⟩
  have H0 := SX_fr H_ m0_ (fun c_ j_ _ => f0_ c_ j_)
  rw [if_pos ⟨by omega, by omega⟩]
  obtain ⟨k_, hk, rfl, ek⟩ := isS_n (z_ := z_) ⟨by omega, by omega⟩
  obtain ⟨⟨s1_, s2_⟩, s3_, s4_⟩ := sh_s H_.1 hk
  have s3_ := m0_.2 _ _ _ s3_
  have s4_ := m0_.2 _ _ _ s4_
  rw [ek]
  obtain ⟨ks1, ks2⟩ := K_.2.2 k_ hk
  have k24 := ks2.2
  obtain ⟨h1, m1_, e_⟩ := xpuB (v1_ := Int32.ofNat k_) (v2 := i_) (v3 := d_) H0.1 s3_ (by rw [ek, f0_]; exact s1_) (H0.2.2.2.2 k_ hk).1 (by rw [f0_]; exact oy) (H0.2.2.2.2 k_ hk).2.1 (by rw [f0_]; exact oy2) ⟨by omega, by omega⟩
  rcases e_ with ⟨g3_, g4, g5_, f1_, r1_⟩ | ⟨g3_, g4, w1_, f1_, r1_⟩ | ⟨g3_, g4, g5_, w1_, f1_, r1_⟩ | ⟨g3_, w1_, f1_, r1_⟩
  · have q5_ := i32e g5_
    rw [if_neg (by omega), if_pos ⟨by omega, by omega⟩]
    have H1_ := SX_fr H0 m1_ (fun c_ j_ _ => f1_ c_ j_)
    have s3_ := m1_.2 _ _ _ s3_
    have s4_ := m1_.2 _ _ _ s4_
    have ei2 : i_.toInt.toNat = i_.toInt.toNat := rfl
    by_cases c8_ : (V (210 + 2 * k_)).toInt = 8
    · have c8' : V (210 + 2 * k_) = 8 := Int32.toInt_inj.mp (by rw [c8_]; rfl)
      have : True := trivial
      have : True := trivial
      · have : True := trivial
        · obtain ⟨h2, m2_, e2_, f2_, r2⟩ := xpuO0 (v1_ := Int32.ofNat k_) (v2 := i_) (v3 := d_) H1_.1 s3_ s4_ ((f1_ _ _).trans ((f0_ _ _).trans s2_)) (H1_.2.2.2.2 k_ hk).1 ⟨by omega, by omega⟩ c8'
          rw [ei2] at e2_ f2_
          refine ⟨h2, ysm_tr m0_ (ysm_tr m1_ m2_), ?_, fun D_ hD => r0 D_ hD _ (r1_ D_ hD _ (r2 D_ hD))⟩
          have S_ := SX_sh (b_ := V (210 + 2 * k_)) (n_ := V (211 + 2 * k_)) (l := (W_ (40 + k_)).set i_.toInt.toNat (lowb (V (210 + 2 * k_)) d_)) hk H1_ m2_ ((f2_ _ _ (fun q_ => by have q_ := q_.1; omega)).trans (H1_.2.2.2.2 k_ hk).1) ((f2_ _ _ (fun q_ => by have q_ := q_.1; omega)).trans (H1_.2.2.2.2 k_ hk).2.1) (fun j_ y_ hy => ?_) (fun c2_ j_ _ _ n2_ => f2_ c2_ j_ (fun q_ => n2_ q_.1))
          · rw [upI2_same] at S_
            exact S_
          · rcases set_at hy with ⟨rfl, rfl⟩ | ⟨g9, hy⟩
            · rw [show lowb (V (210 + 2 * k_)) d_ = d_.toInt8.toInt32 by unfold lowb; rw [if_pos c8_]]
              exact e2_
            · exact (f2_ _ _ (fun q_ => g9 q_.2)).trans ((H1_.2.2.2.2 k_ hk).2.2 j_ y_ hy)
    · have c8' : ¬ V (210 + 2 * k_) = 8 := fun q_ => c8_ (by rw [q_]; rfl)
      by_cases c16 : (V (210 + 2 * k_)).toInt = 16
      · have c16' : V (210 + 2 * k_) = 16 := Int32.toInt_inj.mp (by rw [c16]; rfl)
        · obtain ⟨h2, m2_, e2_, f2_, r2⟩ := xpuO1 (v1_ := Int32.ofNat k_) (v2 := i_) (v3 := d_) H1_.1 s3_ s4_ ((f1_ _ _).trans ((f0_ _ _).trans s2_)) (H1_.2.2.2.2 k_ hk).1 ⟨by omega, by omega⟩ c16' c8'
          rw [ei2] at e2_ f2_
          refine ⟨h2, ysm_tr m0_ (ysm_tr m1_ m2_), ?_, fun D_ hD => r0 D_ hD _ (r1_ D_ hD _ (r2 D_ hD))⟩
          have S_ := SX_sh (b_ := V (210 + 2 * k_)) (n_ := V (211 + 2 * k_)) (l := (W_ (40 + k_)).set i_.toInt.toNat (lowb (V (210 + 2 * k_)) d_)) hk H1_ m2_ ((f2_ _ _ (fun q_ => by have q_ := q_.1; omega)).trans (H1_.2.2.2.2 k_ hk).1) ((f2_ _ _ (fun q_ => by have q_ := q_.1; omega)).trans (H1_.2.2.2.2 k_ hk).2.1) (fun j_ y_ hy => ?_) (fun c2_ j_ _ _ n2_ => f2_ c2_ j_ (fun q_ => n2_ q_.1))
          · rw [upI2_same] at S_
            exact S_
          · rcases set_at hy with ⟨rfl, rfl⟩ | ⟨g9, hy⟩
            · rw [show lowb (V (210 + 2 * k_)) d_ = d_.toInt16.toInt32 by unfold lowb; rw [if_neg c8_, if_pos c16]]
              exact e2_
            · exact (f2_ _ _ (fun q_ => g9 q_.2)).trans ((H1_.2.2.2.2 k_ hk).2.2 j_ y_ hy)
      · have c16' : ¬ V (210 + 2 * k_) = 16 := fun q_ => c16 (by rw [q_]; rfl)
        · obtain ⟨h2, m2_, e2_, f2_, r2⟩ := xpuO2 (v1_ := Int32.ofNat k_) (v2 := i_) (v3 := d_) H1_.1 s3_ s4_ ((f1_ _ _).trans ((f0_ _ _).trans s2_)) (H1_.2.2.2.2 k_ hk).1 ⟨by omega, by omega⟩ c16' c8'
          rw [ei2] at e2_ f2_
          refine ⟨h2, ysm_tr m0_ (ysm_tr m1_ m2_), ?_, fun D_ hD => r0 D_ hD _ (r1_ D_ hD _ (r2 D_ hD))⟩
          have S_ := SX_sh (b_ := V (210 + 2 * k_)) (n_ := V (211 + 2 * k_)) (l := (W_ (40 + k_)).set i_.toInt.toNat (lowb (V (210 + 2 * k_)) d_)) hk H1_ m2_ ((f2_ _ _ (fun q_ => by have q_ := q_.1; omega)).trans (H1_.2.2.2.2 k_ hk).1) ((f2_ _ _ (fun q_ => by have q_ := q_.1; omega)).trans (H1_.2.2.2.2 k_ hk).2.1) (fun j_ y_ hy => ?_) (fun c2_ j_ _ _ n2_ => f2_ c2_ j_ (fun q_ => n2_ q_.1))
          · rw [upI2_same] at S_
            exact S_
          · rcases set_at hy with ⟨rfl, rfl⟩ | ⟨g9, hy⟩
            · rw [show lowb (V (210 + 2 * k_)) d_ = d_ by unfold lowb; rw [if_neg c8_, if_neg c16]]
              exact e2_
            · exact (f2_ _ _ (fun q_ => g9 q_.2)).trans ((H1_.2.2.2.2 k_ hk).2.2 j_ y_ hy)
  · have q4_ := i32e g4
    rw [if_neg (by omega), if_neg (by omega)]
    exact ⟨h1, ysm_tr m0_ m1_, SX_e H0 m1_ f1_, fun D_ hD => r0 D_ hD _ (r1_ D_ hD)⟩
  · have q5_ := i32e g5_
    rw [if_neg (by omega), if_neg (by omega)]
    exact ⟨h1, ysm_tr m0_ m1_, SX_e H0 m1_ f1_, fun D_ hD => r0 D_ hD _ (r1_ D_ hD)⟩
  · have q3_ := congrArg Int32.toInt g3_
    rw [if_pos (by omega)]
    exact ⟨h1, ysm_tr m0_ m1_, SX_e H0 m1_ f1_, fun D_ hD => r0 D_ hD _ (r1_ D_ hD)⟩
theorem m_put {W_ : Nat → List Int32} {V : Nat → Int32} {h_ : xH} {z_ i_ d_ : Int32} (B_ : bInv bZ bIj h_) (K_ : okS W_ V) (H_ : SM W_ V h_) : ∃ h', ysm h_ h' ∧ (SM (putF W_ V z_ i_ d_).1 (putF W_ V z_ i_ d_).2.1 h' ∧ ∀ D_, 60 ≤ D_ → xrun D_ 229 0 [(0, .index 338), (1, .int z_), (2, .int i_), (3, .int d_)] [] h_ (some (.int (putF W_ V z_ i_ d_).2.2), h', [])) := by
  obtain ⟨y_, oy⟩ := merr (k_ := 1) B_ (by omega)
  obtain ⟨y2, oy2⟩ := merr (k_ := 2) B_ (by omega)
  have zz := z0_
  have z3 := i3_
  unfold putF
  obtain ⟨h0, m0_, e_⟩ := mpuA (v1_ := z_) (v2 := i_) (v3 := d_) H_.1 oy
  rcases e_ with ⟨g1, g2, f0_, r0⟩ | ⟨g1, w0_, f_, r_⟩ | ⟨g1, g2, w0_, f_, r_⟩
  rotate_left
  · rw [if_neg (by omega)]
    exact ⟨h0, m0_, SM_e H_ m0_ f_, r_⟩
  · rw [if_neg (by omega)]
    exact ⟨h0, m0_, SM_e H_ m0_ f_, r_⟩
  have H0 := SM_fr H_ m0_ (fun c_ j_ _ => f0_ c_ j_)
  rw [if_pos ⟨by omega, by omega⟩]
  obtain ⟨k_, hk, rfl, ek⟩ := isS_n (z_ := z_) ⟨by omega, by omega⟩
  rw [ek]
  obtain ⟨⟨ks0, ks1⟩, ks2⟩ := K_.2.2 k_ hk
  have n1_ := i32j (V (211 + 2 * k_)) ks2.1 (by have := ks2.2; omega)
  have k24 := ks2.2
  obtain ⟨t1_, t2_, t3_⟩ := H0.2.2.2.2 k_ hk
  obtain ⟨h1, m1_, e_⟩ := mpuB (v1_ := Int32.ofNat k_) (v2 := i_) (v3 := d_) H0.1 (by rw [ek]; exact t1_) (by rw [ek]; exact t2_) (by rw [f0_]; exact oy) (by rw [f0_]; exact oy2) ⟨by omega, by omega⟩
  rcases e_ with ⟨g3_, g4, g5_, f1_, r1_⟩ | ⟨g3_, g4, w1_, f1_, r1_⟩ | ⟨g3_, g4, g5_, w1_, f1_, r1_⟩ | ⟨g3_, w1_, f1_, r1_⟩
  · have q5_ := i32e g5_
    rw [if_neg (by omega), if_pos ⟨by omega, by omega⟩]
    have H1_ := SM_fr H0 m1_ (fun c_ j_ _ => f1_ c_ j_)
    have ei : i_ = Int32.ofNat i_.toInt.toNat := by
      refine Int32.toInt_inj.mp ?_
      rw [i32n (by omega)]
      omega
    obtain ⟨ix, bx⟩ := i24j (k_ := k_) (i_ := i_.toInt.toNat) hk (by omega)
    rw [← ei] at ix bx
    obtain ⟨h2, m2_, e2_, f2_, r2⟩ := mpuO (v1_ := Int32.ofNat k_) (v2 := i_) (v3 := d_) H1_.1 (by rw [ek, f1_]; exact t1_) ⟨by omega, by omega⟩ bx
    rw [ix] at e2_ f2_
    rw [low_m (by omega)] at e2_
    refine ⟨h2, ysm_tr m0_ (ysm_tr m1_ m2_), ?_, fun D_ hD => r0 D_ hD _ (r1_ D_ hD _ (r2 D_ hD))⟩
    obtain ⟨u1_, u2_, u3⟩ := H1_.2.2.2.2 k_ hk
    have S_ := SM_sh (b_ := V (210 + 2 * k_)) (n_ := V (211 + 2 * k_)) (l := (W_ (40 + k_)).set i_.toInt.toNat (lowb (V (210 + 2 * k_)) d_)) hk (oks_l K_) H1_ m2_ ((f2_ _ _ (fun q_ => by have q_ := q_.1; omega)).trans u1_) ((f2_ _ _ (fun q_ => by have q_ := q_.1; omega)).trans u2_) (fun j_ y_ hy => ?_) (fun c2_ j_ _ _ _ n3_ => f2_ c2_ j_ (fun q_ => n3_ ⟨q_.1, by have q_ := q_.2; omega⟩))
    · rw [upI2_same] at S_
      exact S_
    · rcases set_at hy with ⟨rfl, rfl⟩ | ⟨g9, hy⟩
      · exact e2_
      · exact (f2_ _ _ (fun q_ => g9 (by have q_ := q_.2; omega))).trans (u3 j_ y_ hy)
  · have q4_ := i32e g4
    rw [if_neg (by omega), if_neg (by omega)]
    exact ⟨h1, ysm_tr m0_ m1_, SM_e H0 m1_ f1_, fun D_ hD => r0 D_ hD _ (r1_ D_ hD)⟩
  · have q5_ := i32e g5_
    rw [if_neg (by omega), if_neg (by omega)]
    exact ⟨h1, ysm_tr m0_ m1_, SM_e H0 m1_ f1_, fun D_ hD => r0 D_ hD _ (r1_ D_ hD)⟩
  · have q3_ := congrArg Int32.toInt g3_
    rw [if_pos (by omega)]
    exact ⟨h1, ysm_tr m0_ m1_, SM_e H0 m1_ f1_, fun D_ hD => r0 D_ hD _ (r1_ D_ hD)⟩
