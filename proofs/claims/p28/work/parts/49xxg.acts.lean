-- ===== bargain
-- xbaE: 140 steps, 1 ends, 7 returns
def xbaE_L : List (Nat × Nat × Nat) := []
def xbaE_O : yO := [(0, .int 13, .index 323), (323, .int 1, .arg 400), (0, .int 0, .index 1), (0, .int 8, .index 314)]
def xbaE_A : yA := (yZ xbaE_L, [], [], [], [])
def xbaE_C : List xB := []
def xbaE_ss : List yS := [(61, [(0, .index 0), (1, .arg 1), (2, .arg 2), (3, .arg 3), (4, .arg 4), (5, .arg 5)], [.index 314, .arg 2, .index 1], [(0, .int 13, .index 323), (323, .int 1, .arg 400), (0, .int 0, .index 1), (0, .int 8, .index 314)], [(.le, .arg 5, .int 3, true), (.lt, .arg 5, .int 0, false), (.le, .arg 4, .int 60, true), (.lt, .arg 4, .int 1, false), (.lt, .rem (.arg 1) (.int 100), .int 40, true), (.lt, .div (.arg 1) (.int 100), .int 40, true), (.lt, .arg 1, .int 0, false)], [])]
def xbaE_rs : List yR := [(some (.int (Int32.ofInt (-1000001))), [(323, .int 1, .add (.arg 400) (.int 1)), (0, .int 13, .index 323), (0, .int 0, .index 1), (0, .int 8, .index 314)], [(.lt, .arg 1, .int 0, true)], [(323, .int 1)]),
  (some (.int (Int32.ofInt (-1000001))), [(323, .int 1, .add (.arg 400) (.int 1)), (0, .int 13, .index 323), (0, .int 0, .index 1), (0, .int 8, .index 314)], [(.lt, .div (.arg 1) (.int 100), .int 40, false), (.lt, .arg 1, .int 0, false)], [(323, .int 1)]),
  (some (.int (Int32.ofInt (-1000001))), [(323, .int 1, .add (.arg 400) (.int 1)), (0, .int 13, .index 323), (0, .int 0, .index 1), (0, .int 8, .index 314)], [(.lt, .rem (.arg 1) (.int 100), .int 40, false), (.lt, .div (.arg 1) (.int 100), .int 40, true), (.lt, .arg 1, .int 0, false)], [(323, .int 1)]),
  (some (.int (Int32.ofInt (-1000001))), [(323, .int 1, .add (.arg 400) (.int 1)), (0, .int 13, .index 323), (0, .int 0, .index 1), (0, .int 8, .index 314)], [(.lt, .arg 4, .int 1, true), (.lt, .rem (.arg 1) (.int 100), .int 40, true), (.lt, .div (.arg 1) (.int 100), .int 40, true), (.lt, .arg 1, .int 0, false)], [(323, .int 1)]),
  (some (.int (Int32.ofInt (-1000001))), [(323, .int 1, .add (.arg 400) (.int 1)), (0, .int 13, .index 323), (0, .int 0, .index 1), (0, .int 8, .index 314)], [(.le, .arg 4, .int 60, false), (.lt, .arg 4, .int 1, false), (.lt, .rem (.arg 1) (.int 100), .int 40, true), (.lt, .div (.arg 1) (.int 100), .int 40, true), (.lt, .arg 1, .int 0, false)], [(323, .int 1)]),
  (some (.int (Int32.ofInt (-1000001))), [(323, .int 1, .add (.arg 400) (.int 1)), (0, .int 13, .index 323), (0, .int 0, .index 1), (0, .int 8, .index 314)], [(.lt, .arg 5, .int 0, true), (.le, .arg 4, .int 60, true), (.lt, .arg 4, .int 1, false), (.lt, .rem (.arg 1) (.int 100), .int 40, true), (.lt, .div (.arg 1) (.int 100), .int 40, true), (.lt, .arg 1, .int 0, false)], [(323, .int 1)]),
  (some (.int (Int32.ofInt (-1000001))), [(323, .int 1, .add (.arg 400) (.int 1)), (0, .int 13, .index 323), (0, .int 0, .index 1), (0, .int 8, .index 314)], [(.le, .arg 5, .int 3, false), (.lt, .arg 5, .int 0, false), (.le, .arg 4, .int 60, true), (.lt, .arg 4, .int 1, false), (.lt, .rem (.arg 1) (.int 100), .int 40, true), (.lt, .div (.arg 1) (.int 100), .int 40, true), (.lt, .arg 1, .int 0, false)], [(323, .int 1)])]
theorem xbaE_w : ywa xbaE_A xbaE_ss xbaE_rs = true := by decide +kernel
theorem xbaE_k : yis (yev xbaE_A 3000 60 104 [61] (0, [(0, .index 0), (1, .arg 1), (2, .arg 2), (3, .arg 3), (4, .arg 4), (5, .arg 5)], [], xbaE_O, xbaE_C, [])) xbaE_ss xbaE_rs = true := by decide +kernel
def xbaE_r (v1_ v2 v3 v4_ v5 v400 : Int32) (k_ : Nat) : Value := bif Nat.beq k_ 1 then .int v1_ else (bif Nat.beq k_ 2 then .int v2 else (bif Nat.beq k_ 3 then .int v3 else (bif Nat.beq k_ 4 then .int v4_ else (bif Nat.beq k_ 5 then .int v5 else (bif Nat.beq k_ 400 then .int v400 else (.int 0))))))
def xbaE_s (n_ : Nat) : Nat := 0
theorem xbaE {h_ : xH} {v1_ v2 v3 v4_ v5 v400 : Int32} (hs : sHp h_) (o0_ : bpat h_ 323 1 = some (.int v400)) : ∃ h', ysm h_ h' ∧ (((v5.toInt ≤ (3 : Int32).toInt) ∧ ((0 : Int32).toInt ≤ v5.toInt) ∧ (v4_.toInt ≤ (60 : Int32).toInt) ∧ ((1 : Int32).toInt ≤ v4_.toInt) ∧ ((v1_ - v1_ / (100 : Int32) * (100 : Int32)).toInt < (40 : Int32).toInt) ∧ ((v1_ / (100 : Int32)).toInt < (40 : Int32).toInt) ∧ ((0 : Int32).toInt ≤ v1_.toInt) ∧ (∀ a_ j_ : Nat, bpat h' a_ j_ = bpat h_ a_ j_) ∧ (bldD 60 104 0 [(0, .index 0), (1, .int v1_), (2, .int v2), (3, .int v3), (4, .int v4_), (5, .int v5)] [] h_ 61 [(0, .index 0), (1, .int v1_), (2, .int v2), (3, .int v3), (4, .int v4_), (5, .int v5)] [.index 314, .int v2, .index 1] h'))
  ∨ ((v1_.toInt < (0 : Int32).toInt) ∧ (bpat h' 323 1 = some (.int (v400 + (1 : Int32)))) ∧ (∀ a_ j_ : Nat, ¬ (a_ = 323 ∧ j_ = 1) → bpat h' a_ j_ = bpat h_ a_ j_) ∧ (∀ D_, 60 ≤ D_ → xrun D_ 104 0 [(0, .index 0), (1, .int v1_), (2, .int v2), (3, .int v3), (4, .int v4_), (5, .int v5)] [] h_ (some (.int (Int32.ofInt (-1000001))), h', [])))
  ∨ (((40 : Int32).toInt ≤ (v1_ / (100 : Int32)).toInt) ∧ ((0 : Int32).toInt ≤ v1_.toInt) ∧ (bpat h' 323 1 = some (.int (v400 + (1 : Int32)))) ∧ (∀ a_ j_ : Nat, ¬ (a_ = 323 ∧ j_ = 1) → bpat h' a_ j_ = bpat h_ a_ j_) ∧ (∀ D_, 60 ≤ D_ → xrun D_ 104 0 [(0, .index 0), (1, .int v1_), (2, .int v2), (3, .int v3), (4, .int v4_), (5, .int v5)] [] h_ (some (.int (Int32.ofInt (-1000001))), h', [])))
  ∨ (((40 : Int32).toInt ≤ (v1_ - v1_ / (100 : Int32) * (100 : Int32)).toInt) ∧ ((v1_ / (100 : Int32)).toInt < (40 : Int32).toInt) ∧ ((0 : Int32).toInt ≤ v1_.toInt) ∧ (bpat h' 323 1 = some (.int (v400 + (1 : Int32)))) ∧ (∀ a_ j_ : Nat, ¬ (a_ = 323 ∧ j_ = 1) → bpat h' a_ j_ = bpat h_ a_ j_) ∧ (∀ D_, 60 ≤ D_ → xrun D_ 104 0 [(0, .index 0), (1, .int v1_), (2, .int v2), (3, .int v3), (4, .int v4_), (5, .int v5)] [] h_ (some (.int (Int32.ofInt (-1000001))), h', [])))
  ∨ ((v4_.toInt < (1 : Int32).toInt) ∧ ((v1_ - v1_ / (100 : Int32) * (100 : Int32)).toInt < (40 : Int32).toInt) ∧ ((v1_ / (100 : Int32)).toInt < (40 : Int32).toInt) ∧ ((0 : Int32).toInt ≤ v1_.toInt) ∧ (bpat h' 323 1 = some (.int (v400 + (1 : Int32)))) ∧ (∀ a_ j_ : Nat, ¬ (a_ = 323 ∧ j_ = 1) → bpat h' a_ j_ = bpat h_ a_ j_) ∧ (∀ D_, 60 ≤ D_ → xrun D_ 104 0 [(0, .index 0), (1, .int v1_), (2, .int v2), (3, .int v3), (4, .int v4_), (5, .int v5)] [] h_ (some (.int (Int32.ofInt (-1000001))), h', [])))
  ∨ (((60 : Int32).toInt < v4_.toInt) ∧ ((1 : Int32).toInt ≤ v4_.toInt) ∧ ((v1_ - v1_ / (100 : Int32) * (100 : Int32)).toInt < (40 : Int32).toInt) ∧ ((v1_ / (100 : Int32)).toInt < (40 : Int32).toInt) ∧ ((0 : Int32).toInt ≤ v1_.toInt) ∧ (bpat h' 323 1 = some (.int (v400 + (1 : Int32)))) ∧ (∀ a_ j_ : Nat, ¬ (a_ = 323 ∧ j_ = 1) → bpat h' a_ j_ = bpat h_ a_ j_) ∧ (∀ D_, 60 ≤ D_ → xrun D_ 104 0 [(0, .index 0), (1, .int v1_), (2, .int v2), (3, .int v3), (4, .int v4_), (5, .int v5)] [] h_ (some (.int (Int32.ofInt (-1000001))), h', [])))
  ∨ ((v5.toInt < (0 : Int32).toInt) ∧ (v4_.toInt ≤ (60 : Int32).toInt) ∧ ((1 : Int32).toInt ≤ v4_.toInt) ∧ ((v1_ - v1_ / (100 : Int32) * (100 : Int32)).toInt < (40 : Int32).toInt) ∧ ((v1_ / (100 : Int32)).toInt < (40 : Int32).toInt) ∧ ((0 : Int32).toInt ≤ v1_.toInt) ∧ (bpat h' 323 1 = some (.int (v400 + (1 : Int32)))) ∧ (∀ a_ j_ : Nat, ¬ (a_ = 323 ∧ j_ = 1) → bpat h' a_ j_ = bpat h_ a_ j_) ∧ (∀ D_, 60 ≤ D_ → xrun D_ 104 0 [(0, .index 0), (1, .int v1_), (2, .int v2), (3, .int v3), (4, .int v4_), (5, .int v5)] [] h_ (some (.int (Int32.ofInt (-1000001))), h', [])))
  ∨ (((3 : Int32).toInt < v5.toInt) ∧ ((0 : Int32).toInt ≤ v5.toInt) ∧ (v4_.toInt ≤ (60 : Int32).toInt) ∧ ((1 : Int32).toInt ≤ v4_.toInt) ∧ ((v1_ - v1_ / (100 : Int32) * (100 : Int32)).toInt < (40 : Int32).toInt) ∧ ((v1_ / (100 : Int32)).toInt < (40 : Int32).toInt) ∧ ((0 : Int32).toInt ≤ v1_.toInt) ∧ (bpat h' 323 1 = some (.int (v400 + (1 : Int32)))) ∧ (∀ a_ j_ : Nat, ¬ (a_ = 323 ∧ j_ = 1) → bpat h' a_ j_ = bpat h_ a_ j_) ∧ (∀ D_, 60 ≤ D_ → xrun D_ 104 0 [(0, .index 0), (1, .int v1_), (2, .int v2), (3, .int v3), (4, .int v4_), (5, .int v5)] [] h_ (some (.int (Int32.ofInt (-1000001))), h', [])))) := by
  have hA : yas xbaE_A (xbaE_r v1_ v2 v3 v4_ v5 v400) (yg xbaE_s) := ⟨fun q_ hq => absurd hq List.not_mem_nil, fun q_ hq => absurd hq List.not_mem_nil, fun q_ hq => absurd hq List.not_mem_nil, fun n_ hn => yg_lo hn, fun q_ hq => absurd hq List.not_mem_nil⟩
  have Hs : ysh xbaE_A.1 (yg xbaE_s) h_ := ysh_of2 hs (fun q_ hq => absurd hq List.not_mem_nil)
  have Ho : ymem (xbaE_r v1_ v2 v3 v4_ v5 v400) (yg xbaE_s) xbaE_O h_ := List.forall_mem_cons.mpr ⟨bpat_some (fxr_at hs.2 (show fxk fxl 0 13 = some 323 by decide +kernel)), List.forall_mem_cons.mpr ⟨bpat_some o0_, List.forall_mem_cons.mpr ⟨bpat_some (fxr_at hs.2 (show fxk fxl 0 0 = some 1 by decide +kernel)), List.forall_mem_cons.mpr ⟨bpat_some (fxr_at hs.2 (show fxk fxl 0 8 = some 314 by decide +kernel)), fun q_ hq => absurd hq List.not_mem_nil⟩⟩⟩⟩
  have HC : ∀ q_ ∈ xbaE_C, xhold (xbaE_r v1_ v2 v3 v4_ v5 v400) q_ := fun q_ hq => absurd hq List.not_mem_nil
  rcases yrun (yis_ok xbaE_k) hA Hs Ho HC with ⟨q_, hq, h', K_, G_⟩ | ⟨q_, hq, h', K_, G_⟩
  · have e_ := List.mem_singleton.mp hq
    subst e_
    exact ⟨h', yfr_sm K_.2.2.2 hs K_.1 (ywa_s xbaE_w List.mem_cons_self), Or.inl (⟨xq_leT rfl rfl (K_.2.2.1 _ List.mem_cons_self), xq_ltF rfl rfl (K_.2.2.1 _ (List.mem_cons_of_mem _ List.mem_cons_self)), xq_leT rfl rfl (K_.2.2.1 _ (List.mem_cons_of_mem _ (List.mem_cons_of_mem _ List.mem_cons_self))), xq_ltF rfl rfl (K_.2.2.1 _ (List.mem_cons_of_mem _ (List.mem_cons_of_mem _ (List.mem_cons_of_mem _ List.mem_cons_self)))), xq_ltT rfl rfl (K_.2.2.1 _ (List.mem_cons_of_mem _ (List.mem_cons_of_mem _ (List.mem_cons_of_mem _ (List.mem_cons_of_mem _ List.mem_cons_self))))), xq_ltT rfl rfl (K_.2.2.1 _ (List.mem_cons_of_mem _ (List.mem_cons_of_mem _ (List.mem_cons_of_mem _ (List.mem_cons_of_mem _ (List.mem_cons_of_mem _ List.mem_cons_self)))))), xq_ltF rfl rfl (K_.2.2.1 _ (List.mem_cons_of_mem _ (List.mem_cons_of_mem _ (List.mem_cons_of_mem _ (List.mem_cons_of_mem _ (List.mem_cons_of_mem _ (List.mem_cons_of_mem _ List.mem_cons_self))))))), fun a_ j_ => yfr_bp K_.2.2.2 (fun q_ hq => absurd hq List.not_mem_nil), G_⟩)⟩
  · rcases List.mem_cons.mp hq with e_ | hq
    · subst e_
      exact ⟨h', yfr_sm K_.2.2.2 hs K_.1 (ywa_r xbaE_w List.mem_cons_self), Or.inr (Or.inl (⟨xq_ltT rfl rfl (K_.2.2.1 _ List.mem_cons_self), bpat_of (K_.2.1 _ List.mem_cons_self), fun a_ j_ n0_ => yfr_bp K_.2.2.2 (List.forall_mem_cons.mpr ⟨fun e_ => n0_ ⟨e_.1.symm, e_.2.symm⟩, fun q_ hq => absurd hq List.not_mem_nil⟩), G_⟩))⟩
    rcases List.mem_cons.mp hq with e_ | hq
    · subst e_
      exact ⟨h', yfr_sm K_.2.2.2 hs K_.1 (ywa_r xbaE_w (List.mem_cons_of_mem _ List.mem_cons_self)), Or.inr (Or.inr (Or.inl (⟨xq_ltF rfl rfl (K_.2.2.1 _ List.mem_cons_self), xq_ltF rfl rfl (K_.2.2.1 _ (List.mem_cons_of_mem _ List.mem_cons_self)), bpat_of (K_.2.1 _ List.mem_cons_self), fun a_ j_ n0_ => yfr_bp K_.2.2.2 (List.forall_mem_cons.mpr ⟨fun e_ => n0_ ⟨e_.1.symm, e_.2.symm⟩, fun q_ hq => absurd hq List.not_mem_nil⟩), G_⟩)))⟩
    rcases List.mem_cons.mp hq with e_ | hq
    · subst e_
      exact ⟨h', yfr_sm K_.2.2.2 hs K_.1 (ywa_r xbaE_w (List.mem_cons_of_mem _ (List.mem_cons_of_mem _ List.mem_cons_self))), Or.inr (Or.inr (Or.inr (Or.inl (⟨xq_ltF rfl rfl (K_.2.2.1 _ List.mem_cons_self), xq_ltT rfl rfl (K_.2.2.1 _ (List.mem_cons_of_mem _ List.mem_cons_self)), xq_ltF rfl rfl (K_.2.2.1 _ (List.mem_cons_of_mem _ (List.mem_cons_of_mem _ List.mem_cons_self))), bpat_of (K_.2.1 _ List.mem_cons_self), fun a_ j_ n0_ => yfr_bp K_.2.2.2 (List.forall_mem_cons.mpr ⟨fun e_ => n0_ ⟨e_.1.symm, e_.2.symm⟩, fun q_ hq => absurd hq List.not_mem_nil⟩), G_⟩))))⟩
    rcases List.mem_cons.mp hq with e_ | hq
    · subst e_
      exact ⟨h', yfr_sm K_.2.2.2 hs K_.1 (ywa_r xbaE_w (List.mem_cons_of_mem _ (List.mem_cons_of_mem _ (List.mem_cons_of_mem _ List.mem_cons_self)))), Or.inr (Or.inr (Or.inr (Or.inr (Or.inl (⟨xq_ltT rfl rfl (K_.2.2.1 _ List.mem_cons_self), xq_ltT rfl rfl (K_.2.2.1 _ (List.mem_cons_of_mem _ List.mem_cons_self)), xq_ltT rfl rfl (K_.2.2.1 _ (List.mem_cons_of_mem _ (List.mem_cons_of_mem _ List.mem_cons_self))), xq_ltF rfl rfl (K_.2.2.1 _ (List.mem_cons_of_mem _ (List.mem_cons_of_mem _ (List.mem_cons_of_mem _ List.mem_cons_self)))), bpat_of (K_.2.1 _ List.mem_cons_self), fun a_ j_ n0_ => yfr_bp K_.2.2.2 (List.forall_mem_cons.mpr ⟨fun e_ => n0_ ⟨e_.1.symm, e_.2.symm⟩, fun q_ hq => absurd hq List.not_mem_nil⟩), G_⟩)))))⟩
    rcases List.mem_cons.mp hq with e_ | hq
    · subst e_
      exact ⟨h', yfr_sm K_.2.2.2 hs K_.1 (ywa_r xbaE_w (List.mem_cons_of_mem _ (List.mem_cons_of_mem _ (List.mem_cons_of_mem _ (List.mem_cons_of_mem _ List.mem_cons_self))))), Or.inr (Or.inr (Or.inr (Or.inr (Or.inr (Or.inl (⟨xq_leF rfl rfl (K_.2.2.1 _ List.mem_cons_self), xq_ltF rfl rfl (K_.2.2.1 _ (List.mem_cons_of_mem _ List.mem_cons_self)), xq_ltT rfl rfl (K_.2.2.1 _ (List.mem_cons_of_mem _ (List.mem_cons_of_mem _ List.mem_cons_self))), xq_ltT rfl rfl (K_.2.2.1 _ (List.mem_cons_of_mem _ (List.mem_cons_of_mem _ (List.mem_cons_of_mem _ List.mem_cons_self)))), xq_ltF rfl rfl (K_.2.2.1 _ (List.mem_cons_of_mem _ (List.mem_cons_of_mem _ (List.mem_cons_of_mem _ (List.mem_cons_of_mem _ List.mem_cons_self))))), bpat_of (K_.2.1 _ List.mem_cons_self), fun a_ j_ n0_ => yfr_bp K_.2.2.2 (List.forall_mem_cons.mpr ⟨fun e_ => n0_ ⟨e_.1.symm, e_.2.symm⟩, fun q_ hq => absurd hq List.not_mem_nil⟩), G_⟩))))))⟩
    rcases List.mem_cons.mp hq with e_ | hq
    · subst e_
      exact ⟨h', yfr_sm K_.2.2.2 hs K_.1 (ywa_r xbaE_w (List.mem_cons_of_mem _ (List.mem_cons_of_mem _ (List.mem_cons_of_mem _ (List.mem_cons_of_mem _ (List.mem_cons_of_mem _ List.mem_cons_self)))))), Or.inr (Or.inr (Or.inr (Or.inr (Or.inr (Or.inr (Or.inl (⟨xq_ltT rfl rfl (K_.2.2.1 _ List.mem_cons_self), xq_leT rfl rfl (K_.2.2.1 _ (List.mem_cons_of_mem _ List.mem_cons_self)), xq_ltF rfl rfl (K_.2.2.1 _ (List.mem_cons_of_mem _ (List.mem_cons_of_mem _ List.mem_cons_self))), xq_ltT rfl rfl (K_.2.2.1 _ (List.mem_cons_of_mem _ (List.mem_cons_of_mem _ (List.mem_cons_of_mem _ List.mem_cons_self)))), xq_ltT rfl rfl (K_.2.2.1 _ (List.mem_cons_of_mem _ (List.mem_cons_of_mem _ (List.mem_cons_of_mem _ (List.mem_cons_of_mem _ List.mem_cons_self))))), xq_ltF rfl rfl (K_.2.2.1 _ (List.mem_cons_of_mem _ (List.mem_cons_of_mem _ (List.mem_cons_of_mem _ (List.mem_cons_of_mem _ (List.mem_cons_of_mem _ List.mem_cons_self)))))), bpat_of (K_.2.1 _ List.mem_cons_self), fun a_ j_ n0_ => yfr_bp K_.2.2.2 (List.forall_mem_cons.mpr ⟨fun e_ => n0_ ⟨e_.1.symm, e_.2.symm⟩, fun q_ hq => absurd hq List.not_mem_nil⟩), G_⟩)))))))⟩
    have e_ := List.mem_singleton.mp hq
    subst e_
    exact ⟨h', yfr_sm K_.2.2.2 hs K_.1 (ywa_r xbaE_w (List.mem_cons_of_mem _ (List.mem_cons_of_mem _ (List.mem_cons_of_mem _ (List.mem_cons_of_mem _ (List.mem_cons_of_mem _ (List.mem_cons_of_mem _ List.mem_cons_self))))))), Or.inr (Or.inr (Or.inr (Or.inr (Or.inr (Or.inr (Or.inr (⟨xq_leF rfl rfl (K_.2.2.1 _ List.mem_cons_self), xq_ltF rfl rfl (K_.2.2.1 _ (List.mem_cons_of_mem _ List.mem_cons_self)), xq_leT rfl rfl (K_.2.2.1 _ (List.mem_cons_of_mem _ (List.mem_cons_of_mem _ List.mem_cons_self))), xq_ltF rfl rfl (K_.2.2.1 _ (List.mem_cons_of_mem _ (List.mem_cons_of_mem _ (List.mem_cons_of_mem _ List.mem_cons_self)))), xq_ltT rfl rfl (K_.2.2.1 _ (List.mem_cons_of_mem _ (List.mem_cons_of_mem _ (List.mem_cons_of_mem _ (List.mem_cons_of_mem _ List.mem_cons_self))))), xq_ltT rfl rfl (K_.2.2.1 _ (List.mem_cons_of_mem _ (List.mem_cons_of_mem _ (List.mem_cons_of_mem _ (List.mem_cons_of_mem _ (List.mem_cons_of_mem _ List.mem_cons_self)))))), xq_ltF rfl rfl (K_.2.2.1 _ (List.mem_cons_of_mem _ (List.mem_cons_of_mem _ (List.mem_cons_of_mem _ (List.mem_cons_of_mem _ (List.mem_cons_of_mem _ (List.mem_cons_of_mem _ List.mem_cons_self))))))), bpat_of (K_.2.1 _ List.mem_cons_self), fun a_ j_ n0_ => yfr_bp K_.2.2.2 (List.forall_mem_cons.mpr ⟨fun e_ => n0_ ⟨e_.1.symm, e_.2.symm⟩, fun q_ hq => absurd hq List.not_mem_nil⟩), G_⟩)))))))⟩
-- xbaF: 6 steps, 1 ends, 0 returns
def xbaF_L : List (Nat × Nat × Nat) := []
def xbaF_O : yO := [(0, .int 0, .index 1), (0, .int 9, .index 316)]
def xbaF_A : yA := (yZ xbaF_L, [], [], [], [])
def xbaF_C : List xB := []
def xbaF_ss : List yS := [(76, [(0, .index 0), (1, .arg 1), (2, .arg 2), (3, .arg 3), (4, .arg 4), (5, .arg 5)], [.index 316, .arg 3, .index 1], [(0, .int 0, .index 1), (0, .int 9, .index 316)], [], [])]
def xbaF_rs : List yR := []
theorem xbaF_w : ywa xbaF_A xbaF_ss xbaF_rs = true := by decide +kernel
theorem xbaF_k : yis (yev xbaF_A 3000 60 104 [76] (64, [(0, .index 0), (1, .arg 1), (2, .arg 2), (3, .arg 3), (4, .arg 4), (5, .arg 5)], [.int 1], xbaF_O, xbaF_C, [])) xbaF_ss xbaF_rs = true := by decide +kernel
def xbaF_r (v1_ v2 v3 v4_ v5 : Int32) (k_ : Nat) : Value := bif Nat.beq k_ 1 then .int v1_ else (bif Nat.beq k_ 2 then .int v2 else (bif Nat.beq k_ 3 then .int v3 else (bif Nat.beq k_ 4 then .int v4_ else (bif Nat.beq k_ 5 then .int v5 else (.int 0)))))
def xbaF_s (n_ : Nat) : Nat := 0
theorem xbaF {h_ : xH} {v1_ v2 v3 v4_ v5 : Int32} (hs : sHp h_) : ∃ h', ysm h_ h' ∧ (((∀ a_ j_ : Nat, bpat h' a_ j_ = bpat h_ a_ j_) ∧ (bldD 60 104 64 [(0, .index 0), (1, .int v1_), (2, .int v2), (3, .int v3), (4, .int v4_), (5, .int v5)] [.int (1 : Int32)] h_ 76 [(0, .index 0), (1, .int v1_), (2, .int v2), (3, .int v3), (4, .int v4_), (5, .int v5)] [.index 316, .int v3, .index 1] h'))) := by
  have hA : yas xbaF_A (xbaF_r v1_ v2 v3 v4_ v5) (yg xbaF_s) := ⟨fun q_ hq => absurd hq List.not_mem_nil, fun q_ hq => absurd hq List.not_mem_nil, fun q_ hq => absurd hq List.not_mem_nil, fun n_ hn => yg_lo hn, fun q_ hq => absurd hq List.not_mem_nil⟩
  have Hs : ysh xbaF_A.1 (yg xbaF_s) h_ := ysh_of2 hs (fun q_ hq => absurd hq List.not_mem_nil)
  have Ho : ymem (xbaF_r v1_ v2 v3 v4_ v5) (yg xbaF_s) xbaF_O h_ := List.forall_mem_cons.mpr ⟨bpat_some (fxr_at hs.2 (show fxk fxl 0 0 = some 1 by decide +kernel)), List.forall_mem_cons.mpr ⟨bpat_some (fxr_at hs.2 (show fxk fxl 0 9 = some 316 by decide +kernel)), fun q_ hq => absurd hq List.not_mem_nil⟩⟩
  have HC : ∀ q_ ∈ xbaF_C, xhold (xbaF_r v1_ v2 v3 v4_ v5) q_ := fun q_ hq => absurd hq List.not_mem_nil
  rcases yrun (yis_ok xbaF_k) hA Hs Ho HC with ⟨q_, hq, h', K_, G_⟩ | ⟨q_, hq, h', K_, G_⟩
  · have e_ := List.mem_singleton.mp hq
    subst e_
    exact ⟨h', yfr_sm K_.2.2.2 hs K_.1 (ywa_s xbaF_w List.mem_cons_self), ⟨fun a_ j_ => yfr_bp K_.2.2.2 (fun q_ hq => absurd hq List.not_mem_nil), G_⟩⟩
  · cases hq
-- xbaG: 17 steps, 0 ends, 1 returns
def xbaG_L : List (Nat × Nat × Nat) := []
def xbaG_O : yO := [(0, .int 13, .index 323), (323, .int 1, .arg 400)]
def xbaG_A : yA := (yZ xbaG_L, [], [], [], [])
def xbaG_C : List xB := []
def xbaG_ss : List yS := []
def xbaG_rs : List yR := [(some (.int (Int32.ofInt (-1000001))), [(323, .int 1, .add (.arg 400) (.int 1)), (0, .int 13, .index 323)], [], [(323, .int 1)])]
theorem xbaG_w : ywa xbaG_A xbaG_ss xbaG_rs = true := by decide +kernel
theorem xbaG_k : yis (yev xbaG_A 3000 60 104 [] (64, [(0, .index 0), (1, .arg 1), (2, .arg 2), (3, .arg 3), (4, .arg 4), (5, .arg 5)], [.int 0], xbaG_O, xbaG_C, [])) xbaG_ss xbaG_rs = true := by decide +kernel
def xbaG_r (v1_ v2 v3 v4_ v5 v400 : Int32) (k_ : Nat) : Value := bif Nat.beq k_ 1 then .int v1_ else (bif Nat.beq k_ 2 then .int v2 else (bif Nat.beq k_ 3 then .int v3 else (bif Nat.beq k_ 4 then .int v4_ else (bif Nat.beq k_ 5 then .int v5 else (bif Nat.beq k_ 400 then .int v400 else (.int 0))))))
def xbaG_s (n_ : Nat) : Nat := 0
theorem xbaG {h_ : xH} {v1_ v2 v3 v4_ v5 v400 : Int32} (hs : sHp h_) (o0_ : bpat h_ 323 1 = some (.int v400)) : ∃ h', ysm h_ h' ∧ (((bpat h' 323 1 = some (.int (v400 + (1 : Int32)))) ∧ (∀ a_ j_ : Nat, ¬ (a_ = 323 ∧ j_ = 1) → bpat h' a_ j_ = bpat h_ a_ j_) ∧ (∀ D_, 60 ≤ D_ → xrun D_ 104 64 [(0, .index 0), (1, .int v1_), (2, .int v2), (3, .int v3), (4, .int v4_), (5, .int v5)] [.int (0 : Int32)] h_ (some (.int (Int32.ofInt (-1000001))), h', [])))) := by
  have hA : yas xbaG_A (xbaG_r v1_ v2 v3 v4_ v5 v400) (yg xbaG_s) := ⟨fun q_ hq => absurd hq List.not_mem_nil, fun q_ hq => absurd hq List.not_mem_nil, fun q_ hq => absurd hq List.not_mem_nil, fun n_ hn => yg_lo hn, fun q_ hq => absurd hq List.not_mem_nil⟩
  have Hs : ysh xbaG_A.1 (yg xbaG_s) h_ := ysh_of2 hs (fun q_ hq => absurd hq List.not_mem_nil)
  have Ho : ymem (xbaG_r v1_ v2 v3 v4_ v5 v400) (yg xbaG_s) xbaG_O h_ := List.forall_mem_cons.mpr ⟨bpat_some (fxr_at hs.2 (show fxk fxl 0 13 = some 323 by decide +kernel)), List.forall_mem_cons.mpr ⟨bpat_some o0_, fun q_ hq => absurd hq List.not_mem_nil⟩⟩
  have HC : ∀ q_ ∈ xbaG_C, xhold (xbaG_r v1_ v2 v3 v4_ v5 v400) q_ := fun q_ hq => absurd hq List.not_mem_nil
  rcases yrun (yis_ok xbaG_k) hA Hs Ho HC with ⟨q_, hq, h', K_, G_⟩ | ⟨q_, hq, h', K_, G_⟩
  · cases hq
  · have e_ := List.mem_singleton.mp hq
    subst e_
    exact ⟨h', yfr_sm K_.2.2.2 hs K_.1 (ywa_r xbaG_w List.mem_cons_self), ⟨bpat_of (K_.2.1 _ List.mem_cons_self), fun a_ j_ n0_ => yfr_bp K_.2.2.2 (List.forall_mem_cons.mpr ⟨fun e_ => n0_ ⟨e_.1.symm, e_.2.symm⟩, fun q_ hq => absurd hq List.not_mem_nil⟩), G_⟩⟩
-- xbaH: 42 steps, 1 ends, 0 returns
def xbaH_L : List (Nat × Nat × Nat) := []
def xbaH_O : yO := [(0, .int 5, .index 305), (0, .int 0, .index 1), (0, .int 8, .index 314), (0, .int 9, .index 316)]
def xbaH_A : yA := (yZ xbaH_L, [], [], [], [])
def xbaH_C : List xB := []
def xbaH_ss : List yS := [(127, [(0, .index 0), (1, .arg 1), (2, .arg 2), (3, .arg 3), (4, .arg 4), (5, .arg 5)], [.arg 4, .index 316, .index 314, .index 1, .index 305], [(305, .int 5, .int (Int32.ofInt (-1))), (305, .int 4, .int (Int32.ofInt (-1))), (305, .int 7, .add (.rem (.arg 1) (.int 100)) (.int (Int32.ofInt (-20)))), (305, .int 6, .add (.div (.arg 1) (.int 100)) (.int (Int32.ofInt (-20)))), (305, .int 3, .add (.rem (.arg 1) (.int 100)) (.int (Int32.ofInt (-20)))), (305, .int 2, .add (.div (.arg 1) (.int 100)) (.int (Int32.ofInt (-20)))), (0, .int 5, .index 305), (0, .int 0, .index 1), (0, .int 8, .index 314), (0, .int 9, .index 316)], [], [(305, .int 5), (305, .int 4), (305, .int 7), (305, .int 6), (305, .int 3), (305, .int 2)])]
def xbaH_rs : List yR := []
theorem xbaH_w : ywa xbaH_A xbaH_ss xbaH_rs = true := by decide +kernel
theorem xbaH_k : yis (yev xbaH_A 3000 60 104 [127] (79, [(0, .index 0), (1, .arg 1), (2, .arg 2), (3, .arg 3), (4, .arg 4), (5, .arg 5)], [.int 1], xbaH_O, xbaH_C, [])) xbaH_ss xbaH_rs = true := by decide +kernel
def xbaH_r (v1_ v2 v3 v4_ v5 : Int32) (k_ : Nat) : Value := bif Nat.beq k_ 1 then .int v1_ else (bif Nat.beq k_ 2 then .int v2 else (bif Nat.beq k_ 3 then .int v3 else (bif Nat.beq k_ 4 then .int v4_ else (bif Nat.beq k_ 5 then .int v5 else (.int 0)))))
def xbaH_s (n_ : Nat) : Nat := 0
theorem xbaH {h_ : xH} {v1_ v2 v3 v4_ v5 : Int32} (hs : sHp h_) : ∃ h', ysm h_ h' ∧ (((bpat h' 305 5 = some (.int (Int32.ofInt (-1)))) ∧ (bpat h' 305 4 = some (.int (Int32.ofInt (-1)))) ∧ (bpat h' 305 7 = some (.int ((v1_ - v1_ / (100 : Int32) * (100 : Int32)) + (Int32.ofInt (-20))))) ∧ (bpat h' 305 6 = some (.int ((v1_ / (100 : Int32)) + (Int32.ofInt (-20))))) ∧ (bpat h' 305 3 = some (.int ((v1_ - v1_ / (100 : Int32) * (100 : Int32)) + (Int32.ofInt (-20))))) ∧ (bpat h' 305 2 = some (.int ((v1_ / (100 : Int32)) + (Int32.ofInt (-20))))) ∧ (∀ a_ j_ : Nat, ¬ (a_ = 305 ∧ j_ = 5) → ¬ (a_ = 305 ∧ j_ = 4) → ¬ (a_ = 305 ∧ j_ = 7) → ¬ (a_ = 305 ∧ j_ = 6) → ¬ (a_ = 305 ∧ j_ = 3) → ¬ (a_ = 305 ∧ j_ = 2) → bpat h' a_ j_ = bpat h_ a_ j_) ∧ (bldD 60 104 79 [(0, .index 0), (1, .int v1_), (2, .int v2), (3, .int v3), (4, .int v4_), (5, .int v5)] [.int (1 : Int32)] h_ 127 [(0, .index 0), (1, .int v1_), (2, .int v2), (3, .int v3), (4, .int v4_), (5, .int v5)] [.int v4_, .index 316, .index 314, .index 1, .index 305] h'))) := by
  have hA : yas xbaH_A (xbaH_r v1_ v2 v3 v4_ v5) (yg xbaH_s) := ⟨fun q_ hq => absurd hq List.not_mem_nil, fun q_ hq => absurd hq List.not_mem_nil, fun q_ hq => absurd hq List.not_mem_nil, fun n_ hn => yg_lo hn, fun q_ hq => absurd hq List.not_mem_nil⟩
  have Hs : ysh xbaH_A.1 (yg xbaH_s) h_ := ysh_of2 hs (fun q_ hq => absurd hq List.not_mem_nil)
  have Ho : ymem (xbaH_r v1_ v2 v3 v4_ v5) (yg xbaH_s) xbaH_O h_ := List.forall_mem_cons.mpr ⟨bpat_some (fxr_at hs.2 (show fxk fxl 0 5 = some 305 by decide +kernel)), List.forall_mem_cons.mpr ⟨bpat_some (fxr_at hs.2 (show fxk fxl 0 0 = some 1 by decide +kernel)), List.forall_mem_cons.mpr ⟨bpat_some (fxr_at hs.2 (show fxk fxl 0 8 = some 314 by decide +kernel)), List.forall_mem_cons.mpr ⟨bpat_some (fxr_at hs.2 (show fxk fxl 0 9 = some 316 by decide +kernel)), fun q_ hq => absurd hq List.not_mem_nil⟩⟩⟩⟩
  have HC : ∀ q_ ∈ xbaH_C, xhold (xbaH_r v1_ v2 v3 v4_ v5) q_ := fun q_ hq => absurd hq List.not_mem_nil
  rcases yrun (yis_ok xbaH_k) hA Hs Ho HC with ⟨q_, hq, h', K_, G_⟩ | ⟨q_, hq, h', K_, G_⟩
  · have e_ := List.mem_singleton.mp hq
    subst e_
    exact ⟨h', yfr_sm K_.2.2.2 hs K_.1 (ywa_s xbaH_w List.mem_cons_self), ⟨bpat_of (K_.2.1 _ List.mem_cons_self), bpat_of (K_.2.1 _ (List.mem_cons_of_mem _ List.mem_cons_self)), bpat_of (K_.2.1 _ (List.mem_cons_of_mem _ (List.mem_cons_of_mem _ List.mem_cons_self))), bpat_of (K_.2.1 _ (List.mem_cons_of_mem _ (List.mem_cons_of_mem _ (List.mem_cons_of_mem _ List.mem_cons_self)))), bpat_of (K_.2.1 _ (List.mem_cons_of_mem _ (List.mem_cons_of_mem _ (List.mem_cons_of_mem _ (List.mem_cons_of_mem _ List.mem_cons_self))))), bpat_of (K_.2.1 _ (List.mem_cons_of_mem _ (List.mem_cons_of_mem _ (List.mem_cons_of_mem _ (List.mem_cons_of_mem _ (List.mem_cons_of_mem _ List.mem_cons_self)))))), fun a_ j_ n0_ n1_ n2_ n3_ n4_ n5_ => yfr_bp K_.2.2.2 (List.forall_mem_cons.mpr ⟨fun e_ => n0_ ⟨e_.1.symm, e_.2.symm⟩, List.forall_mem_cons.mpr ⟨fun e_ => n1_ ⟨e_.1.symm, e_.2.symm⟩, List.forall_mem_cons.mpr ⟨fun e_ => n2_ ⟨e_.1.symm, e_.2.symm⟩, List.forall_mem_cons.mpr ⟨fun e_ => n3_ ⟨e_.1.symm, e_.2.symm⟩, List.forall_mem_cons.mpr ⟨fun e_ => n4_ ⟨e_.1.symm, e_.2.symm⟩, List.forall_mem_cons.mpr ⟨fun e_ => n5_ ⟨e_.1.symm, e_.2.symm⟩, fun q_ hq => absurd hq List.not_mem_nil⟩⟩⟩⟩⟩⟩), G_⟩⟩
  · cases hq
-- xbaI: 17 steps, 0 ends, 1 returns
def xbaI_L : List (Nat × Nat × Nat) := []
def xbaI_O : yO := [(0, .int 13, .index 323), (323, .int 1, .arg 400)]
def xbaI_A : yA := (yZ xbaI_L, [], [], [], [])
def xbaI_C : List xB := []
def xbaI_ss : List yS := []
def xbaI_rs : List yR := [(some (.int (Int32.ofInt (-1000001))), [(323, .int 1, .add (.arg 400) (.int 1)), (0, .int 13, .index 323)], [], [(323, .int 1)])]
theorem xbaI_w : ywa xbaI_A xbaI_ss xbaI_rs = true := by decide +kernel
theorem xbaI_k : yis (yev xbaI_A 3000 60 104 [] (79, [(0, .index 0), (1, .arg 1), (2, .arg 2), (3, .arg 3), (4, .arg 4), (5, .arg 5)], [.int 0], xbaI_O, xbaI_C, [])) xbaI_ss xbaI_rs = true := by decide +kernel
def xbaI_r (v1_ v2 v3 v4_ v5 v400 : Int32) (k_ : Nat) : Value := bif Nat.beq k_ 1 then .int v1_ else (bif Nat.beq k_ 2 then .int v2 else (bif Nat.beq k_ 3 then .int v3 else (bif Nat.beq k_ 4 then .int v4_ else (bif Nat.beq k_ 5 then .int v5 else (bif Nat.beq k_ 400 then .int v400 else (.int 0))))))
def xbaI_s (n_ : Nat) : Nat := 0
theorem xbaI {h_ : xH} {v1_ v2 v3 v4_ v5 v400 : Int32} (hs : sHp h_) (o0_ : bpat h_ 323 1 = some (.int v400)) : ∃ h', ysm h_ h' ∧ (((bpat h' 323 1 = some (.int (v400 + (1 : Int32)))) ∧ (∀ a_ j_ : Nat, ¬ (a_ = 323 ∧ j_ = 1) → bpat h' a_ j_ = bpat h_ a_ j_) ∧ (∀ D_, 60 ≤ D_ → xrun D_ 104 79 [(0, .index 0), (1, .int v1_), (2, .int v2), (3, .int v3), (4, .int v4_), (5, .int v5)] [.int (0 : Int32)] h_ (some (.int (Int32.ofInt (-1000001))), h', [])))) := by
  have hA : yas xbaI_A (xbaI_r v1_ v2 v3 v4_ v5 v400) (yg xbaI_s) := ⟨fun q_ hq => absurd hq List.not_mem_nil, fun q_ hq => absurd hq List.not_mem_nil, fun q_ hq => absurd hq List.not_mem_nil, fun n_ hn => yg_lo hn, fun q_ hq => absurd hq List.not_mem_nil⟩
  have Hs : ysh xbaI_A.1 (yg xbaI_s) h_ := ysh_of2 hs (fun q_ hq => absurd hq List.not_mem_nil)
  have Ho : ymem (xbaI_r v1_ v2 v3 v4_ v5 v400) (yg xbaI_s) xbaI_O h_ := List.forall_mem_cons.mpr ⟨bpat_some (fxr_at hs.2 (show fxk fxl 0 13 = some 323 by decide +kernel)), List.forall_mem_cons.mpr ⟨bpat_some o0_, fun q_ hq => absurd hq List.not_mem_nil⟩⟩
  have HC : ∀ q_ ∈ xbaI_C, xhold (xbaI_r v1_ v2 v3 v4_ v5 v400) q_ := fun q_ hq => absurd hq List.not_mem_nil
  rcases yrun (yis_ok xbaI_k) hA Hs Ho HC with ⟨q_, hq, h', K_, G_⟩ | ⟨q_, hq, h', K_, G_⟩
  · cases hq
  · have e_ := List.mem_singleton.mp hq
    subst e_
    exact ⟨h', yfr_sm K_.2.2.2 hs K_.1 (ywa_r xbaI_w List.mem_cons_self), ⟨bpat_of (K_.2.1 _ List.mem_cons_self), fun a_ j_ n0_ => yfr_bp K_.2.2.2 (List.forall_mem_cons.mpr ⟨fun e_ => n0_ ⟨e_.1.symm, e_.2.symm⟩, fun q_ hq => absurd hq List.not_mem_nil⟩), G_⟩⟩
-- xbaR: 68 steps, 0 ends, 6 returns
def xbaR_L : List (Nat × Nat × Nat) := []
def xbaR_O : yO := [(0, .int 5, .index 305), (305, .int 5, .arg 305), (0, .int 13, .index 323), (323, .int 2, .arg 400), (305, .int 4, .arg 304), (305, .int 3, .arg 303), (305, .int 2, .arg 302)]
def xbaR_A : yA := (yZ xbaR_L, [], [], [], [])
def xbaR_C : List xB := []
def xbaR_ss : List yS := []
def xbaR_rs : List yR := [(some (.arg 305), [(0, .int 5, .index 305), (305, .int 5, .arg 305), (0, .int 13, .index 323), (323, .int 2, .arg 400), (305, .int 4, .arg 304), (305, .int 3, .arg 303), (305, .int 2, .arg 302)], [(.lt, .arg 305, .int 0, false), (.eq, .arg 5, .int 0, false), (.lt, .arg 5, .int 2, true)], []),
  (some (.int (Int32.ofInt (-1000002))), [(323, .int 2, .add (.arg 400) (.int 1)), (0, .int 5, .index 305), (305, .int 5, .arg 305), (0, .int 13, .index 323), (305, .int 4, .arg 304), (305, .int 3, .arg 303), (305, .int 2, .arg 302)], [(.lt, .arg 305, .int 0, true), (.eq, .arg 5, .int 0, false), (.lt, .arg 5, .int 2, true)], [(323, .int 2)]),
  (some (.arg 304), [(0, .int 5, .index 305), (305, .int 5, .arg 305), (0, .int 13, .index 323), (323, .int 2, .arg 400), (305, .int 4, .arg 304), (305, .int 3, .arg 303), (305, .int 2, .arg 302)], [(.lt, .arg 304, .int 0, false), (.eq, .arg 5, .int 0, true), (.lt, .arg 5, .int 2, true)], []),
  (some (.int (Int32.ofInt (-1000002))), [(323, .int 2, .add (.arg 400) (.int 1)), (0, .int 5, .index 305), (305, .int 5, .arg 305), (0, .int 13, .index 323), (305, .int 4, .arg 304), (305, .int 3, .arg 303), (305, .int 2, .arg 302)], [(.lt, .arg 304, .int 0, true), (.eq, .arg 5, .int 0, true), (.lt, .arg 5, .int 2, true)], [(323, .int 2)]),
  (some (.arg 303), [(0, .int 5, .index 305), (305, .int 5, .arg 305), (0, .int 13, .index 323), (323, .int 2, .arg 400), (305, .int 4, .arg 304), (305, .int 3, .arg 303), (305, .int 2, .arg 302)], [(.eq, .arg 5, .int 2, false), (.lt, .arg 5, .int 2, false)], []),
  (some (.arg 302), [(0, .int 5, .index 305), (305, .int 5, .arg 305), (0, .int 13, .index 323), (323, .int 2, .arg 400), (305, .int 4, .arg 304), (305, .int 3, .arg 303), (305, .int 2, .arg 302)], [(.eq, .arg 5, .int 2, true), (.lt, .arg 5, .int 2, false)], [])]
theorem xbaR_w : ywa xbaR_A xbaR_ss xbaR_rs = true := by decide +kernel
theorem xbaR_k : yis (yev xbaR_A 3000 60 104 [] (130, [(0, .index 0), (1, .arg 1), (2, .arg 2), (3, .arg 3), (4, .arg 4), (5, .arg 5)], [], xbaR_O, xbaR_C, [])) xbaR_ss xbaR_rs = true := by decide +kernel
def xbaR_r (v1_ v2 v3 v4_ v5 v302 v303 v304 v305 v400 : Int32) (k_ : Nat) : Value := bif Nat.beq k_ 1 then .int v1_ else (bif Nat.beq k_ 2 then .int v2 else (bif Nat.beq k_ 3 then .int v3 else (bif Nat.beq k_ 4 then .int v4_ else (bif Nat.beq k_ 5 then .int v5 else (bif Nat.beq k_ 302 then .int v302 else (bif Nat.beq k_ 303 then .int v303 else (bif Nat.beq k_ 304 then .int v304 else (bif Nat.beq k_ 305 then .int v305 else (bif Nat.beq k_ 400 then .int v400 else (.int 0))))))))))
def xbaR_s (n_ : Nat) : Nat := 0
theorem xbaR {h_ : xH} {v1_ v2 v3 v4_ v5 v302 v303 v304 v305 v400 : Int32} (hs : sHp h_) (o0_ : bpat h_ 305 5 = some (.int v305)) (o1 : bpat h_ 323 2 = some (.int v400)) (o2 : bpat h_ 305 4 = some (.int v304)) (o3_ : bpat h_ 305 3 = some (.int v303)) (o4_ : bpat h_ 305 2 = some (.int v302)) : ∃ h', ysm h_ h' ∧ ((((0 : Int32).toInt ≤ v305.toInt) ∧ (¬ v5 = (0 : Int32)) ∧ (v5.toInt < (2 : Int32).toInt) ∧ (∀ a_ j_ : Nat, bpat h' a_ j_ = bpat h_ a_ j_) ∧ (∀ D_, 60 ≤ D_ → xrun D_ 104 130 [(0, .index 0), (1, .int v1_), (2, .int v2), (3, .int v3), (4, .int v4_), (5, .int v5)] [] h_ (some (.int v305), h', [])))
  ∨ ((v305.toInt < (0 : Int32).toInt) ∧ (¬ v5 = (0 : Int32)) ∧ (v5.toInt < (2 : Int32).toInt) ∧ (bpat h' 323 2 = some (.int (v400 + (1 : Int32)))) ∧ (∀ a_ j_ : Nat, ¬ (a_ = 323 ∧ j_ = 2) → bpat h' a_ j_ = bpat h_ a_ j_) ∧ (∀ D_, 60 ≤ D_ → xrun D_ 104 130 [(0, .index 0), (1, .int v1_), (2, .int v2), (3, .int v3), (4, .int v4_), (5, .int v5)] [] h_ (some (.int (Int32.ofInt (-1000002))), h', [])))
  ∨ (((0 : Int32).toInt ≤ v304.toInt) ∧ (v5 = (0 : Int32)) ∧ (v5.toInt < (2 : Int32).toInt) ∧ (∀ a_ j_ : Nat, bpat h' a_ j_ = bpat h_ a_ j_) ∧ (∀ D_, 60 ≤ D_ → xrun D_ 104 130 [(0, .index 0), (1, .int v1_), (2, .int v2), (3, .int v3), (4, .int v4_), (5, .int v5)] [] h_ (some (.int v304), h', [])))
  ∨ ((v304.toInt < (0 : Int32).toInt) ∧ (v5 = (0 : Int32)) ∧ (v5.toInt < (2 : Int32).toInt) ∧ (bpat h' 323 2 = some (.int (v400 + (1 : Int32)))) ∧ (∀ a_ j_ : Nat, ¬ (a_ = 323 ∧ j_ = 2) → bpat h' a_ j_ = bpat h_ a_ j_) ∧ (∀ D_, 60 ≤ D_ → xrun D_ 104 130 [(0, .index 0), (1, .int v1_), (2, .int v2), (3, .int v3), (4, .int v4_), (5, .int v5)] [] h_ (some (.int (Int32.ofInt (-1000002))), h', [])))
  ∨ ((¬ v5 = (2 : Int32)) ∧ ((2 : Int32).toInt ≤ v5.toInt) ∧ (∀ a_ j_ : Nat, bpat h' a_ j_ = bpat h_ a_ j_) ∧ (∀ D_, 60 ≤ D_ → xrun D_ 104 130 [(0, .index 0), (1, .int v1_), (2, .int v2), (3, .int v3), (4, .int v4_), (5, .int v5)] [] h_ (some (.int v303), h', [])))
  ∨ ((v5 = (2 : Int32)) ∧ ((2 : Int32).toInt ≤ v5.toInt) ∧ (∀ a_ j_ : Nat, bpat h' a_ j_ = bpat h_ a_ j_) ∧ (∀ D_, 60 ≤ D_ → xrun D_ 104 130 [(0, .index 0), (1, .int v1_), (2, .int v2), (3, .int v3), (4, .int v4_), (5, .int v5)] [] h_ (some (.int v302), h', [])))) := by
  have hA : yas xbaR_A (xbaR_r v1_ v2 v3 v4_ v5 v302 v303 v304 v305 v400) (yg xbaR_s) := ⟨fun q_ hq => absurd hq List.not_mem_nil, fun q_ hq => absurd hq List.not_mem_nil, fun q_ hq => absurd hq List.not_mem_nil, fun n_ hn => yg_lo hn, fun q_ hq => absurd hq List.not_mem_nil⟩
  have Hs : ysh xbaR_A.1 (yg xbaR_s) h_ := ysh_of2 hs (fun q_ hq => absurd hq List.not_mem_nil)
  have Ho : ymem (xbaR_r v1_ v2 v3 v4_ v5 v302 v303 v304 v305 v400) (yg xbaR_s) xbaR_O h_ := List.forall_mem_cons.mpr ⟨bpat_some (fxr_at hs.2 (show fxk fxl 0 5 = some 305 by decide +kernel)), List.forall_mem_cons.mpr ⟨bpat_some o0_, List.forall_mem_cons.mpr ⟨bpat_some (fxr_at hs.2 (show fxk fxl 0 13 = some 323 by decide +kernel)), List.forall_mem_cons.mpr ⟨bpat_some o1, List.forall_mem_cons.mpr ⟨bpat_some o2, List.forall_mem_cons.mpr ⟨bpat_some o3_, List.forall_mem_cons.mpr ⟨bpat_some o4_, fun q_ hq => absurd hq List.not_mem_nil⟩⟩⟩⟩⟩⟩⟩
  have HC : ∀ q_ ∈ xbaR_C, xhold (xbaR_r v1_ v2 v3 v4_ v5 v302 v303 v304 v305 v400) q_ := fun q_ hq => absurd hq List.not_mem_nil
  rcases yrun (yis_ok xbaR_k) hA Hs Ho HC with ⟨q_, hq, h', K_, G_⟩ | ⟨q_, hq, h', K_, G_⟩
  · cases hq
  · rcases List.mem_cons.mp hq with e_ | hq
    · subst e_
      exact ⟨h', yfr_sm K_.2.2.2 hs K_.1 (ywa_r xbaR_w List.mem_cons_self), Or.inl (⟨xq_ltF rfl rfl (K_.2.2.1 _ List.mem_cons_self), xq_eqF rfl rfl (K_.2.2.1 _ (List.mem_cons_of_mem _ List.mem_cons_self)), xq_ltT rfl rfl (K_.2.2.1 _ (List.mem_cons_of_mem _ (List.mem_cons_of_mem _ List.mem_cons_self))), fun a_ j_ => yfr_bp K_.2.2.2 (fun q_ hq => absurd hq List.not_mem_nil), G_⟩)⟩
    rcases List.mem_cons.mp hq with e_ | hq
    · subst e_
      exact ⟨h', yfr_sm K_.2.2.2 hs K_.1 (ywa_r xbaR_w (List.mem_cons_of_mem _ List.mem_cons_self)), Or.inr (Or.inl (⟨xq_ltT rfl rfl (K_.2.2.1 _ List.mem_cons_self), xq_eqF rfl rfl (K_.2.2.1 _ (List.mem_cons_of_mem _ List.mem_cons_self)), xq_ltT rfl rfl (K_.2.2.1 _ (List.mem_cons_of_mem _ (List.mem_cons_of_mem _ List.mem_cons_self))), bpat_of (K_.2.1 _ List.mem_cons_self), fun a_ j_ n0_ => yfr_bp K_.2.2.2 (List.forall_mem_cons.mpr ⟨fun e_ => n0_ ⟨e_.1.symm, e_.2.symm⟩, fun q_ hq => absurd hq List.not_mem_nil⟩), G_⟩))⟩
    rcases List.mem_cons.mp hq with e_ | hq
    · subst e_
      exact ⟨h', yfr_sm K_.2.2.2 hs K_.1 (ywa_r xbaR_w (List.mem_cons_of_mem _ (List.mem_cons_of_mem _ List.mem_cons_self))), Or.inr (Or.inr (Or.inl (⟨xq_ltF rfl rfl (K_.2.2.1 _ List.mem_cons_self), xq_eqT rfl rfl (K_.2.2.1 _ (List.mem_cons_of_mem _ List.mem_cons_self)), xq_ltT rfl rfl (K_.2.2.1 _ (List.mem_cons_of_mem _ (List.mem_cons_of_mem _ List.mem_cons_self))), fun a_ j_ => yfr_bp K_.2.2.2 (fun q_ hq => absurd hq List.not_mem_nil), G_⟩)))⟩
    rcases List.mem_cons.mp hq with e_ | hq
    · subst e_
      exact ⟨h', yfr_sm K_.2.2.2 hs K_.1 (ywa_r xbaR_w (List.mem_cons_of_mem _ (List.mem_cons_of_mem _ (List.mem_cons_of_mem _ List.mem_cons_self)))), Or.inr (Or.inr (Or.inr (Or.inl (⟨xq_ltT rfl rfl (K_.2.2.1 _ List.mem_cons_self), xq_eqT rfl rfl (K_.2.2.1 _ (List.mem_cons_of_mem _ List.mem_cons_self)), xq_ltT rfl rfl (K_.2.2.1 _ (List.mem_cons_of_mem _ (List.mem_cons_of_mem _ List.mem_cons_self))), bpat_of (K_.2.1 _ List.mem_cons_self), fun a_ j_ n0_ => yfr_bp K_.2.2.2 (List.forall_mem_cons.mpr ⟨fun e_ => n0_ ⟨e_.1.symm, e_.2.symm⟩, fun q_ hq => absurd hq List.not_mem_nil⟩), G_⟩))))⟩
    rcases List.mem_cons.mp hq with e_ | hq
    · subst e_
      exact ⟨h', yfr_sm K_.2.2.2 hs K_.1 (ywa_r xbaR_w (List.mem_cons_of_mem _ (List.mem_cons_of_mem _ (List.mem_cons_of_mem _ (List.mem_cons_of_mem _ List.mem_cons_self))))), Or.inr (Or.inr (Or.inr (Or.inr (Or.inl (⟨xq_eqF rfl rfl (K_.2.2.1 _ List.mem_cons_self), xq_ltF rfl rfl (K_.2.2.1 _ (List.mem_cons_of_mem _ List.mem_cons_self)), fun a_ j_ => yfr_bp K_.2.2.2 (fun q_ hq => absurd hq List.not_mem_nil), G_⟩)))))⟩
    have e_ := List.mem_singleton.mp hq
    subst e_
    exact ⟨h', yfr_sm K_.2.2.2 hs K_.1 (ywa_r xbaR_w (List.mem_cons_of_mem _ (List.mem_cons_of_mem _ (List.mem_cons_of_mem _ (List.mem_cons_of_mem _ (List.mem_cons_of_mem _ List.mem_cons_self)))))), Or.inr (Or.inr (Or.inr (Or.inr (Or.inr (⟨xq_eqT rfl rfl (K_.2.2.1 _ List.mem_cons_self), xq_ltF rfl rfl (K_.2.2.1 _ (List.mem_cons_of_mem _ List.mem_cons_self)), fun a_ j_ => yfr_bp K_.2.2.2 (fun q_ hq => absurd hq List.not_mem_nil), G_⟩)))))⟩
-- xnhE: 40 steps, 1 ends, 0 returns
def xnhE_L : List (Nat × Nat × Nat) := [(1000, 6, 2)]
def xnhE_O : yO := [(305, .int 0, .index 306), (306, .int 0, .index 307), (305, .int 1, .index 308)]
def xnhE_A : yA := (yZ xnhE_L, [], [], [], [])
def xnhE_C : List xB := []
def xnhE_ss : List yS := [(29, [(0, .index 305), (1, .index 1), (2, .arg 2), (3, .index 1000), (4, .arg 4)], [.index 308, .index 1000, .index 306, .index 1], [(306, .int 1, .int 1), (307, .int 0, .add (.arg 2) (.int 80)), (305, .int 0, .index 306), (306, .int 0, .index 307), (305, .int 1, .index 308)], [], [(306, .int 1), (307, .int 0), (306, .int 1)])]
def xnhE_rs : List yR := []
theorem xnhE_w : ywa xnhE_A xnhE_ss xnhE_rs = true := by decide +kernel
theorem xnhE_k : yis (yev xnhE_A 3000 60 3 [29] (0, [(0, .index 305), (1, .index 1), (2, .arg 2), (3, .index 1000), (4, .arg 4)], [], xnhE_O, xnhE_C, [])) xnhE_ss xnhE_rs = true := by decide +kernel
def xnhE_r (v2 v4_ : Int32) (k_ : Nat) : Value := bif Nat.beq k_ 2 then .int v2 else (bif Nat.beq k_ 4 then .int v4_ else (.int 0))
def xnhE_s (a1000 : Nat) (n_ : Nat) : Nat := bif Nat.beq n_ 1000 then a1000 else (0)
theorem xnhE {h_ : xH} {a1000 : Nat} {v2 v4_ : Int32} (hs : sHp h_) (k1000 : bcq h_ a1000 6 2) : ∃ h', ysm h_ h' ∧ (((bpat h' 306 1 = some (.int (1 : Int32))) ∧ (bpat h' 307 0 = some (.int (v2 + (80 : Int32)))) ∧ (∀ a_ j_ : Nat, ¬ (a_ = 306 ∧ j_ = 1) → ¬ (a_ = 307 ∧ j_ = 0) → bpat h' a_ j_ = bpat h_ a_ j_) ∧ (bldD 60 3 0 [(0, .index 305), (1, .index 1), (2, .int v2), (3, .index a1000), (4, .int v4_)] [] h_ 29 [(0, .index 305), (1, .index 1), (2, .int v2), (3, .index a1000), (4, .int v4_)] [.index 308, .index a1000, .index 306, .index 1] h'))) := by
  have hA : yas xnhE_A (xnhE_r v2 v4_) (yg (xnhE_s a1000)) := ⟨fun q_ hq => absurd hq List.not_mem_nil, fun q_ hq => absurd hq List.not_mem_nil, fun q_ hq => absurd hq List.not_mem_nil, fun n_ hn => yg_lo hn, fun q_ hq => absurd hq List.not_mem_nil⟩
  have Hs : ysh xnhE_A.1 (yg (xnhE_s a1000)) h_ := ysh_of2 hs (List.forall_mem_cons.mpr ⟨⟨by decide, k1000⟩, fun q_ hq => absurd hq List.not_mem_nil⟩)
  have Ho : ymem (xnhE_r v2 v4_) (yg (xnhE_s a1000)) xnhE_O h_ := List.forall_mem_cons.mpr ⟨bpat_some (fxr_at hs.2 (show fxk fxl 305 0 = some 306 by decide +kernel)), List.forall_mem_cons.mpr ⟨bpat_some (fxr_at hs.2 (show fxk fxl 306 0 = some 307 by decide +kernel)), List.forall_mem_cons.mpr ⟨bpat_some (fxr_at hs.2 (show fxk fxl 305 1 = some 308 by decide +kernel)), fun q_ hq => absurd hq List.not_mem_nil⟩⟩⟩
  have HC : ∀ q_ ∈ xnhE_C, xhold (xnhE_r v2 v4_) q_ := fun q_ hq => absurd hq List.not_mem_nil
  rcases yrun (yis_ok xnhE_k) hA Hs Ho HC with ⟨q_, hq, h', K_, G_⟩ | ⟨q_, hq, h', K_, G_⟩
  · have e_ := List.mem_singleton.mp hq
    subst e_
    exact ⟨h', yfr_sm K_.2.2.2 hs K_.1 (ywa_s xnhE_w List.mem_cons_self), ⟨bpat_of (K_.2.1 _ List.mem_cons_self), bpat_of (K_.2.1 _ (List.mem_cons_of_mem _ List.mem_cons_self)), fun a_ j_ n0_ n1_ => yfr_bp K_.2.2.2 (List.forall_mem_cons.mpr ⟨fun e_ => n0_ ⟨e_.1.symm, e_.2.symm⟩, List.forall_mem_cons.mpr ⟨fun e_ => n1_ ⟨e_.1.symm, e_.2.symm⟩, List.forall_mem_cons.mpr ⟨fun e_ => n0_ ⟨e_.1.symm, e_.2.symm⟩, fun q_ hq => absurd hq List.not_mem_nil⟩⟩⟩), G_⟩⟩
  · cases hq
-- xnhA: 6 steps, 0 ends, 1 returns
def xnhA_L : List (Nat × Nat × Nat) := [(1000, 6, 2)]
def xnhA_O : yO := [(305, .int 1, .index 308), (308, .int 1, .arg 300)]
def xnhA_A : yA := (yZ xnhA_L, [], [], [], [])
def xnhA_C : List xB := [(.eq, .arg 300, .int 0, true)]
def xnhA_ss : List yS := []
def xnhA_rs : List yR := [(some (.arg 4), [(305, .int 1, .index 308), (308, .int 1, .arg 300)], [(.eq, .arg 300, .int 0, true)], [])]
theorem xnhA_w : ywa xnhA_A xnhA_ss xnhA_rs = true := by decide +kernel
theorem xnhA_k : yis (yev xnhA_A 3000 60 3 [] (32, [(0, .index 305), (1, .index 1), (2, .arg 2), (3, .index 1000), (4, .arg 4)], [], xnhA_O, xnhA_C, [])) xnhA_ss xnhA_rs = true := by decide +kernel
def xnhA_r (v2 v4_ v300 : Int32) (k_ : Nat) : Value := bif Nat.beq k_ 2 then .int v2 else (bif Nat.beq k_ 4 then .int v4_ else (bif Nat.beq k_ 300 then .int v300 else (.int 0)))
def xnhA_s (a1000 : Nat) (n_ : Nat) : Nat := bif Nat.beq n_ 1000 then a1000 else (0)
theorem xnhA {h_ : xH} {a1000 : Nat} {v2 v4_ v300 : Int32} (hs : sHp h_) (k1000 : bcq h_ a1000 6 2) (o0_ : bpat h_ 308 1 = some (.int v300)) (c0_ : v300 = (0 : Int32)) : ∃ h', ysm h_ h' ∧ (((∀ a_ j_ : Nat, bpat h' a_ j_ = bpat h_ a_ j_) ∧ (∀ D_, 60 ≤ D_ → xrun D_ 3 32 [(0, .index 305), (1, .index 1), (2, .int v2), (3, .index a1000), (4, .int v4_)] [] h_ (some (.int v4_), h', [])))) := by
  have hA : yas xnhA_A (xnhA_r v2 v4_ v300) (yg (xnhA_s a1000)) := ⟨fun q_ hq => absurd hq List.not_mem_nil, fun q_ hq => absurd hq List.not_mem_nil, fun q_ hq => absurd hq List.not_mem_nil, fun n_ hn => yg_lo hn, fun q_ hq => absurd hq List.not_mem_nil⟩
  have Hs : ysh xnhA_A.1 (yg (xnhA_s a1000)) h_ := ysh_of2 hs (List.forall_mem_cons.mpr ⟨⟨by decide, k1000⟩, fun q_ hq => absurd hq List.not_mem_nil⟩)
  have Ho : ymem (xnhA_r v2 v4_ v300) (yg (xnhA_s a1000)) xnhA_O h_ := List.forall_mem_cons.mpr ⟨bpat_some (fxr_at hs.2 (show fxk fxl 305 1 = some 308 by decide +kernel)), List.forall_mem_cons.mpr ⟨bpat_some o0_, fun q_ hq => absurd hq List.not_mem_nil⟩⟩
  have HC : ∀ q_ ∈ xnhA_C, xhold (xnhA_r v2 v4_ v300) q_ := List.forall_mem_cons.mpr ⟨xh_eqT2 c0_, fun q_ hq => absurd hq List.not_mem_nil⟩
  rcases yrun (yis_ok xnhA_k) hA Hs Ho HC with ⟨q_, hq, h', K_, G_⟩ | ⟨q_, hq, h', K_, G_⟩
  · cases hq
  · have e_ := List.mem_singleton.mp hq
    subst e_
    exact ⟨h', yfr_sm K_.2.2.2 hs K_.1 (ywa_r xnhA_w List.mem_cons_self), ⟨fun a_ j_ => yfr_bp K_.2.2.2 (fun q_ hq => absurd hq List.not_mem_nil), G_⟩⟩
-- xnhB: 18 steps, 0 ends, 1 returns
def xnhB_L : List (Nat × Nat × Nat) := [(1000, 6, 2)]
def xnhB_O : yO := [(305, .int 1, .index 308), (308, .int 1, .arg 300), (308, .int 0, .index 309), (309, .int 0, .arg 301)]
def xnhB_A : yA := (yZ xnhB_L, [], [], [], [])
def xnhB_C : List xB := [(.lt, .arg 301, .int 60, true), (.eq, .arg 300, .int 0, false)]
def xnhB_ss : List yS := []
def xnhB_rs : List yR := [(some (.arg 4), [(305, .int 1, .index 308), (308, .int 1, .arg 300), (308, .int 0, .index 309), (309, .int 0, .arg 301)], [(.lt, .arg 301, .int 60, true), (.eq, .arg 300, .int 0, false)], [])]
theorem xnhB_w : ywa xnhB_A xnhB_ss xnhB_rs = true := by decide +kernel
theorem xnhB_k : yis (yev xnhB_A 3000 60 3 [] (32, [(0, .index 305), (1, .index 1), (2, .arg 2), (3, .index 1000), (4, .arg 4)], [], xnhB_O, xnhB_C, [])) xnhB_ss xnhB_rs = true := by decide +kernel
def xnhB_r (v2 v4_ v300 v301 : Int32) (k_ : Nat) : Value := bif Nat.beq k_ 2 then .int v2 else (bif Nat.beq k_ 4 then .int v4_ else (bif Nat.beq k_ 300 then .int v300 else (bif Nat.beq k_ 301 then .int v301 else (.int 0))))
def xnhB_s (a1000 : Nat) (n_ : Nat) : Nat := bif Nat.beq n_ 1000 then a1000 else (0)
theorem xnhB {h_ : xH} {a1000 : Nat} {v2 v4_ v300 v301 : Int32} (hs : sHp h_) (k1000 : bcq h_ a1000 6 2) (o0_ : bpat h_ 308 1 = some (.int v300)) (o1 : bpat h_ 309 0 = some (.int v301)) (c0_ : v301.toInt < (60 : Int32).toInt) (c1_ : ¬ v300 = (0 : Int32)) : ∃ h', ysm h_ h' ∧ (((∀ a_ j_ : Nat, bpat h' a_ j_ = bpat h_ a_ j_) ∧ (∀ D_, 60 ≤ D_ → xrun D_ 3 32 [(0, .index 305), (1, .index 1), (2, .int v2), (3, .index a1000), (4, .int v4_)] [] h_ (some (.int v4_), h', [])))) := by
  have hA : yas xnhB_A (xnhB_r v2 v4_ v300 v301) (yg (xnhB_s a1000)) := ⟨fun q_ hq => absurd hq List.not_mem_nil, fun q_ hq => absurd hq List.not_mem_nil, fun q_ hq => absurd hq List.not_mem_nil, fun n_ hn => yg_lo hn, fun q_ hq => absurd hq List.not_mem_nil⟩
  have Hs : ysh xnhB_A.1 (yg (xnhB_s a1000)) h_ := ysh_of2 hs (List.forall_mem_cons.mpr ⟨⟨by decide, k1000⟩, fun q_ hq => absurd hq List.not_mem_nil⟩)
  have Ho : ymem (xnhB_r v2 v4_ v300 v301) (yg (xnhB_s a1000)) xnhB_O h_ := List.forall_mem_cons.mpr ⟨bpat_some (fxr_at hs.2 (show fxk fxl 305 1 = some 308 by decide +kernel)), List.forall_mem_cons.mpr ⟨bpat_some o0_, List.forall_mem_cons.mpr ⟨bpat_some (fxr_at hs.2 (show fxk fxl 308 0 = some 309 by decide +kernel)), List.forall_mem_cons.mpr ⟨bpat_some o1, fun q_ hq => absurd hq List.not_mem_nil⟩⟩⟩⟩
  have HC : ∀ q_ ∈ xnhB_C, xhold (xnhB_r v2 v4_ v300 v301) q_ := List.forall_mem_cons.mpr ⟨xh_ltT c0_, List.forall_mem_cons.mpr ⟨xh_eqF2 c1_, fun q_ hq => absurd hq List.not_mem_nil⟩⟩
  rcases yrun (yis_ok xnhB_k) hA Hs Ho HC with ⟨q_, hq, h', K_, G_⟩ | ⟨q_, hq, h', K_, G_⟩
  · cases hq
  · have e_ := List.mem_singleton.mp hq
    subst e_
    exact ⟨h', yfr_sm K_.2.2.2 hs K_.1 (ywa_r xnhB_w List.mem_cons_self), ⟨fun a_ j_ => yfr_bp K_.2.2.2 (fun q_ hq => absurd hq List.not_mem_nil), G_⟩⟩
-- xnhC: 28 steps, 0 ends, 1 returns
def xnhC_L : List (Nat × Nat × Nat) := [(1000, 6, 2)]
def xnhC_O : yO := [(305, .int 1, .index 308), (308, .int 1, .arg 300), (308, .int 0, .index 309), (309, .int 0, .arg 301)]
def xnhC_A : yA := (yZ xnhC_L, [], [], [], [])
def xnhC_C : List xB := [(.le, .arg 301, .int 99, true), (.lt, .arg 301, .int 60, false), (.eq, .arg 300, .int 0, false)]
def xnhC_ss : List yS := []
def xnhC_rs : List yR := [(some (.sub (.arg 301) (.int 80)), [(305, .int 1, .index 308), (308, .int 1, .arg 300), (308, .int 0, .index 309), (309, .int 0, .arg 301)], [(.le, .arg 301, .int 99, true), (.lt, .arg 301, .int 60, false), (.eq, .arg 300, .int 0, false)], [])]
theorem xnhC_w : ywa xnhC_A xnhC_ss xnhC_rs = true := by decide +kernel
theorem xnhC_k : yis (yev xnhC_A 3000 60 3 [] (32, [(0, .index 305), (1, .index 1), (2, .arg 2), (3, .index 1000), (4, .arg 4)], [], xnhC_O, xnhC_C, [])) xnhC_ss xnhC_rs = true := by decide +kernel
def xnhC_r (v2 v4_ v300 v301 : Int32) (k_ : Nat) : Value := bif Nat.beq k_ 2 then .int v2 else (bif Nat.beq k_ 4 then .int v4_ else (bif Nat.beq k_ 300 then .int v300 else (bif Nat.beq k_ 301 then .int v301 else (.int 0))))
def xnhC_s (a1000 : Nat) (n_ : Nat) : Nat := bif Nat.beq n_ 1000 then a1000 else (0)
theorem xnhC {h_ : xH} {a1000 : Nat} {v2 v4_ v300 v301 : Int32} (hs : sHp h_) (k1000 : bcq h_ a1000 6 2) (o0_ : bpat h_ 308 1 = some (.int v300)) (o1 : bpat h_ 309 0 = some (.int v301)) (c0_ : v301.toInt ≤ (99 : Int32).toInt) (c1_ : (60 : Int32).toInt ≤ v301.toInt) (c2_ : ¬ v300 = (0 : Int32)) : ∃ h', ysm h_ h' ∧ (((∀ a_ j_ : Nat, bpat h' a_ j_ = bpat h_ a_ j_) ∧ (∀ D_, 60 ≤ D_ → xrun D_ 3 32 [(0, .index 305), (1, .index 1), (2, .int v2), (3, .index a1000), (4, .int v4_)] [] h_ (some (.int (v301 - (80 : Int32))), h', [])))) := by
  have hA : yas xnhC_A (xnhC_r v2 v4_ v300 v301) (yg (xnhC_s a1000)) := ⟨fun q_ hq => absurd hq List.not_mem_nil, fun q_ hq => absurd hq List.not_mem_nil, fun q_ hq => absurd hq List.not_mem_nil, fun n_ hn => yg_lo hn, fun q_ hq => absurd hq List.not_mem_nil⟩
  have Hs : ysh xnhC_A.1 (yg (xnhC_s a1000)) h_ := ysh_of2 hs (List.forall_mem_cons.mpr ⟨⟨by decide, k1000⟩, fun q_ hq => absurd hq List.not_mem_nil⟩)
  have Ho : ymem (xnhC_r v2 v4_ v300 v301) (yg (xnhC_s a1000)) xnhC_O h_ := List.forall_mem_cons.mpr ⟨bpat_some (fxr_at hs.2 (show fxk fxl 305 1 = some 308 by decide +kernel)), List.forall_mem_cons.mpr ⟨bpat_some o0_, List.forall_mem_cons.mpr ⟨bpat_some (fxr_at hs.2 (show fxk fxl 308 0 = some 309 by decide +kernel)), List.forall_mem_cons.mpr ⟨bpat_some o1, fun q_ hq => absurd hq List.not_mem_nil⟩⟩⟩⟩
  have HC : ∀ q_ ∈ xnhC_C, xhold (xnhC_r v2 v4_ v300 v301) q_ := List.forall_mem_cons.mpr ⟨xh_leT c0_, List.forall_mem_cons.mpr ⟨xh_ltF c1_, List.forall_mem_cons.mpr ⟨xh_eqF2 c2_, fun q_ hq => absurd hq List.not_mem_nil⟩⟩⟩
  rcases yrun (yis_ok xnhC_k) hA Hs Ho HC with ⟨q_, hq, h', K_, G_⟩ | ⟨q_, hq, h', K_, G_⟩
  · cases hq
  · have e_ := List.mem_singleton.mp hq
    subst e_
    exact ⟨h', yfr_sm K_.2.2.2 hs K_.1 (ywa_r xnhC_w List.mem_cons_self), ⟨fun a_ j_ => yfr_bp K_.2.2.2 (fun q_ hq => absurd hq List.not_mem_nil), G_⟩⟩
-- xnoE: 46 steps, 1 ends, 0 returns
def xnoE_L : List (Nat × Nat × Nat) := []
def xnoE_O : yO := [(1, .int 2, .index 4), (4, .int 1, .index 70), (70, .int 0, .index 71), (71, .int 1, .arg 300), (1, .int 14, .index 33)]
def xnoE_A : yA := (yZ xnoE_L, [], [], [], [])
def xnoE_C : List xB := [(.le, .arg 300, .int 0, false)]
def xnoE_ss : List yS := [(60, [(6, .sub (.add (.arg 1) (.mul (.arg 3) (.int 2))) (.int 1)), (5, .index 70), (0, .index 1), (1, .arg 1), (2, .arg 2), (3, .arg 3), (4, .arg 4)], [.index 33, .index 70], [(33, .int 3, .arg 4), (33, .int 2, .arg 3), (33, .int 1, .arg 2), (33, .int 0, .arg 1), (1, .int 2, .index 4), (4, .int 1, .index 70), (70, .int 0, .index 71), (71, .int 1, .arg 300), (1, .int 14, .index 33)], [(.le, .arg 300, .int 0, false)], [(33, .int 3), (33, .int 2), (33, .int 1), (33, .int 0)])]
def xnoE_rs : List yR := []
theorem xnoE_w : ywa xnoE_A xnoE_ss xnoE_rs = true := by decide +kernel
theorem xnoE_k : yis (yev xnoE_A 3000 60 72 [60] (0, [(0, .index 1), (1, .arg 1), (2, .arg 2), (3, .arg 3), (4, .arg 4)], [], xnoE_O, xnoE_C, [])) xnoE_ss xnoE_rs = true := by decide +kernel
def xnoE_r (v1_ v2 v3 v4_ v300 : Int32) (k_ : Nat) : Value := bif Nat.beq k_ 1 then .int v1_ else (bif Nat.beq k_ 2 then .int v2 else (bif Nat.beq k_ 3 then .int v3 else (bif Nat.beq k_ 4 then .int v4_ else (bif Nat.beq k_ 300 then .int v300 else (.int 0)))))
def xnoE_s (n_ : Nat) : Nat := 0
theorem xnoE {h_ : xH} {v1_ v2 v3 v4_ v300 : Int32} (hs : sHp h_) (o0_ : bpat h_ 71 1 = some (.int v300)) (c0_ : (0 : Int32).toInt < v300.toInt) : ∃ h', ysm h_ h' ∧ (((bpat h' 33 3 = some (.int v4_)) ∧ (bpat h' 33 2 = some (.int v3)) ∧ (bpat h' 33 1 = some (.int v2)) ∧ (bpat h' 33 0 = some (.int v1_)) ∧ (∀ a_ j_ : Nat, ¬ (a_ = 33 ∧ j_ = 3) → ¬ (a_ = 33 ∧ j_ = 2) → ¬ (a_ = 33 ∧ j_ = 1) → ¬ (a_ = 33 ∧ j_ = 0) → bpat h' a_ j_ = bpat h_ a_ j_) ∧ (bldD 60 72 0 [(0, .index 1), (1, .int v1_), (2, .int v2), (3, .int v3), (4, .int v4_)] [] h_ 60 [(6, .int ((v1_ + (v3 * (2 : Int32))) - (1 : Int32))), (5, .index 70), (0, .index 1), (1, .int v1_), (2, .int v2), (3, .int v3), (4, .int v4_)] [.index 33, .index 70] h'))) := by
  have hA : yas xnoE_A (xnoE_r v1_ v2 v3 v4_ v300) (yg xnoE_s) := ⟨fun q_ hq => absurd hq List.not_mem_nil, fun q_ hq => absurd hq List.not_mem_nil, fun q_ hq => absurd hq List.not_mem_nil, fun n_ hn => yg_lo hn, fun q_ hq => absurd hq List.not_mem_nil⟩
  have Hs : ysh xnoE_A.1 (yg xnoE_s) h_ := ysh_of2 hs (fun q_ hq => absurd hq List.not_mem_nil)
  have Ho : ymem (xnoE_r v1_ v2 v3 v4_ v300) (yg xnoE_s) xnoE_O h_ := List.forall_mem_cons.mpr ⟨bpat_some (fxr_at hs.2 (show fxk fxl 1 2 = some 4 by decide +kernel)), List.forall_mem_cons.mpr ⟨bpat_some (fxr_at hs.2 (show fxk fxl 4 1 = some 70 by decide +kernel)), List.forall_mem_cons.mpr ⟨bpat_some (fxr_at hs.2 (show fxk fxl 70 0 = some 71 by decide +kernel)), List.forall_mem_cons.mpr ⟨bpat_some o0_, List.forall_mem_cons.mpr ⟨bpat_some (fxr_at hs.2 (show fxk fxl 1 14 = some 33 by decide +kernel)), fun q_ hq => absurd hq List.not_mem_nil⟩⟩⟩⟩⟩
  have HC : ∀ q_ ∈ xnoE_C, xhold (xnoE_r v1_ v2 v3 v4_ v300) q_ := List.forall_mem_cons.mpr ⟨xh_leF c0_, fun q_ hq => absurd hq List.not_mem_nil⟩
  rcases yrun (yis_ok xnoE_k) hA Hs Ho HC with ⟨q_, hq, h', K_, G_⟩ | ⟨q_, hq, h', K_, G_⟩
  · have e_ := List.mem_singleton.mp hq
    subst e_
    exact ⟨h', yfr_sm K_.2.2.2 hs K_.1 (ywa_s xnoE_w List.mem_cons_self), ⟨bpat_of (K_.2.1 _ List.mem_cons_self), bpat_of (K_.2.1 _ (List.mem_cons_of_mem _ List.mem_cons_self)), bpat_of (K_.2.1 _ (List.mem_cons_of_mem _ (List.mem_cons_of_mem _ List.mem_cons_self))), bpat_of (K_.2.1 _ (List.mem_cons_of_mem _ (List.mem_cons_of_mem _ (List.mem_cons_of_mem _ List.mem_cons_self)))), fun a_ j_ n0_ n1_ n2_ n3_ => yfr_bp K_.2.2.2 (List.forall_mem_cons.mpr ⟨fun e_ => n0_ ⟨e_.1.symm, e_.2.symm⟩, List.forall_mem_cons.mpr ⟨fun e_ => n1_ ⟨e_.1.symm, e_.2.symm⟩, List.forall_mem_cons.mpr ⟨fun e_ => n2_ ⟨e_.1.symm, e_.2.symm⟩, List.forall_mem_cons.mpr ⟨fun e_ => n3_ ⟨e_.1.symm, e_.2.symm⟩, fun q_ hq => absurd hq List.not_mem_nil⟩⟩⟩⟩), G_⟩⟩
  · cases hq
-- xnoN: 28 steps, 0 ends, 1 returns
def xnoN_L : List (Nat × Nat × Nat) := []
def xnoN_O : yO := [(1, .int 2, .index 4), (4, .int 1, .index 70), (70, .int 0, .index 71), (71, .int 1, .arg 300)]
def xnoN_A : yA := (yZ xnoN_L, [], [], [], [])
def xnoN_C : List xB := [(.le, .arg 300, .int 0, true)]
def xnoN_ss : List yS := []
def xnoN_rs : List yR := [(some (.op2 .fcmpl (.int (Int32.ofInt (-20))) (.op2 .fcmpg (.int 19) (.sub (.add (.arg 1) (.mul (.arg 3) (.int 2))) (.int 1)))), [(1, .int 2, .index 4), (4, .int 1, .index 70), (70, .int 0, .index 71), (71, .int 1, .arg 300)], [(.le, .arg 300, .int 0, true)], [])]
theorem xnoN_w : ywa xnoN_A xnoN_ss xnoN_rs = true := by decide +kernel
theorem xnoN_k : yis (yev xnoN_A 3000 60 72 [] (0, [(0, .index 1), (1, .arg 1), (2, .arg 2), (3, .arg 3), (4, .arg 4)], [], xnoN_O, xnoN_C, [])) xnoN_ss xnoN_rs = true := by decide +kernel
def xnoN_r (v1_ v2 v3 v4_ v300 : Int32) (k_ : Nat) : Value := bif Nat.beq k_ 1 then .int v1_ else (bif Nat.beq k_ 2 then .int v2 else (bif Nat.beq k_ 3 then .int v3 else (bif Nat.beq k_ 4 then .int v4_ else (bif Nat.beq k_ 300 then .int v300 else (.int 0)))))
def xnoN_s (n_ : Nat) : Nat := 0
theorem xnoN {h_ : xH} {v1_ v2 v3 v4_ v300 : Int32} (hs : sHp h_) (o0_ : bpat h_ 71 1 = some (.int v300)) (c0_ : v300.toInt ≤ (0 : Int32).toInt) : ∃ h', ysm h_ h' ∧ (((∀ a_ j_ : Nat, bpat h' a_ j_ = bpat h_ a_ j_) ∧ (∀ D_, 60 ≤ D_ → xrun D_ 72 0 [(0, .index 1), (1, .int v1_), (2, .int v2), (3, .int v3), (4, .int v4_)] [] h_ (some (.int (if (Int32.ofInt (-20)) < (if ((v1_ + (v3 * (2 : Int32))) - (1 : Int32)) < (19 : Int32) then ((v1_ + (v3 * (2 : Int32))) - (1 : Int32)) else (19 : Int32)) then (if ((v1_ + (v3 * (2 : Int32))) - (1 : Int32)) < (19 : Int32) then ((v1_ + (v3 * (2 : Int32))) - (1 : Int32)) else (19 : Int32)) else (Int32.ofInt (-20)))), h', [])))) := by
  have hA : yas xnoN_A (xnoN_r v1_ v2 v3 v4_ v300) (yg xnoN_s) := ⟨fun q_ hq => absurd hq List.not_mem_nil, fun q_ hq => absurd hq List.not_mem_nil, fun q_ hq => absurd hq List.not_mem_nil, fun n_ hn => yg_lo hn, fun q_ hq => absurd hq List.not_mem_nil⟩
  have Hs : ysh xnoN_A.1 (yg xnoN_s) h_ := ysh_of2 hs (fun q_ hq => absurd hq List.not_mem_nil)
  have Ho : ymem (xnoN_r v1_ v2 v3 v4_ v300) (yg xnoN_s) xnoN_O h_ := List.forall_mem_cons.mpr ⟨bpat_some (fxr_at hs.2 (show fxk fxl 1 2 = some 4 by decide +kernel)), List.forall_mem_cons.mpr ⟨bpat_some (fxr_at hs.2 (show fxk fxl 4 1 = some 70 by decide +kernel)), List.forall_mem_cons.mpr ⟨bpat_some (fxr_at hs.2 (show fxk fxl 70 0 = some 71 by decide +kernel)), List.forall_mem_cons.mpr ⟨bpat_some o0_, fun q_ hq => absurd hq List.not_mem_nil⟩⟩⟩⟩
  have HC : ∀ q_ ∈ xnoN_C, xhold (xnoN_r v1_ v2 v3 v4_ v300) q_ := List.forall_mem_cons.mpr ⟨xh_leT c0_, fun q_ hq => absurd hq List.not_mem_nil⟩
  rcases yrun (yis_ok xnoN_k) hA Hs Ho HC with ⟨q_, hq, h', K_, G_⟩ | ⟨q_, hq, h', K_, G_⟩
  · cases hq
  · have e_ := List.mem_singleton.mp hq
    subst e_
    exact ⟨h', yfr_sm K_.2.2.2 hs K_.1 (ywa_r xnoN_w List.mem_cons_self), ⟨fun a_ j_ => yfr_bp K_.2.2.2 (fun q_ hq => absurd hq List.not_mem_nil), G_⟩⟩
-- xnoR: 7 steps, 0 ends, 1 returns
def xnoR_L : List (Nat × Nat × Nat) := []
def xnoR_O : yO := []
def xnoR_A : yA := (yZ xnoR_L, [], [], [], [])
def xnoR_C : List xB := []
def xnoR_ss : List yS := []
def xnoR_rs : List yR := [(some (.op2 .fcmpl (.int (Int32.ofInt (-20))) (.op2 .fcmpg (.int 19) (.arg 7))), [], [], [])]
theorem xnoR_w : ywa xnoR_A xnoR_ss xnoR_rs = true := by decide +kernel
theorem xnoR_k : yis (yev xnoR_A 3000 60 72 [] (63, [(6, .arg 6), (5, .index 70), (0, .index 1), (1, .arg 1), (2, .arg 2), (3, .arg 3), (4, .arg 4)], [.arg 7], xnoR_O, xnoR_C, [])) xnoR_ss xnoR_rs = true := by decide +kernel
def xnoR_r (v1_ v2 v3 v4_ v6 v7 : Int32) (k_ : Nat) : Value := bif Nat.beq k_ 1 then .int v1_ else (bif Nat.beq k_ 2 then .int v2 else (bif Nat.beq k_ 3 then .int v3 else (bif Nat.beq k_ 4 then .int v4_ else (bif Nat.beq k_ 6 then .int v6 else (bif Nat.beq k_ 7 then .int v7 else (.int 0))))))
def xnoR_s (n_ : Nat) : Nat := 0
theorem xnoR {h_ : xH} {v1_ v2 v3 v4_ v6 v7 : Int32} (hs : sHp h_) : ∃ h', ysm h_ h' ∧ (((∀ a_ j_ : Nat, bpat h' a_ j_ = bpat h_ a_ j_) ∧ (∀ D_, 60 ≤ D_ → xrun D_ 72 63 [(6, .int v6), (5, .index 70), (0, .index 1), (1, .int v1_), (2, .int v2), (3, .int v3), (4, .int v4_)] [.int v7] h_ (some (.int (if (Int32.ofInt (-20)) < (if v7 < (19 : Int32) then v7 else (19 : Int32)) then (if v7 < (19 : Int32) then v7 else (19 : Int32)) else (Int32.ofInt (-20)))), h', [])))) := by
  have hA : yas xnoR_A (xnoR_r v1_ v2 v3 v4_ v6 v7) (yg xnoR_s) := ⟨fun q_ hq => absurd hq List.not_mem_nil, fun q_ hq => absurd hq List.not_mem_nil, fun q_ hq => absurd hq List.not_mem_nil, fun n_ hn => yg_lo hn, fun q_ hq => absurd hq List.not_mem_nil⟩
  have Hs : ysh xnoR_A.1 (yg xnoR_s) h_ := ysh_of2 hs (fun q_ hq => absurd hq List.not_mem_nil)
  have Ho : ymem (xnoR_r v1_ v2 v3 v4_ v6 v7) (yg xnoR_s) xnoR_O h_ := fun q_ hq => absurd hq List.not_mem_nil
  have HC : ∀ q_ ∈ xnoR_C, xhold (xnoR_r v1_ v2 v3 v4_ v6 v7) q_ := fun q_ hq => absurd hq List.not_mem_nil
  rcases yrun (yis_ok xnoR_k) hA Hs Ho HC with ⟨q_, hq, h', K_, G_⟩ | ⟨q_, hq, h', K_, G_⟩
  · cases hq
  · have e_ := List.mem_singleton.mp hq
    subst e_
    exact ⟨h', yfr_sm K_.2.2.2 hs K_.1 (ywa_r xnoR_w List.mem_cons_self), ⟨fun a_ j_ => yfr_bp K_.2.2.2 (fun q_ hq => absurd hq List.not_mem_nil), G_⟩⟩
-- xgoE: 2 steps, 1 ends, 0 returns
def xgoE_L : List (Nat × Nat × Nat) := []
def xgoE_O : yO := []
def xgoE_A : yA := (yZ xgoE_L, [], [], [], [])
def xgoE_C : List xB := []
def xgoE_ss : List yS := [(3, [(5, .int 0), (0, .index 305), (1, .index 1), (2, .index 314), (3, .index 316), (4, .arg 4)], [], [], [], [])]
def xgoE_rs : List yR := []
theorem xgoE_w : ywa xgoE_A xgoE_ss xgoE_rs = true := by decide +kernel
theorem xgoE_k : yis (yev xgoE_A 3000 60 2 [3] (0, [(0, .index 305), (1, .index 1), (2, .index 314), (3, .index 316), (4, .arg 4)], [], xgoE_O, xgoE_C, [])) xgoE_ss xgoE_rs = true := by decide +kernel
def xgoE_r (v4_ : Int32) (k_ : Nat) : Value := bif Nat.beq k_ 4 then .int v4_ else (.int 0)
def xgoE_s (n_ : Nat) : Nat := 0
theorem xgoE {h_ : xH} {v4_ : Int32} (hs : sHp h_) : ∃ h', ysm h_ h' ∧ (((∀ a_ j_ : Nat, bpat h' a_ j_ = bpat h_ a_ j_) ∧ (bldD 60 2 0 [(0, .index 305), (1, .index 1), (2, .index 314), (3, .index 316), (4, .int v4_)] [] h_ 3 [(5, .int (0 : Int32)), (0, .index 305), (1, .index 1), (2, .index 314), (3, .index 316), (4, .int v4_)] [] h'))) := by
  have hA : yas xgoE_A (xgoE_r v4_) (yg xgoE_s) := ⟨fun q_ hq => absurd hq List.not_mem_nil, fun q_ hq => absurd hq List.not_mem_nil, fun q_ hq => absurd hq List.not_mem_nil, fun n_ hn => yg_lo hn, fun q_ hq => absurd hq List.not_mem_nil⟩
  have Hs : ysh xgoE_A.1 (yg xgoE_s) h_ := ysh_of2 hs (fun q_ hq => absurd hq List.not_mem_nil)
  have Ho : ymem (xgoE_r v4_) (yg xgoE_s) xgoE_O h_ := fun q_ hq => absurd hq List.not_mem_nil
  have HC : ∀ q_ ∈ xgoE_C, xhold (xgoE_r v4_) q_ := fun q_ hq => absurd hq List.not_mem_nil
  rcases yrun (yis_ok xgoE_k) hA Hs Ho HC with ⟨q_, hq, h', K_, G_⟩ | ⟨q_, hq, h', K_, G_⟩
  · have e_ := List.mem_singleton.mp hq
    subst e_
    exact ⟨h', yfr_sm K_.2.2.2 hs K_.1 (ywa_s xgoE_w List.mem_cons_self), ⟨fun a_ j_ => yfr_bp K_.2.2.2 (fun q_ hq => absurd hq List.not_mem_nil), G_⟩⟩
  · cases hq
-- xgoTA: 14 steps, 1 ends, 0 returns
def xgoTA_L : List (Nat × Nat × Nat) := []
def xgoTA_O : yO := [(305, .int 4, .arg 304), (305, .int 2, .arg 302), (305, .int 7, .arg 307)]
def xgoTA_A : yA := (yZ xgoTA_L, [], [], [], [])
def xgoTA_C : List xB := [(.lt, .arg 304, .int 0, true), (.lt, .arg 5, .arg 4, true)]
def xgoTA_ss : List yS := [(29, [(5, .arg 5), (0, .index 305), (1, .index 1), (2, .index 314), (3, .index 316), (4, .arg 4)], [.arg 307, .index 314, .arg 302, .index 1, .index 305, .index 305], [(305, .int 4, .arg 304), (305, .int 2, .arg 302), (305, .int 7, .arg 307)], [(.lt, .arg 304, .int 0, true), (.lt, .arg 5, .arg 4, true)], [])]
def xgoTA_rs : List yR := []
theorem xgoTA_w : ywa xgoTA_A xgoTA_ss xgoTA_rs = true := by decide +kernel
theorem xgoTA_k : yis (yev xgoTA_A 3000 60 2 [29] (3, [(5, .arg 5), (0, .index 305), (1, .index 1), (2, .index 314), (3, .index 316), (4, .arg 4)], [], xgoTA_O, xgoTA_C, [])) xgoTA_ss xgoTA_rs = true := by decide +kernel
def xgoTA_r (v4_ v5 v302 v304 v307 : Int32) (k_ : Nat) : Value := bif Nat.beq k_ 4 then .int v4_ else (bif Nat.beq k_ 5 then .int v5 else (bif Nat.beq k_ 302 then .int v302 else (bif Nat.beq k_ 304 then .int v304 else (bif Nat.beq k_ 307 then .int v307 else (.int 0)))))
def xgoTA_s (n_ : Nat) : Nat := 0
theorem xgoTA {h_ : xH} {v4_ v5 v302 v304 v307 : Int32} (hs : sHp h_) (o0_ : bpat h_ 305 4 = some (.int v304)) (o1 : bpat h_ 305 2 = some (.int v302)) (o2 : bpat h_ 305 7 = some (.int v307)) (c0_ : v304.toInt < (0 : Int32).toInt) (c1_ : v5.toInt < v4_.toInt) : ∃ h', ysm h_ h' ∧ (((∀ a_ j_ : Nat, bpat h' a_ j_ = bpat h_ a_ j_) ∧ (bldD 60 2 3 [(5, .int v5), (0, .index 305), (1, .index 1), (2, .index 314), (3, .index 316), (4, .int v4_)] [] h_ 29 [(5, .int v5), (0, .index 305), (1, .index 1), (2, .index 314), (3, .index 316), (4, .int v4_)] [.int v307, .index 314, .int v302, .index 1, .index 305, .index 305] h'))) := by
  have hA : yas xgoTA_A (xgoTA_r v4_ v5 v302 v304 v307) (yg xgoTA_s) := ⟨fun q_ hq => absurd hq List.not_mem_nil, fun q_ hq => absurd hq List.not_mem_nil, fun q_ hq => absurd hq List.not_mem_nil, fun n_ hn => yg_lo hn, fun q_ hq => absurd hq List.not_mem_nil⟩
  have Hs : ysh xgoTA_A.1 (yg xgoTA_s) h_ := ysh_of2 hs (fun q_ hq => absurd hq List.not_mem_nil)
  have Ho : ymem (xgoTA_r v4_ v5 v302 v304 v307) (yg xgoTA_s) xgoTA_O h_ := List.forall_mem_cons.mpr ⟨bpat_some o0_, List.forall_mem_cons.mpr ⟨bpat_some o1, List.forall_mem_cons.mpr ⟨bpat_some o2, fun q_ hq => absurd hq List.not_mem_nil⟩⟩⟩
  have HC : ∀ q_ ∈ xgoTA_C, xhold (xgoTA_r v4_ v5 v302 v304 v307) q_ := List.forall_mem_cons.mpr ⟨xh_ltT c0_, List.forall_mem_cons.mpr ⟨xh_ltT c1_, fun q_ hq => absurd hq List.not_mem_nil⟩⟩
  rcases yrun (yis_ok xgoTA_k) hA Hs Ho HC with ⟨q_, hq, h', K_, G_⟩ | ⟨q_, hq, h', K_, G_⟩
  · have e_ := List.mem_singleton.mp hq
    subst e_
    exact ⟨h', yfr_sm K_.2.2.2 hs K_.1 (ywa_s xgoTA_w List.mem_cons_self), ⟨fun a_ j_ => yfr_bp K_.2.2.2 (fun q_ hq => absurd hq List.not_mem_nil), G_⟩⟩
  · cases hq
-- xgoXA: 4 steps, 0 ends, 1 returns
def xgoXA_L : List (Nat × Nat × Nat) := []
def xgoXA_O : yO := []
def xgoXA_A : yA := (yZ xgoXA_L, [], [], [], [])
def xgoXA_C : List xB := [(.lt, .arg 5, .arg 4, false)]
def xgoXA_ss : List yS := []
def xgoXA_rs : List yR := [(none, [], [(.lt, .arg 5, .arg 4, false)], [])]
theorem xgoXA_w : ywa xgoXA_A xgoXA_ss xgoXA_rs = true := by decide +kernel
theorem xgoXA_k : yis (yev xgoXA_A 3000 60 2 [] (3, [(5, .arg 5), (0, .index 305), (1, .index 1), (2, .index 314), (3, .index 316), (4, .arg 4)], [], xgoXA_O, xgoXA_C, [])) xgoXA_ss xgoXA_rs = true := by decide +kernel
def xgoXA_r (v4_ v5 : Int32) (k_ : Nat) : Value := bif Nat.beq k_ 4 then .int v4_ else (bif Nat.beq k_ 5 then .int v5 else (.int 0))
def xgoXA_s (n_ : Nat) : Nat := 0
theorem xgoXA {h_ : xH} {v4_ v5 : Int32} (hs : sHp h_) (c0_ : v4_.toInt ≤ v5.toInt) : ∃ h', ysm h_ h' ∧ (((∀ a_ j_ : Nat, bpat h' a_ j_ = bpat h_ a_ j_) ∧ (∀ D_, 60 ≤ D_ → xrun D_ 2 3 [(5, .int v5), (0, .index 305), (1, .index 1), (2, .index 314), (3, .index 316), (4, .int v4_)] [] h_ (none, h', [])))) := by
  have hA : yas xgoXA_A (xgoXA_r v4_ v5) (yg xgoXA_s) := ⟨fun q_ hq => absurd hq List.not_mem_nil, fun q_ hq => absurd hq List.not_mem_nil, fun q_ hq => absurd hq List.not_mem_nil, fun n_ hn => yg_lo hn, fun q_ hq => absurd hq List.not_mem_nil⟩
  have Hs : ysh xgoXA_A.1 (yg xgoXA_s) h_ := ysh_of2 hs (fun q_ hq => absurd hq List.not_mem_nil)
  have Ho : ymem (xgoXA_r v4_ v5) (yg xgoXA_s) xgoXA_O h_ := fun q_ hq => absurd hq List.not_mem_nil
  have HC : ∀ q_ ∈ xgoXA_C, xhold (xgoXA_r v4_ v5) q_ := List.forall_mem_cons.mpr ⟨xh_ltF c0_, fun q_ hq => absurd hq List.not_mem_nil⟩
  rcases yrun (yis_ok xgoXA_k) hA Hs Ho HC with ⟨q_, hq, h', K_, G_⟩ | ⟨q_, hq, h', K_, G_⟩
  · cases hq
  · have e_ := List.mem_singleton.mp hq
    subst e_
    exact ⟨h', yfr_sm K_.2.2.2 hs K_.1 (ywa_r xgoXA_w List.mem_cons_self), ⟨fun a_ j_ => yfr_bp K_.2.2.2 (fun q_ hq => absurd hq List.not_mem_nil), G_⟩⟩
-- xgoUA: 9 steps, 1 ends, 0 returns
def xgoUA_L : List (Nat × Nat × Nat) := []
def xgoUA_O : yO := [(305, .int 3, .arg 303), (305, .int 6, .arg 306)]
def xgoUA_A : yA := (yZ xgoUA_L, [], [], [], [])
def xgoUA_C : List xB := []
def xgoUA_ss : List yS := [(47, [(5, .arg 5), (0, .index 305), (1, .index 1), (2, .index 314), (3, .index 316), (4, .arg 4)], [.arg 306, .index 316, .arg 303, .index 1, .index 305, .index 305], [(305, .int 7, .arg 8), (305, .int 3, .arg 303), (305, .int 6, .arg 306)], [], [(305, .int 7)])]
def xgoUA_rs : List yR := []
theorem xgoUA_w : ywa xgoUA_A xgoUA_ss xgoUA_rs = true := by decide +kernel
theorem xgoUA_k : yis (yev xgoUA_A 3000 60 2 [47] (32, [(5, .arg 5), (0, .index 305), (1, .index 1), (2, .index 314), (3, .index 316), (4, .arg 4)], [.arg 8, .index 305], xgoUA_O, xgoUA_C, [])) xgoUA_ss xgoUA_rs = true := by decide +kernel
def xgoUA_r (v4_ v5 v8 v303 v306 : Int32) (k_ : Nat) : Value := bif Nat.beq k_ 4 then .int v4_ else (bif Nat.beq k_ 5 then .int v5 else (bif Nat.beq k_ 8 then .int v8 else (bif Nat.beq k_ 303 then .int v303 else (bif Nat.beq k_ 306 then .int v306 else (.int 0)))))
def xgoUA_s (n_ : Nat) : Nat := 0
theorem xgoUA {h_ : xH} {v4_ v5 v8 v303 v306 : Int32} (hs : sHp h_) (o0_ : bpat h_ 305 3 = some (.int v303)) (o1 : bpat h_ 305 6 = some (.int v306)) : ∃ h', ysm h_ h' ∧ (((bpat h' 305 7 = some (.int v8)) ∧ (∀ a_ j_ : Nat, ¬ (a_ = 305 ∧ j_ = 7) → bpat h' a_ j_ = bpat h_ a_ j_) ∧ (bldD 60 2 32 [(5, .int v5), (0, .index 305), (1, .index 1), (2, .index 314), (3, .index 316), (4, .int v4_)] [.int v8, .index 305] h_ 47 [(5, .int v5), (0, .index 305), (1, .index 1), (2, .index 314), (3, .index 316), (4, .int v4_)] [.int v306, .index 316, .int v303, .index 1, .index 305, .index 305] h'))) := by
  have hA : yas xgoUA_A (xgoUA_r v4_ v5 v8 v303 v306) (yg xgoUA_s) := ⟨fun q_ hq => absurd hq List.not_mem_nil, fun q_ hq => absurd hq List.not_mem_nil, fun q_ hq => absurd hq List.not_mem_nil, fun n_ hn => yg_lo hn, fun q_ hq => absurd hq List.not_mem_nil⟩
  have Hs : ysh xgoUA_A.1 (yg xgoUA_s) h_ := ysh_of2 hs (fun q_ hq => absurd hq List.not_mem_nil)
  have Ho : ymem (xgoUA_r v4_ v5 v8 v303 v306) (yg xgoUA_s) xgoUA_O h_ := List.forall_mem_cons.mpr ⟨bpat_some o0_, List.forall_mem_cons.mpr ⟨bpat_some o1, fun q_ hq => absurd hq List.not_mem_nil⟩⟩
  have HC : ∀ q_ ∈ xgoUA_C, xhold (xgoUA_r v4_ v5 v8 v303 v306) q_ := fun q_ hq => absurd hq List.not_mem_nil
  rcases yrun (yis_ok xgoUA_k) hA Hs Ho HC with ⟨q_, hq, h', K_, G_⟩ | ⟨q_, hq, h', K_, G_⟩
  · have e_ := List.mem_singleton.mp hq
    subst e_
    exact ⟨h', yfr_sm K_.2.2.2 hs K_.1 (ywa_s xgoUA_w List.mem_cons_self), ⟨bpat_of (K_.2.1 _ List.mem_cons_self), fun a_ j_ n0_ => yfr_bp K_.2.2.2 (List.forall_mem_cons.mpr ⟨fun e_ => n0_ ⟨e_.1.symm, e_.2.symm⟩, fun q_ hq => absurd hq List.not_mem_nil⟩), G_⟩⟩
  · cases hq
-- xgoV0A: 20 steps, 1 ends, 0 returns
def xgoV0A_L : List (Nat × Nat × Nat) := []
def xgoV0A_O : yO := [(305, .int 3, .arg 303), (305, .int 7, .arg 307), (305, .int 2, .arg 302)]
def xgoV0A_A : yA := (yZ xgoV0A_L, [], [], [], [])
def xgoV0A_C : List xB := [(.lt, .arg 8, .arg 302, true), (.lt, .arg 303, .arg 307, true)]
def xgoV0A_ss : List yS := [(128, [(7, .int 0), (6, .int 0), (5, .arg 5), (0, .index 305), (1, .index 1), (2, .index 314), (3, .index 316), (4, .arg 4)], [], [(305, .int 6, .arg 8), (305, .int 3, .arg 303), (305, .int 7, .arg 307), (305, .int 2, .arg 302)], [(.lt, .arg 8, .arg 302, true), (.lt, .arg 303, .arg 307, true)], [(305, .int 6)])]
def xgoV0A_rs : List yR := []
theorem xgoV0A_w : ywa xgoV0A_A xgoV0A_ss xgoV0A_rs = true := by decide +kernel
theorem xgoV0A_k : yis (yev xgoV0A_A 3000 60 2 [128, 3] (50, [(5, .arg 5), (0, .index 305), (1, .index 1), (2, .index 314), (3, .index 316), (4, .arg 4)], [.arg 8, .index 305], xgoV0A_O, xgoV0A_C, [])) xgoV0A_ss xgoV0A_rs = true := by decide +kernel
def xgoV0A_r (v4_ v5 v8 v302 v303 v307 : Int32) (k_ : Nat) : Value := bif Nat.beq k_ 4 then .int v4_ else (bif Nat.beq k_ 5 then .int v5 else (bif Nat.beq k_ 8 then .int v8 else (bif Nat.beq k_ 302 then .int v302 else (bif Nat.beq k_ 303 then .int v303 else (bif Nat.beq k_ 307 then .int v307 else (.int 0))))))
def xgoV0A_s (n_ : Nat) : Nat := 0
theorem xgoV0A {h_ : xH} {v4_ v5 v8 v302 v303 v307 : Int32} (hs : sHp h_) (o0_ : bpat h_ 305 3 = some (.int v303)) (o1 : bpat h_ 305 7 = some (.int v307)) (o2 : bpat h_ 305 2 = some (.int v302)) (c0_ : v8.toInt < v302.toInt) (c1_ : v303.toInt < v307.toInt) : ∃ h', ysm h_ h' ∧ (((bpat h' 305 6 = some (.int v8)) ∧ (∀ a_ j_ : Nat, ¬ (a_ = 305 ∧ j_ = 6) → bpat h' a_ j_ = bpat h_ a_ j_) ∧ (bldD 60 2 50 [(5, .int v5), (0, .index 305), (1, .index 1), (2, .index 314), (3, .index 316), (4, .int v4_)] [.int v8, .index 305] h_ 128 [(7, .int (0 : Int32)), (6, .int (0 : Int32)), (5, .int v5), (0, .index 305), (1, .index 1), (2, .index 314), (3, .index 316), (4, .int v4_)] [] h'))) := by
  have hA : yas xgoV0A_A (xgoV0A_r v4_ v5 v8 v302 v303 v307) (yg xgoV0A_s) := ⟨fun q_ hq => absurd hq List.not_mem_nil, fun q_ hq => absurd hq List.not_mem_nil, fun q_ hq => absurd hq List.not_mem_nil, fun n_ hn => yg_lo hn, fun q_ hq => absurd hq List.not_mem_nil⟩
  have Hs : ysh xgoV0A_A.1 (yg xgoV0A_s) h_ := ysh_of2 hs (fun q_ hq => absurd hq List.not_mem_nil)
  have Ho : ymem (xgoV0A_r v4_ v5 v8 v302 v303 v307) (yg xgoV0A_s) xgoV0A_O h_ := List.forall_mem_cons.mpr ⟨bpat_some o0_, List.forall_mem_cons.mpr ⟨bpat_some o1, List.forall_mem_cons.mpr ⟨bpat_some o2, fun q_ hq => absurd hq List.not_mem_nil⟩⟩⟩
  have HC : ∀ q_ ∈ xgoV0A_C, xhold (xgoV0A_r v4_ v5 v8 v302 v303 v307) q_ := List.forall_mem_cons.mpr ⟨xh_ltT c0_, List.forall_mem_cons.mpr ⟨xh_ltT c1_, fun q_ hq => absurd hq List.not_mem_nil⟩⟩
  rcases yrun (yis_ok xgoV0A_k) hA Hs Ho HC with ⟨q_, hq, h', K_, G_⟩ | ⟨q_, hq, h', K_, G_⟩
  · have e_ := List.mem_singleton.mp hq
    subst e_
    exact ⟨h', yfr_sm K_.2.2.2 hs K_.1 (ywa_s xgoV0A_w List.mem_cons_self), ⟨bpat_of (K_.2.1 _ List.mem_cons_self), fun a_ j_ n0_ => yfr_bp K_.2.2.2 (List.forall_mem_cons.mpr ⟨fun e_ => n0_ ⟨e_.1.symm, e_.2.symm⟩, fun q_ hq => absurd hq List.not_mem_nil⟩), G_⟩⟩
  · cases hq
-- xgoV1A: 27 steps, 1 ends, 0 returns
def xgoV1A_L : List (Nat × Nat × Nat) := []
def xgoV1A_O : yO := [(305, .int 3, .arg 303), (305, .int 7, .arg 307), (305, .int 2, .arg 302), (305, .int 5, .arg 305)]
def xgoV1A_A : yA := (yZ xgoV1A_L, [], [], [], [])
def xgoV1A_C : List xB := [(.lt, .arg 305, .int 0, true), (.lt, .arg 8, .arg 302, false), (.lt, .arg 303, .arg 307, true)]
def xgoV1A_ss : List yS := [(128, [(7, .int 1), (6, .int 0), (5, .arg 5), (0, .index 305), (1, .index 1), (2, .index 314), (3, .index 316), (4, .arg 4)], [], [(305, .int 5, .arg 5), (305, .int 6, .arg 8), (305, .int 3, .arg 303), (305, .int 7, .arg 307), (305, .int 2, .arg 302)], [(.lt, .arg 305, .int 0, true), (.lt, .arg 8, .arg 302, false), (.lt, .arg 303, .arg 307, true)], [(305, .int 5), (305, .int 6)])]
def xgoV1A_rs : List yR := []
theorem xgoV1A_w : ywa xgoV1A_A xgoV1A_ss xgoV1A_rs = true := by decide +kernel
theorem xgoV1A_k : yis (yev xgoV1A_A 3000 60 2 [128, 3] (50, [(5, .arg 5), (0, .index 305), (1, .index 1), (2, .index 314), (3, .index 316), (4, .arg 4)], [.arg 8, .index 305], xgoV1A_O, xgoV1A_C, [])) xgoV1A_ss xgoV1A_rs = true := by decide +kernel
def xgoV1A_r (v4_ v5 v8 v302 v303 v305 v307 : Int32) (k_ : Nat) : Value := bif Nat.beq k_ 4 then .int v4_ else (bif Nat.beq k_ 5 then .int v5 else (bif Nat.beq k_ 8 then .int v8 else (bif Nat.beq k_ 302 then .int v302 else (bif Nat.beq k_ 303 then .int v303 else (bif Nat.beq k_ 305 then .int v305 else (bif Nat.beq k_ 307 then .int v307 else (.int 0)))))))
def xgoV1A_s (n_ : Nat) : Nat := 0
theorem xgoV1A {h_ : xH} {v4_ v5 v8 v302 v303 v305 v307 : Int32} (hs : sHp h_) (o0_ : bpat h_ 305 3 = some (.int v303)) (o1 : bpat h_ 305 7 = some (.int v307)) (o2 : bpat h_ 305 2 = some (.int v302)) (o3_ : bpat h_ 305 5 = some (.int v305)) (c0_ : v305.toInt < (0 : Int32).toInt) (c1_ : v302.toInt ≤ v8.toInt) (c2_ : v303.toInt < v307.toInt) : ∃ h', ysm h_ h' ∧ (((bpat h' 305 5 = some (.int v5)) ∧ (bpat h' 305 6 = some (.int v8)) ∧ (∀ a_ j_ : Nat, ¬ (a_ = 305 ∧ j_ = 5) → ¬ (a_ = 305 ∧ j_ = 6) → bpat h' a_ j_ = bpat h_ a_ j_) ∧ (bldD 60 2 50 [(5, .int v5), (0, .index 305), (1, .index 1), (2, .index 314), (3, .index 316), (4, .int v4_)] [.int v8, .index 305] h_ 128 [(7, .int (1 : Int32)), (6, .int (0 : Int32)), (5, .int v5), (0, .index 305), (1, .index 1), (2, .index 314), (3, .index 316), (4, .int v4_)] [] h'))) := by
  have hA : yas xgoV1A_A (xgoV1A_r v4_ v5 v8 v302 v303 v305 v307) (yg xgoV1A_s) := ⟨fun q_ hq => absurd hq List.not_mem_nil, fun q_ hq => absurd hq List.not_mem_nil, fun q_ hq => absurd hq List.not_mem_nil, fun n_ hn => yg_lo hn, fun q_ hq => absurd hq List.not_mem_nil⟩
  have Hs : ysh xgoV1A_A.1 (yg xgoV1A_s) h_ := ysh_of2 hs (fun q_ hq => absurd hq List.not_mem_nil)
  have Ho : ymem (xgoV1A_r v4_ v5 v8 v302 v303 v305 v307) (yg xgoV1A_s) xgoV1A_O h_ := List.forall_mem_cons.mpr ⟨bpat_some o0_, List.forall_mem_cons.mpr ⟨bpat_some o1, List.forall_mem_cons.mpr ⟨bpat_some o2, List.forall_mem_cons.mpr ⟨bpat_some o3_, fun q_ hq => absurd hq List.not_mem_nil⟩⟩⟩⟩
  have HC : ∀ q_ ∈ xgoV1A_C, xhold (xgoV1A_r v4_ v5 v8 v302 v303 v305 v307) q_ := List.forall_mem_cons.mpr ⟨xh_ltT c0_, List.forall_mem_cons.mpr ⟨xh_ltF c1_, List.forall_mem_cons.mpr ⟨xh_ltT c2_, fun q_ hq => absurd hq List.not_mem_nil⟩⟩⟩
  rcases yrun (yis_ok xgoV1A_k) hA Hs Ho HC with ⟨q_, hq, h', K_, G_⟩ | ⟨q_, hq, h', K_, G_⟩
  · have e_ := List.mem_singleton.mp hq
    subst e_
    exact ⟨h', yfr_sm K_.2.2.2 hs K_.1 (ywa_s xgoV1A_w List.mem_cons_self), ⟨bpat_of (K_.2.1 _ List.mem_cons_self), bpat_of (K_.2.1 _ (List.mem_cons_of_mem _ List.mem_cons_self)), fun a_ j_ n0_ n1_ => yfr_bp K_.2.2.2 (List.forall_mem_cons.mpr ⟨fun e_ => n0_ ⟨e_.1.symm, e_.2.symm⟩, List.forall_mem_cons.mpr ⟨fun e_ => n1_ ⟨e_.1.symm, e_.2.symm⟩, fun q_ hq => absurd hq List.not_mem_nil⟩⟩), G_⟩⟩
  · cases hq
-- xgoV2A: 24 steps, 1 ends, 0 returns
def xgoV2A_L : List (Nat × Nat × Nat) := []
def xgoV2A_O : yO := [(305, .int 3, .arg 303), (305, .int 7, .arg 307), (305, .int 2, .arg 302), (305, .int 5, .arg 305)]
def xgoV2A_A : yA := (yZ xgoV2A_L, [], [], [], [])
def xgoV2A_C : List xB := [(.lt, .arg 305, .int 0, false), (.lt, .arg 8, .arg 302, false), (.lt, .arg 303, .arg 307, true)]
def xgoV2A_ss : List yS := [(128, [(7, .int 1), (6, .int 0), (5, .arg 5), (0, .index 305), (1, .index 1), (2, .index 314), (3, .index 316), (4, .arg 4)], [], [(305, .int 6, .arg 8), (305, .int 3, .arg 303), (305, .int 7, .arg 307), (305, .int 2, .arg 302), (305, .int 5, .arg 305)], [(.lt, .arg 305, .int 0, false), (.lt, .arg 8, .arg 302, false), (.lt, .arg 303, .arg 307, true)], [(305, .int 6)])]
def xgoV2A_rs : List yR := []
theorem xgoV2A_w : ywa xgoV2A_A xgoV2A_ss xgoV2A_rs = true := by decide +kernel
theorem xgoV2A_k : yis (yev xgoV2A_A 3000 60 2 [128, 3] (50, [(5, .arg 5), (0, .index 305), (1, .index 1), (2, .index 314), (3, .index 316), (4, .arg 4)], [.arg 8, .index 305], xgoV2A_O, xgoV2A_C, [])) xgoV2A_ss xgoV2A_rs = true := by decide +kernel
def xgoV2A_r (v4_ v5 v8 v302 v303 v305 v307 : Int32) (k_ : Nat) : Value := bif Nat.beq k_ 4 then .int v4_ else (bif Nat.beq k_ 5 then .int v5 else (bif Nat.beq k_ 8 then .int v8 else (bif Nat.beq k_ 302 then .int v302 else (bif Nat.beq k_ 303 then .int v303 else (bif Nat.beq k_ 305 then .int v305 else (bif Nat.beq k_ 307 then .int v307 else (.int 0)))))))
def xgoV2A_s (n_ : Nat) : Nat := 0
theorem xgoV2A {h_ : xH} {v4_ v5 v8 v302 v303 v305 v307 : Int32} (hs : sHp h_) (o0_ : bpat h_ 305 3 = some (.int v303)) (o1 : bpat h_ 305 7 = some (.int v307)) (o2 : bpat h_ 305 2 = some (.int v302)) (o3_ : bpat h_ 305 5 = some (.int v305)) (c0_ : (0 : Int32).toInt ≤ v305.toInt) (c1_ : v302.toInt ≤ v8.toInt) (c2_ : v303.toInt < v307.toInt) : ∃ h', ysm h_ h' ∧ (((bpat h' 305 6 = some (.int v8)) ∧ (∀ a_ j_ : Nat, ¬ (a_ = 305 ∧ j_ = 6) → bpat h' a_ j_ = bpat h_ a_ j_) ∧ (bldD 60 2 50 [(5, .int v5), (0, .index 305), (1, .index 1), (2, .index 314), (3, .index 316), (4, .int v4_)] [.int v8, .index 305] h_ 128 [(7, .int (1 : Int32)), (6, .int (0 : Int32)), (5, .int v5), (0, .index 305), (1, .index 1), (2, .index 314), (3, .index 316), (4, .int v4_)] [] h'))) := by
  have hA : yas xgoV2A_A (xgoV2A_r v4_ v5 v8 v302 v303 v305 v307) (yg xgoV2A_s) := ⟨fun q_ hq => absurd hq List.not_mem_nil, fun q_ hq => absurd hq List.not_mem_nil, fun q_ hq => absurd hq List.not_mem_nil, fun n_ hn => yg_lo hn, fun q_ hq => absurd hq List.not_mem_nil⟩
  have Hs : ysh xgoV2A_A.1 (yg xgoV2A_s) h_ := ysh_of2 hs (fun q_ hq => absurd hq List.not_mem_nil)
  have Ho : ymem (xgoV2A_r v4_ v5 v8 v302 v303 v305 v307) (yg xgoV2A_s) xgoV2A_O h_ := List.forall_mem_cons.mpr ⟨bpat_some o0_, List.forall_mem_cons.mpr ⟨bpat_some o1, List.forall_mem_cons.mpr ⟨bpat_some o2, List.forall_mem_cons.mpr ⟨bpat_some o3_, fun q_ hq => absurd hq List.not_mem_nil⟩⟩⟩⟩
  have HC : ∀ q_ ∈ xgoV2A_C, xhold (xgoV2A_r v4_ v5 v8 v302 v303 v305 v307) q_ := List.forall_mem_cons.mpr ⟨xh_ltF c0_, List.forall_mem_cons.mpr ⟨xh_ltF c1_, List.forall_mem_cons.mpr ⟨xh_ltT c2_, fun q_ hq => absurd hq List.not_mem_nil⟩⟩⟩
  rcases yrun (yis_ok xgoV2A_k) hA Hs Ho HC with ⟨q_, hq, h', K_, G_⟩ | ⟨q_, hq, h', K_, G_⟩
  · have e_ := List.mem_singleton.mp hq
    subst e_
    exact ⟨h', yfr_sm K_.2.2.2 hs K_.1 (ywa_s xgoV2A_w List.mem_cons_self), ⟨bpat_of (K_.2.1 _ List.mem_cons_self), fun a_ j_ n0_ => yfr_bp K_.2.2.2 (List.forall_mem_cons.mpr ⟨fun e_ => n0_ ⟨e_.1.symm, e_.2.symm⟩, fun q_ hq => absurd hq List.not_mem_nil⟩), G_⟩⟩
  · cases hq
-- xgoV3A: 29 steps, 1 ends, 0 returns
def xgoV3A_L : List (Nat × Nat × Nat) := []
def xgoV3A_O : yO := [(305, .int 3, .arg 303), (305, .int 7, .arg 307), (305, .int 2, .arg 302), (305, .int 5, .arg 305)]
def xgoV3A_A : yA := (yZ xgoV3A_L, [], [], [], [])
def xgoV3A_C : List xB := [(.lt, .arg 305, .int 0, true), (.lt, .arg 8, .arg 302, true), (.lt, .arg 303, .arg 307, false)]
def xgoV3A_ss : List yS := [(128, [(7, .int 0), (6, .int 1), (5, .arg 5), (0, .index 305), (1, .index 1), (2, .index 314), (3, .index 316), (4, .arg 4)], [], [(305, .int 5, .arg 5), (305, .int 6, .arg 8), (305, .int 3, .arg 303), (305, .int 7, .arg 307), (305, .int 2, .arg 302)], [(.lt, .arg 305, .int 0, true), (.lt, .arg 8, .arg 302, true), (.lt, .arg 303, .arg 307, false)], [(305, .int 5), (305, .int 6)])]
def xgoV3A_rs : List yR := []
theorem xgoV3A_w : ywa xgoV3A_A xgoV3A_ss xgoV3A_rs = true := by decide +kernel
theorem xgoV3A_k : yis (yev xgoV3A_A 3000 60 2 [128, 3] (50, [(5, .arg 5), (0, .index 305), (1, .index 1), (2, .index 314), (3, .index 316), (4, .arg 4)], [.arg 8, .index 305], xgoV3A_O, xgoV3A_C, [])) xgoV3A_ss xgoV3A_rs = true := by decide +kernel
def xgoV3A_r (v4_ v5 v8 v302 v303 v305 v307 : Int32) (k_ : Nat) : Value := bif Nat.beq k_ 4 then .int v4_ else (bif Nat.beq k_ 5 then .int v5 else (bif Nat.beq k_ 8 then .int v8 else (bif Nat.beq k_ 302 then .int v302 else (bif Nat.beq k_ 303 then .int v303 else (bif Nat.beq k_ 305 then .int v305 else (bif Nat.beq k_ 307 then .int v307 else (.int 0)))))))
def xgoV3A_s (n_ : Nat) : Nat := 0
theorem xgoV3A {h_ : xH} {v4_ v5 v8 v302 v303 v305 v307 : Int32} (hs : sHp h_) (o0_ : bpat h_ 305 3 = some (.int v303)) (o1 : bpat h_ 305 7 = some (.int v307)) (o2 : bpat h_ 305 2 = some (.int v302)) (o3_ : bpat h_ 305 5 = some (.int v305)) (c0_ : v305.toInt < (0 : Int32).toInt) (c1_ : v8.toInt < v302.toInt) (c2_ : v307.toInt ≤ v303.toInt) : ∃ h', ysm h_ h' ∧ (((bpat h' 305 5 = some (.int v5)) ∧ (bpat h' 305 6 = some (.int v8)) ∧ (∀ a_ j_ : Nat, ¬ (a_ = 305 ∧ j_ = 5) → ¬ (a_ = 305 ∧ j_ = 6) → bpat h' a_ j_ = bpat h_ a_ j_) ∧ (bldD 60 2 50 [(5, .int v5), (0, .index 305), (1, .index 1), (2, .index 314), (3, .index 316), (4, .int v4_)] [.int v8, .index 305] h_ 128 [(7, .int (0 : Int32)), (6, .int (1 : Int32)), (5, .int v5), (0, .index 305), (1, .index 1), (2, .index 314), (3, .index 316), (4, .int v4_)] [] h'))) := by
  have hA : yas xgoV3A_A (xgoV3A_r v4_ v5 v8 v302 v303 v305 v307) (yg xgoV3A_s) := ⟨fun q_ hq => absurd hq List.not_mem_nil, fun q_ hq => absurd hq List.not_mem_nil, fun q_ hq => absurd hq List.not_mem_nil, fun n_ hn => yg_lo hn, fun q_ hq => absurd hq List.not_mem_nil⟩
  have Hs : ysh xgoV3A_A.1 (yg xgoV3A_s) h_ := ysh_of2 hs (fun q_ hq => absurd hq List.not_mem_nil)
  have Ho : ymem (xgoV3A_r v4_ v5 v8 v302 v303 v305 v307) (yg xgoV3A_s) xgoV3A_O h_ := List.forall_mem_cons.mpr ⟨bpat_some o0_, List.forall_mem_cons.mpr ⟨bpat_some o1, List.forall_mem_cons.mpr ⟨bpat_some o2, List.forall_mem_cons.mpr ⟨bpat_some o3_, fun q_ hq => absurd hq List.not_mem_nil⟩⟩⟩⟩
  have HC : ∀ q_ ∈ xgoV3A_C, xhold (xgoV3A_r v4_ v5 v8 v302 v303 v305 v307) q_ := List.forall_mem_cons.mpr ⟨xh_ltT c0_, List.forall_mem_cons.mpr ⟨xh_ltT c1_, List.forall_mem_cons.mpr ⟨xh_ltF c2_, fun q_ hq => absurd hq List.not_mem_nil⟩⟩⟩
  rcases yrun (yis_ok xgoV3A_k) hA Hs Ho HC with ⟨q_, hq, h', K_, G_⟩ | ⟨q_, hq, h', K_, G_⟩
  · have e_ := List.mem_singleton.mp hq
    subst e_
    exact ⟨h', yfr_sm K_.2.2.2 hs K_.1 (ywa_s xgoV3A_w List.mem_cons_self), ⟨bpat_of (K_.2.1 _ List.mem_cons_self), bpat_of (K_.2.1 _ (List.mem_cons_of_mem _ List.mem_cons_self)), fun a_ j_ n0_ n1_ => yfr_bp K_.2.2.2 (List.forall_mem_cons.mpr ⟨fun e_ => n0_ ⟨e_.1.symm, e_.2.symm⟩, List.forall_mem_cons.mpr ⟨fun e_ => n1_ ⟨e_.1.symm, e_.2.symm⟩, fun q_ hq => absurd hq List.not_mem_nil⟩⟩), G_⟩⟩
  · cases hq
-- xgoV4A: 26 steps, 1 ends, 0 returns
def xgoV4A_L : List (Nat × Nat × Nat) := []
def xgoV4A_O : yO := [(305, .int 3, .arg 303), (305, .int 7, .arg 307), (305, .int 2, .arg 302), (305, .int 5, .arg 305)]
def xgoV4A_A : yA := (yZ xgoV4A_L, [], [], [], [])
def xgoV4A_C : List xB := [(.lt, .arg 305, .int 0, false), (.lt, .arg 8, .arg 302, true), (.lt, .arg 303, .arg 307, false)]
def xgoV4A_ss : List yS := [(128, [(7, .int 0), (6, .int 1), (5, .arg 5), (0, .index 305), (1, .index 1), (2, .index 314), (3, .index 316), (4, .arg 4)], [], [(305, .int 6, .arg 8), (305, .int 3, .arg 303), (305, .int 7, .arg 307), (305, .int 2, .arg 302), (305, .int 5, .arg 305)], [(.lt, .arg 305, .int 0, false), (.lt, .arg 8, .arg 302, true), (.lt, .arg 303, .arg 307, false)], [(305, .int 6)])]
def xgoV4A_rs : List yR := []
theorem xgoV4A_w : ywa xgoV4A_A xgoV4A_ss xgoV4A_rs = true := by decide +kernel
theorem xgoV4A_k : yis (yev xgoV4A_A 3000 60 2 [128, 3] (50, [(5, .arg 5), (0, .index 305), (1, .index 1), (2, .index 314), (3, .index 316), (4, .arg 4)], [.arg 8, .index 305], xgoV4A_O, xgoV4A_C, [])) xgoV4A_ss xgoV4A_rs = true := by decide +kernel
def xgoV4A_r (v4_ v5 v8 v302 v303 v305 v307 : Int32) (k_ : Nat) : Value := bif Nat.beq k_ 4 then .int v4_ else (bif Nat.beq k_ 5 then .int v5 else (bif Nat.beq k_ 8 then .int v8 else (bif Nat.beq k_ 302 then .int v302 else (bif Nat.beq k_ 303 then .int v303 else (bif Nat.beq k_ 305 then .int v305 else (bif Nat.beq k_ 307 then .int v307 else (.int 0)))))))
def xgoV4A_s (n_ : Nat) : Nat := 0
theorem xgoV4A {h_ : xH} {v4_ v5 v8 v302 v303 v305 v307 : Int32} (hs : sHp h_) (o0_ : bpat h_ 305 3 = some (.int v303)) (o1 : bpat h_ 305 7 = some (.int v307)) (o2 : bpat h_ 305 2 = some (.int v302)) (o3_ : bpat h_ 305 5 = some (.int v305)) (c0_ : (0 : Int32).toInt ≤ v305.toInt) (c1_ : v8.toInt < v302.toInt) (c2_ : v307.toInt ≤ v303.toInt) : ∃ h', ysm h_ h' ∧ (((bpat h' 305 6 = some (.int v8)) ∧ (∀ a_ j_ : Nat, ¬ (a_ = 305 ∧ j_ = 6) → bpat h' a_ j_ = bpat h_ a_ j_) ∧ (bldD 60 2 50 [(5, .int v5), (0, .index 305), (1, .index 1), (2, .index 314), (3, .index 316), (4, .int v4_)] [.int v8, .index 305] h_ 128 [(7, .int (0 : Int32)), (6, .int (1 : Int32)), (5, .int v5), (0, .index 305), (1, .index 1), (2, .index 314), (3, .index 316), (4, .int v4_)] [] h'))) := by
  have hA : yas xgoV4A_A (xgoV4A_r v4_ v5 v8 v302 v303 v305 v307) (yg xgoV4A_s) := ⟨fun q_ hq => absurd hq List.not_mem_nil, fun q_ hq => absurd hq List.not_mem_nil, fun q_ hq => absurd hq List.not_mem_nil, fun n_ hn => yg_lo hn, fun q_ hq => absurd hq List.not_mem_nil⟩
  have Hs : ysh xgoV4A_A.1 (yg xgoV4A_s) h_ := ysh_of2 hs (fun q_ hq => absurd hq List.not_mem_nil)
  have Ho : ymem (xgoV4A_r v4_ v5 v8 v302 v303 v305 v307) (yg xgoV4A_s) xgoV4A_O h_ := List.forall_mem_cons.mpr ⟨bpat_some o0_, List.forall_mem_cons.mpr ⟨bpat_some o1, List.forall_mem_cons.mpr ⟨bpat_some o2, List.forall_mem_cons.mpr ⟨bpat_some o3_, fun q_ hq => absurd hq List.not_mem_nil⟩⟩⟩⟩
  have HC : ∀ q_ ∈ xgoV4A_C, xhold (xgoV4A_r v4_ v5 v8 v302 v303 v305 v307) q_ := List.forall_mem_cons.mpr ⟨xh_ltF c0_, List.forall_mem_cons.mpr ⟨xh_ltT c1_, List.forall_mem_cons.mpr ⟨xh_ltF c2_, fun q_ hq => absurd hq List.not_mem_nil⟩⟩⟩
  rcases yrun (yis_ok xgoV4A_k) hA Hs Ho HC with ⟨q_, hq, h', K_, G_⟩ | ⟨q_, hq, h', K_, G_⟩
  · have e_ := List.mem_singleton.mp hq
    subst e_
    exact ⟨h', yfr_sm K_.2.2.2 hs K_.1 (ywa_s xgoV4A_w List.mem_cons_self), ⟨bpat_of (K_.2.1 _ List.mem_cons_self), fun a_ j_ n0_ => yfr_bp K_.2.2.2 (List.forall_mem_cons.mpr ⟨fun e_ => n0_ ⟨e_.1.symm, e_.2.symm⟩, fun q_ hq => absurd hq List.not_mem_nil⟩), G_⟩⟩
  · cases hq
-- xgoV5A: 30 steps, 1 ends, 0 returns
def xgoV5A_L : List (Nat × Nat × Nat) := []
def xgoV5A_O : yO := [(305, .int 3, .arg 303), (305, .int 7, .arg 307), (305, .int 2, .arg 302)]
def xgoV5A_A : yA := (yZ xgoV5A_L, [], [], [], [])
def xgoV5A_C : List xB := [(.lt, .arg 8, .arg 302, false), (.lt, .arg 303, .arg 307, false)]
def xgoV5A_ss : List yS := [(3, [(5, .add (.arg 5) (.int 1)), (7, .int 1), (6, .int 1), (0, .index 305), (1, .index 1), (2, .index 314), (3, .index 316), (4, .arg 4)], [], [(305, .int 4, .arg 5), (305, .int 6, .arg 8), (305, .int 3, .arg 303), (305, .int 7, .arg 307), (305, .int 2, .arg 302)], [(.lt, .arg 8, .arg 302, false), (.lt, .arg 303, .arg 307, false)], [(305, .int 4), (305, .int 6)])]
def xgoV5A_rs : List yR := []
theorem xgoV5A_w : ywa xgoV5A_A xgoV5A_ss xgoV5A_rs = true := by decide +kernel
theorem xgoV5A_k : yis (yev xgoV5A_A 3000 60 2 [128, 3] (50, [(5, .arg 5), (0, .index 305), (1, .index 1), (2, .index 314), (3, .index 316), (4, .arg 4)], [.arg 8, .index 305], xgoV5A_O, xgoV5A_C, [])) xgoV5A_ss xgoV5A_rs = true := by decide +kernel
def xgoV5A_r (v4_ v5 v8 v302 v303 v307 : Int32) (k_ : Nat) : Value := bif Nat.beq k_ 4 then .int v4_ else (bif Nat.beq k_ 5 then .int v5 else (bif Nat.beq k_ 8 then .int v8 else (bif Nat.beq k_ 302 then .int v302 else (bif Nat.beq k_ 303 then .int v303 else (bif Nat.beq k_ 307 then .int v307 else (.int 0))))))
def xgoV5A_s (n_ : Nat) : Nat := 0
theorem xgoV5A {h_ : xH} {v4_ v5 v8 v302 v303 v307 : Int32} (hs : sHp h_) (o0_ : bpat h_ 305 3 = some (.int v303)) (o1 : bpat h_ 305 7 = some (.int v307)) (o2 : bpat h_ 305 2 = some (.int v302)) (c0_ : v302.toInt ≤ v8.toInt) (c1_ : v307.toInt ≤ v303.toInt) : ∃ h', ysm h_ h' ∧ (((bpat h' 305 4 = some (.int v5)) ∧ (bpat h' 305 6 = some (.int v8)) ∧ (∀ a_ j_ : Nat, ¬ (a_ = 305 ∧ j_ = 4) → ¬ (a_ = 305 ∧ j_ = 6) → bpat h' a_ j_ = bpat h_ a_ j_) ∧ (bldD 60 2 50 [(5, .int v5), (0, .index 305), (1, .index 1), (2, .index 314), (3, .index 316), (4, .int v4_)] [.int v8, .index 305] h_ 3 [(5, .int (v5 + (1 : Int32))), (7, .int (1 : Int32)), (6, .int (1 : Int32)), (0, .index 305), (1, .index 1), (2, .index 314), (3, .index 316), (4, .int v4_)] [] h'))) := by
  have hA : yas xgoV5A_A (xgoV5A_r v4_ v5 v8 v302 v303 v307) (yg xgoV5A_s) := ⟨fun q_ hq => absurd hq List.not_mem_nil, fun q_ hq => absurd hq List.not_mem_nil, fun q_ hq => absurd hq List.not_mem_nil, fun n_ hn => yg_lo hn, fun q_ hq => absurd hq List.not_mem_nil⟩
  have Hs : ysh xgoV5A_A.1 (yg xgoV5A_s) h_ := ysh_of2 hs (fun q_ hq => absurd hq List.not_mem_nil)
  have Ho : ymem (xgoV5A_r v4_ v5 v8 v302 v303 v307) (yg xgoV5A_s) xgoV5A_O h_ := List.forall_mem_cons.mpr ⟨bpat_some o0_, List.forall_mem_cons.mpr ⟨bpat_some o1, List.forall_mem_cons.mpr ⟨bpat_some o2, fun q_ hq => absurd hq List.not_mem_nil⟩⟩⟩
  have HC : ∀ q_ ∈ xgoV5A_C, xhold (xgoV5A_r v4_ v5 v8 v302 v303 v307) q_ := List.forall_mem_cons.mpr ⟨xh_ltF c0_, List.forall_mem_cons.mpr ⟨xh_ltF c1_, fun q_ hq => absurd hq List.not_mem_nil⟩⟩
  rcases yrun (yis_ok xgoV5A_k) hA Hs Ho HC with ⟨q_, hq, h', K_, G_⟩ | ⟨q_, hq, h', K_, G_⟩
  · have e_ := List.mem_singleton.mp hq
    subst e_
    exact ⟨h', yfr_sm K_.2.2.2 hs K_.1 (ywa_s xgoV5A_w List.mem_cons_self), ⟨bpat_of (K_.2.1 _ List.mem_cons_self), bpat_of (K_.2.1 _ (List.mem_cons_of_mem _ List.mem_cons_self)), fun a_ j_ n0_ n1_ => yfr_bp K_.2.2.2 (List.forall_mem_cons.mpr ⟨fun e_ => n0_ ⟨e_.1.symm, e_.2.symm⟩, List.forall_mem_cons.mpr ⟨fun e_ => n1_ ⟨e_.1.symm, e_.2.symm⟩, fun q_ hq => absurd hq List.not_mem_nil⟩⟩), G_⟩⟩
  · cases hq
-- xgoTB: 14 steps, 1 ends, 0 returns
def xgoTB_L : List (Nat × Nat × Nat) := []
def xgoTB_O : yO := [(305, .int 4, .arg 304), (305, .int 2, .arg 302), (305, .int 7, .arg 307)]
def xgoTB_A : yA := (yZ xgoTB_L, [], [], [], [])
def xgoTB_C : List xB := [(.lt, .arg 304, .int 0, true), (.lt, .arg 5, .arg 4, true)]
def xgoTB_ss : List yS := [(29, [(5, .arg 5), (7, .arg 7), (6, .arg 6), (0, .index 305), (1, .index 1), (2, .index 314), (3, .index 316), (4, .arg 4)], [.arg 307, .index 314, .arg 302, .index 1, .index 305, .index 305], [(305, .int 4, .arg 304), (305, .int 2, .arg 302), (305, .int 7, .arg 307)], [(.lt, .arg 304, .int 0, true), (.lt, .arg 5, .arg 4, true)], [])]
def xgoTB_rs : List yR := []
theorem xgoTB_w : ywa xgoTB_A xgoTB_ss xgoTB_rs = true := by decide +kernel
theorem xgoTB_k : yis (yev xgoTB_A 3000 60 2 [29] (3, [(5, .arg 5), (7, .arg 7), (6, .arg 6), (0, .index 305), (1, .index 1), (2, .index 314), (3, .index 316), (4, .arg 4)], [], xgoTB_O, xgoTB_C, [])) xgoTB_ss xgoTB_rs = true := by decide +kernel
def xgoTB_r (v4_ v5 v6 v7 v302 v304 v307 : Int32) (k_ : Nat) : Value := bif Nat.beq k_ 4 then .int v4_ else (bif Nat.beq k_ 5 then .int v5 else (bif Nat.beq k_ 6 then .int v6 else (bif Nat.beq k_ 7 then .int v7 else (bif Nat.beq k_ 302 then .int v302 else (bif Nat.beq k_ 304 then .int v304 else (bif Nat.beq k_ 307 then .int v307 else (.int 0)))))))
def xgoTB_s (n_ : Nat) : Nat := 0
theorem xgoTB {h_ : xH} {v4_ v5 v6 v7 v302 v304 v307 : Int32} (hs : sHp h_) (o0_ : bpat h_ 305 4 = some (.int v304)) (o1 : bpat h_ 305 2 = some (.int v302)) (o2 : bpat h_ 305 7 = some (.int v307)) (c0_ : v304.toInt < (0 : Int32).toInt) (c1_ : v5.toInt < v4_.toInt) : ∃ h', ysm h_ h' ∧ (((∀ a_ j_ : Nat, bpat h' a_ j_ = bpat h_ a_ j_) ∧ (bldD 60 2 3 [(5, .int v5), (7, .int v7), (6, .int v6), (0, .index 305), (1, .index 1), (2, .index 314), (3, .index 316), (4, .int v4_)] [] h_ 29 [(5, .int v5), (7, .int v7), (6, .int v6), (0, .index 305), (1, .index 1), (2, .index 314), (3, .index 316), (4, .int v4_)] [.int v307, .index 314, .int v302, .index 1, .index 305, .index 305] h'))) := by
  have hA : yas xgoTB_A (xgoTB_r v4_ v5 v6 v7 v302 v304 v307) (yg xgoTB_s) := ⟨fun q_ hq => absurd hq List.not_mem_nil, fun q_ hq => absurd hq List.not_mem_nil, fun q_ hq => absurd hq List.not_mem_nil, fun n_ hn => yg_lo hn, fun q_ hq => absurd hq List.not_mem_nil⟩
  have Hs : ysh xgoTB_A.1 (yg xgoTB_s) h_ := ysh_of2 hs (fun q_ hq => absurd hq List.not_mem_nil)
  have Ho : ymem (xgoTB_r v4_ v5 v6 v7 v302 v304 v307) (yg xgoTB_s) xgoTB_O h_ := List.forall_mem_cons.mpr ⟨bpat_some o0_, List.forall_mem_cons.mpr ⟨bpat_some o1, List.forall_mem_cons.mpr ⟨bpat_some o2, fun q_ hq => absurd hq List.not_mem_nil⟩⟩⟩
  have HC : ∀ q_ ∈ xgoTB_C, xhold (xgoTB_r v4_ v5 v6 v7 v302 v304 v307) q_ := List.forall_mem_cons.mpr ⟨xh_ltT c0_, List.forall_mem_cons.mpr ⟨xh_ltT c1_, fun q_ hq => absurd hq List.not_mem_nil⟩⟩
  rcases yrun (yis_ok xgoTB_k) hA Hs Ho HC with ⟨q_, hq, h', K_, G_⟩ | ⟨q_, hq, h', K_, G_⟩
  · have e_ := List.mem_singleton.mp hq
    subst e_
    exact ⟨h', yfr_sm K_.2.2.2 hs K_.1 (ywa_s xgoTB_w List.mem_cons_self), ⟨fun a_ j_ => yfr_bp K_.2.2.2 (fun q_ hq => absurd hq List.not_mem_nil), G_⟩⟩
  · cases hq
-- xgoXB: 4 steps, 0 ends, 1 returns
def xgoXB_L : List (Nat × Nat × Nat) := []
def xgoXB_O : yO := []
def xgoXB_A : yA := (yZ xgoXB_L, [], [], [], [])
def xgoXB_C : List xB := [(.lt, .arg 5, .arg 4, false)]
def xgoXB_ss : List yS := []
def xgoXB_rs : List yR := [(none, [], [(.lt, .arg 5, .arg 4, false)], [])]
theorem xgoXB_w : ywa xgoXB_A xgoXB_ss xgoXB_rs = true := by decide +kernel
theorem xgoXB_k : yis (yev xgoXB_A 3000 60 2 [] (3, [(5, .arg 5), (7, .arg 7), (6, .arg 6), (0, .index 305), (1, .index 1), (2, .index 314), (3, .index 316), (4, .arg 4)], [], xgoXB_O, xgoXB_C, [])) xgoXB_ss xgoXB_rs = true := by decide +kernel
def xgoXB_r (v4_ v5 v6 v7 : Int32) (k_ : Nat) : Value := bif Nat.beq k_ 4 then .int v4_ else (bif Nat.beq k_ 5 then .int v5 else (bif Nat.beq k_ 6 then .int v6 else (bif Nat.beq k_ 7 then .int v7 else (.int 0))))
def xgoXB_s (n_ : Nat) : Nat := 0
theorem xgoXB {h_ : xH} {v4_ v5 v6 v7 : Int32} (hs : sHp h_) (c0_ : v4_.toInt ≤ v5.toInt) : ∃ h', ysm h_ h' ∧ (((∀ a_ j_ : Nat, bpat h' a_ j_ = bpat h_ a_ j_) ∧ (∀ D_, 60 ≤ D_ → xrun D_ 2 3 [(5, .int v5), (7, .int v7), (6, .int v6), (0, .index 305), (1, .index 1), (2, .index 314), (3, .index 316), (4, .int v4_)] [] h_ (none, h', [])))) := by
  have hA : yas xgoXB_A (xgoXB_r v4_ v5 v6 v7) (yg xgoXB_s) := ⟨fun q_ hq => absurd hq List.not_mem_nil, fun q_ hq => absurd hq List.not_mem_nil, fun q_ hq => absurd hq List.not_mem_nil, fun n_ hn => yg_lo hn, fun q_ hq => absurd hq List.not_mem_nil⟩
  have Hs : ysh xgoXB_A.1 (yg xgoXB_s) h_ := ysh_of2 hs (fun q_ hq => absurd hq List.not_mem_nil)
  have Ho : ymem (xgoXB_r v4_ v5 v6 v7) (yg xgoXB_s) xgoXB_O h_ := fun q_ hq => absurd hq List.not_mem_nil
  have HC : ∀ q_ ∈ xgoXB_C, xhold (xgoXB_r v4_ v5 v6 v7) q_ := List.forall_mem_cons.mpr ⟨xh_ltF c0_, fun q_ hq => absurd hq List.not_mem_nil⟩
  rcases yrun (yis_ok xgoXB_k) hA Hs Ho HC with ⟨q_, hq, h', K_, G_⟩ | ⟨q_, hq, h', K_, G_⟩
  · cases hq
  · have e_ := List.mem_singleton.mp hq
    subst e_
    exact ⟨h', yfr_sm K_.2.2.2 hs K_.1 (ywa_r xgoXB_w List.mem_cons_self), ⟨fun a_ j_ => yfr_bp K_.2.2.2 (fun q_ hq => absurd hq List.not_mem_nil), G_⟩⟩
-- xgoUB: 9 steps, 1 ends, 0 returns
def xgoUB_L : List (Nat × Nat × Nat) := []
def xgoUB_O : yO := [(305, .int 3, .arg 303), (305, .int 6, .arg 306)]
def xgoUB_A : yA := (yZ xgoUB_L, [], [], [], [])
def xgoUB_C : List xB := []
def xgoUB_ss : List yS := [(47, [(5, .arg 5), (7, .arg 7), (6, .arg 6), (0, .index 305), (1, .index 1), (2, .index 314), (3, .index 316), (4, .arg 4)], [.arg 306, .index 316, .arg 303, .index 1, .index 305, .index 305], [(305, .int 7, .arg 8), (305, .int 3, .arg 303), (305, .int 6, .arg 306)], [], [(305, .int 7)])]
def xgoUB_rs : List yR := []
theorem xgoUB_w : ywa xgoUB_A xgoUB_ss xgoUB_rs = true := by decide +kernel
theorem xgoUB_k : yis (yev xgoUB_A 3000 60 2 [47] (32, [(5, .arg 5), (7, .arg 7), (6, .arg 6), (0, .index 305), (1, .index 1), (2, .index 314), (3, .index 316), (4, .arg 4)], [.arg 8, .index 305], xgoUB_O, xgoUB_C, [])) xgoUB_ss xgoUB_rs = true := by decide +kernel
def xgoUB_r (v4_ v5 v6 v7 v8 v303 v306 : Int32) (k_ : Nat) : Value := bif Nat.beq k_ 4 then .int v4_ else (bif Nat.beq k_ 5 then .int v5 else (bif Nat.beq k_ 6 then .int v6 else (bif Nat.beq k_ 7 then .int v7 else (bif Nat.beq k_ 8 then .int v8 else (bif Nat.beq k_ 303 then .int v303 else (bif Nat.beq k_ 306 then .int v306 else (.int 0)))))))
def xgoUB_s (n_ : Nat) : Nat := 0
theorem xgoUB {h_ : xH} {v4_ v5 v6 v7 v8 v303 v306 : Int32} (hs : sHp h_) (o0_ : bpat h_ 305 3 = some (.int v303)) (o1 : bpat h_ 305 6 = some (.int v306)) : ∃ h', ysm h_ h' ∧ (((bpat h' 305 7 = some (.int v8)) ∧ (∀ a_ j_ : Nat, ¬ (a_ = 305 ∧ j_ = 7) → bpat h' a_ j_ = bpat h_ a_ j_) ∧ (bldD 60 2 32 [(5, .int v5), (7, .int v7), (6, .int v6), (0, .index 305), (1, .index 1), (2, .index 314), (3, .index 316), (4, .int v4_)] [.int v8, .index 305] h_ 47 [(5, .int v5), (7, .int v7), (6, .int v6), (0, .index 305), (1, .index 1), (2, .index 314), (3, .index 316), (4, .int v4_)] [.int v306, .index 316, .int v303, .index 1, .index 305, .index 305] h'))) := by
  have hA : yas xgoUB_A (xgoUB_r v4_ v5 v6 v7 v8 v303 v306) (yg xgoUB_s) := ⟨fun q_ hq => absurd hq List.not_mem_nil, fun q_ hq => absurd hq List.not_mem_nil, fun q_ hq => absurd hq List.not_mem_nil, fun n_ hn => yg_lo hn, fun q_ hq => absurd hq List.not_mem_nil⟩
  have Hs : ysh xgoUB_A.1 (yg xgoUB_s) h_ := ysh_of2 hs (fun q_ hq => absurd hq List.not_mem_nil)
  have Ho : ymem (xgoUB_r v4_ v5 v6 v7 v8 v303 v306) (yg xgoUB_s) xgoUB_O h_ := List.forall_mem_cons.mpr ⟨bpat_some o0_, List.forall_mem_cons.mpr ⟨bpat_some o1, fun q_ hq => absurd hq List.not_mem_nil⟩⟩
  have HC : ∀ q_ ∈ xgoUB_C, xhold (xgoUB_r v4_ v5 v6 v7 v8 v303 v306) q_ := fun q_ hq => absurd hq List.not_mem_nil
  rcases yrun (yis_ok xgoUB_k) hA Hs Ho HC with ⟨q_, hq, h', K_, G_⟩ | ⟨q_, hq, h', K_, G_⟩
  · have e_ := List.mem_singleton.mp hq
    subst e_
    exact ⟨h', yfr_sm K_.2.2.2 hs K_.1 (ywa_s xgoUB_w List.mem_cons_self), ⟨bpat_of (K_.2.1 _ List.mem_cons_self), fun a_ j_ n0_ => yfr_bp K_.2.2.2 (List.forall_mem_cons.mpr ⟨fun e_ => n0_ ⟨e_.1.symm, e_.2.symm⟩, fun q_ hq => absurd hq List.not_mem_nil⟩), G_⟩⟩
  · cases hq
-- xgoV0B: 20 steps, 1 ends, 0 returns
def xgoV0B_L : List (Nat × Nat × Nat) := []
def xgoV0B_O : yO := [(305, .int 3, .arg 303), (305, .int 7, .arg 307), (305, .int 2, .arg 302)]
def xgoV0B_A : yA := (yZ xgoV0B_L, [], [], [], [])
def xgoV0B_C : List xB := [(.lt, .arg 8, .arg 302, true), (.lt, .arg 303, .arg 307, true)]
def xgoV0B_ss : List yS := [(128, [(7, .int 0), (6, .int 0), (5, .arg 5), (0, .index 305), (1, .index 1), (2, .index 314), (3, .index 316), (4, .arg 4)], [], [(305, .int 6, .arg 8), (305, .int 3, .arg 303), (305, .int 7, .arg 307), (305, .int 2, .arg 302)], [(.lt, .arg 8, .arg 302, true), (.lt, .arg 303, .arg 307, true)], [(305, .int 6)])]
def xgoV0B_rs : List yR := []
theorem xgoV0B_w : ywa xgoV0B_A xgoV0B_ss xgoV0B_rs = true := by decide +kernel
theorem xgoV0B_k : yis (yev xgoV0B_A 3000 60 2 [128, 3] (50, [(5, .arg 5), (7, .arg 7), (6, .arg 6), (0, .index 305), (1, .index 1), (2, .index 314), (3, .index 316), (4, .arg 4)], [.arg 8, .index 305], xgoV0B_O, xgoV0B_C, [])) xgoV0B_ss xgoV0B_rs = true := by decide +kernel
def xgoV0B_r (v4_ v5 v6 v7 v8 v302 v303 v307 : Int32) (k_ : Nat) : Value := bif Nat.beq k_ 4 then .int v4_ else (bif Nat.beq k_ 5 then .int v5 else (bif Nat.beq k_ 6 then .int v6 else (bif Nat.beq k_ 7 then .int v7 else (bif Nat.beq k_ 8 then .int v8 else (bif Nat.beq k_ 302 then .int v302 else (bif Nat.beq k_ 303 then .int v303 else (bif Nat.beq k_ 307 then .int v307 else (.int 0))))))))
def xgoV0B_s (n_ : Nat) : Nat := 0
theorem xgoV0B {h_ : xH} {v4_ v5 v6 v7 v8 v302 v303 v307 : Int32} (hs : sHp h_) (o0_ : bpat h_ 305 3 = some (.int v303)) (o1 : bpat h_ 305 7 = some (.int v307)) (o2 : bpat h_ 305 2 = some (.int v302)) (c0_ : v8.toInt < v302.toInt) (c1_ : v303.toInt < v307.toInt) : ∃ h', ysm h_ h' ∧ (((bpat h' 305 6 = some (.int v8)) ∧ (∀ a_ j_ : Nat, ¬ (a_ = 305 ∧ j_ = 6) → bpat h' a_ j_ = bpat h_ a_ j_) ∧ (bldD 60 2 50 [(5, .int v5), (7, .int v7), (6, .int v6), (0, .index 305), (1, .index 1), (2, .index 314), (3, .index 316), (4, .int v4_)] [.int v8, .index 305] h_ 128 [(7, .int (0 : Int32)), (6, .int (0 : Int32)), (5, .int v5), (0, .index 305), (1, .index 1), (2, .index 314), (3, .index 316), (4, .int v4_)] [] h'))) := by
  have hA : yas xgoV0B_A (xgoV0B_r v4_ v5 v6 v7 v8 v302 v303 v307) (yg xgoV0B_s) := ⟨fun q_ hq => absurd hq List.not_mem_nil, fun q_ hq => absurd hq List.not_mem_nil, fun q_ hq => absurd hq List.not_mem_nil, fun n_ hn => yg_lo hn, fun q_ hq => absurd hq List.not_mem_nil⟩
  have Hs : ysh xgoV0B_A.1 (yg xgoV0B_s) h_ := ysh_of2 hs (fun q_ hq => absurd hq List.not_mem_nil)
  have Ho : ymem (xgoV0B_r v4_ v5 v6 v7 v8 v302 v303 v307) (yg xgoV0B_s) xgoV0B_O h_ := List.forall_mem_cons.mpr ⟨bpat_some o0_, List.forall_mem_cons.mpr ⟨bpat_some o1, List.forall_mem_cons.mpr ⟨bpat_some o2, fun q_ hq => absurd hq List.not_mem_nil⟩⟩⟩
  have HC : ∀ q_ ∈ xgoV0B_C, xhold (xgoV0B_r v4_ v5 v6 v7 v8 v302 v303 v307) q_ := List.forall_mem_cons.mpr ⟨xh_ltT c0_, List.forall_mem_cons.mpr ⟨xh_ltT c1_, fun q_ hq => absurd hq List.not_mem_nil⟩⟩
  rcases yrun (yis_ok xgoV0B_k) hA Hs Ho HC with ⟨q_, hq, h', K_, G_⟩ | ⟨q_, hq, h', K_, G_⟩
  · have e_ := List.mem_singleton.mp hq
    subst e_
    exact ⟨h', yfr_sm K_.2.2.2 hs K_.1 (ywa_s xgoV0B_w List.mem_cons_self), ⟨bpat_of (K_.2.1 _ List.mem_cons_self), fun a_ j_ n0_ => yfr_bp K_.2.2.2 (List.forall_mem_cons.mpr ⟨fun e_ => n0_ ⟨e_.1.symm, e_.2.symm⟩, fun q_ hq => absurd hq List.not_mem_nil⟩), G_⟩⟩
  · cases hq
-- xgoV1B: 27 steps, 1 ends, 0 returns
def xgoV1B_L : List (Nat × Nat × Nat) := []
def xgoV1B_O : yO := [(305, .int 3, .arg 303), (305, .int 7, .arg 307), (305, .int 2, .arg 302), (305, .int 5, .arg 305)]
def xgoV1B_A : yA := (yZ xgoV1B_L, [], [], [], [])
def xgoV1B_C : List xB := [(.lt, .arg 305, .int 0, true), (.lt, .arg 8, .arg 302, false), (.lt, .arg 303, .arg 307, true)]
def xgoV1B_ss : List yS := [(128, [(7, .int 1), (6, .int 0), (5, .arg 5), (0, .index 305), (1, .index 1), (2, .index 314), (3, .index 316), (4, .arg 4)], [], [(305, .int 5, .arg 5), (305, .int 6, .arg 8), (305, .int 3, .arg 303), (305, .int 7, .arg 307), (305, .int 2, .arg 302)], [(.lt, .arg 305, .int 0, true), (.lt, .arg 8, .arg 302, false), (.lt, .arg 303, .arg 307, true)], [(305, .int 5), (305, .int 6)])]
def xgoV1B_rs : List yR := []
theorem xgoV1B_w : ywa xgoV1B_A xgoV1B_ss xgoV1B_rs = true := by decide +kernel
theorem xgoV1B_k : yis (yev xgoV1B_A 3000 60 2 [128, 3] (50, [(5, .arg 5), (7, .arg 7), (6, .arg 6), (0, .index 305), (1, .index 1), (2, .index 314), (3, .index 316), (4, .arg 4)], [.arg 8, .index 305], xgoV1B_O, xgoV1B_C, [])) xgoV1B_ss xgoV1B_rs = true := by decide +kernel
def xgoV1B_r (v4_ v5 v6 v7 v8 v302 v303 v305 v307 : Int32) (k_ : Nat) : Value := bif Nat.beq k_ 4 then .int v4_ else (bif Nat.beq k_ 5 then .int v5 else (bif Nat.beq k_ 6 then .int v6 else (bif Nat.beq k_ 7 then .int v7 else (bif Nat.beq k_ 8 then .int v8 else (bif Nat.beq k_ 302 then .int v302 else (bif Nat.beq k_ 303 then .int v303 else (bif Nat.beq k_ 305 then .int v305 else (bif Nat.beq k_ 307 then .int v307 else (.int 0)))))))))
def xgoV1B_s (n_ : Nat) : Nat := 0
theorem xgoV1B {h_ : xH} {v4_ v5 v6 v7 v8 v302 v303 v305 v307 : Int32} (hs : sHp h_) (o0_ : bpat h_ 305 3 = some (.int v303)) (o1 : bpat h_ 305 7 = some (.int v307)) (o2 : bpat h_ 305 2 = some (.int v302)) (o3_ : bpat h_ 305 5 = some (.int v305)) (c0_ : v305.toInt < (0 : Int32).toInt) (c1_ : v302.toInt ≤ v8.toInt) (c2_ : v303.toInt < v307.toInt) : ∃ h', ysm h_ h' ∧ (((bpat h' 305 5 = some (.int v5)) ∧ (bpat h' 305 6 = some (.int v8)) ∧ (∀ a_ j_ : Nat, ¬ (a_ = 305 ∧ j_ = 5) → ¬ (a_ = 305 ∧ j_ = 6) → bpat h' a_ j_ = bpat h_ a_ j_) ∧ (bldD 60 2 50 [(5, .int v5), (7, .int v7), (6, .int v6), (0, .index 305), (1, .index 1), (2, .index 314), (3, .index 316), (4, .int v4_)] [.int v8, .index 305] h_ 128 [(7, .int (1 : Int32)), (6, .int (0 : Int32)), (5, .int v5), (0, .index 305), (1, .index 1), (2, .index 314), (3, .index 316), (4, .int v4_)] [] h'))) := by
  have hA : yas xgoV1B_A (xgoV1B_r v4_ v5 v6 v7 v8 v302 v303 v305 v307) (yg xgoV1B_s) := ⟨fun q_ hq => absurd hq List.not_mem_nil, fun q_ hq => absurd hq List.not_mem_nil, fun q_ hq => absurd hq List.not_mem_nil, fun n_ hn => yg_lo hn, fun q_ hq => absurd hq List.not_mem_nil⟩
  have Hs : ysh xgoV1B_A.1 (yg xgoV1B_s) h_ := ysh_of2 hs (fun q_ hq => absurd hq List.not_mem_nil)
  have Ho : ymem (xgoV1B_r v4_ v5 v6 v7 v8 v302 v303 v305 v307) (yg xgoV1B_s) xgoV1B_O h_ := List.forall_mem_cons.mpr ⟨bpat_some o0_, List.forall_mem_cons.mpr ⟨bpat_some o1, List.forall_mem_cons.mpr ⟨bpat_some o2, List.forall_mem_cons.mpr ⟨bpat_some o3_, fun q_ hq => absurd hq List.not_mem_nil⟩⟩⟩⟩
  have HC : ∀ q_ ∈ xgoV1B_C, xhold (xgoV1B_r v4_ v5 v6 v7 v8 v302 v303 v305 v307) q_ := List.forall_mem_cons.mpr ⟨xh_ltT c0_, List.forall_mem_cons.mpr ⟨xh_ltF c1_, List.forall_mem_cons.mpr ⟨xh_ltT c2_, fun q_ hq => absurd hq List.not_mem_nil⟩⟩⟩
  rcases yrun (yis_ok xgoV1B_k) hA Hs Ho HC with ⟨q_, hq, h', K_, G_⟩ | ⟨q_, hq, h', K_, G_⟩
  · have e_ := List.mem_singleton.mp hq
    subst e_
    exact ⟨h', yfr_sm K_.2.2.2 hs K_.1 (ywa_s xgoV1B_w List.mem_cons_self), ⟨bpat_of (K_.2.1 _ List.mem_cons_self), bpat_of (K_.2.1 _ (List.mem_cons_of_mem _ List.mem_cons_self)), fun a_ j_ n0_ n1_ => yfr_bp K_.2.2.2 (List.forall_mem_cons.mpr ⟨fun e_ => n0_ ⟨e_.1.symm, e_.2.symm⟩, List.forall_mem_cons.mpr ⟨fun e_ => n1_ ⟨e_.1.symm, e_.2.symm⟩, fun q_ hq => absurd hq List.not_mem_nil⟩⟩), G_⟩⟩
  · cases hq
-- xgoV2B: 24 steps, 1 ends, 0 returns
def xgoV2B_L : List (Nat × Nat × Nat) := []
def xgoV2B_O : yO := [(305, .int 3, .arg 303), (305, .int 7, .arg 307), (305, .int 2, .arg 302), (305, .int 5, .arg 305)]
def xgoV2B_A : yA := (yZ xgoV2B_L, [], [], [], [])
def xgoV2B_C : List xB := [(.lt, .arg 305, .int 0, false), (.lt, .arg 8, .arg 302, false), (.lt, .arg 303, .arg 307, true)]
def xgoV2B_ss : List yS := [(128, [(7, .int 1), (6, .int 0), (5, .arg 5), (0, .index 305), (1, .index 1), (2, .index 314), (3, .index 316), (4, .arg 4)], [], [(305, .int 6, .arg 8), (305, .int 3, .arg 303), (305, .int 7, .arg 307), (305, .int 2, .arg 302), (305, .int 5, .arg 305)], [(.lt, .arg 305, .int 0, false), (.lt, .arg 8, .arg 302, false), (.lt, .arg 303, .arg 307, true)], [(305, .int 6)])]
def xgoV2B_rs : List yR := []
theorem xgoV2B_w : ywa xgoV2B_A xgoV2B_ss xgoV2B_rs = true := by decide +kernel
theorem xgoV2B_k : yis (yev xgoV2B_A 3000 60 2 [128, 3] (50, [(5, .arg 5), (7, .arg 7), (6, .arg 6), (0, .index 305), (1, .index 1), (2, .index 314), (3, .index 316), (4, .arg 4)], [.arg 8, .index 305], xgoV2B_O, xgoV2B_C, [])) xgoV2B_ss xgoV2B_rs = true := by decide +kernel
def xgoV2B_r (v4_ v5 v6 v7 v8 v302 v303 v305 v307 : Int32) (k_ : Nat) : Value := bif Nat.beq k_ 4 then .int v4_ else (bif Nat.beq k_ 5 then .int v5 else (bif Nat.beq k_ 6 then .int v6 else (bif Nat.beq k_ 7 then .int v7 else (bif Nat.beq k_ 8 then .int v8 else (bif Nat.beq k_ 302 then .int v302 else (bif Nat.beq k_ 303 then .int v303 else (bif Nat.beq k_ 305 then .int v305 else (bif Nat.beq k_ 307 then .int v307 else (.int 0)))))))))
def xgoV2B_s (n_ : Nat) : Nat := 0
theorem xgoV2B {h_ : xH} {v4_ v5 v6 v7 v8 v302 v303 v305 v307 : Int32} (hs : sHp h_) (o0_ : bpat h_ 305 3 = some (.int v303)) (o1 : bpat h_ 305 7 = some (.int v307)) (o2 : bpat h_ 305 2 = some (.int v302)) (o3_ : bpat h_ 305 5 = some (.int v305)) (c0_ : (0 : Int32).toInt ≤ v305.toInt) (c1_ : v302.toInt ≤ v8.toInt) (c2_ : v303.toInt < v307.toInt) : ∃ h', ysm h_ h' ∧ (((bpat h' 305 6 = some (.int v8)) ∧ (∀ a_ j_ : Nat, ¬ (a_ = 305 ∧ j_ = 6) → bpat h' a_ j_ = bpat h_ a_ j_) ∧ (bldD 60 2 50 [(5, .int v5), (7, .int v7), (6, .int v6), (0, .index 305), (1, .index 1), (2, .index 314), (3, .index 316), (4, .int v4_)] [.int v8, .index 305] h_ 128 [(7, .int (1 : Int32)), (6, .int (0 : Int32)), (5, .int v5), (0, .index 305), (1, .index 1), (2, .index 314), (3, .index 316), (4, .int v4_)] [] h'))) := by
  have hA : yas xgoV2B_A (xgoV2B_r v4_ v5 v6 v7 v8 v302 v303 v305 v307) (yg xgoV2B_s) := ⟨fun q_ hq => absurd hq List.not_mem_nil, fun q_ hq => absurd hq List.not_mem_nil, fun q_ hq => absurd hq List.not_mem_nil, fun n_ hn => yg_lo hn, fun q_ hq => absurd hq List.not_mem_nil⟩
  have Hs : ysh xgoV2B_A.1 (yg xgoV2B_s) h_ := ysh_of2 hs (fun q_ hq => absurd hq List.not_mem_nil)
  have Ho : ymem (xgoV2B_r v4_ v5 v6 v7 v8 v302 v303 v305 v307) (yg xgoV2B_s) xgoV2B_O h_ := List.forall_mem_cons.mpr ⟨bpat_some o0_, List.forall_mem_cons.mpr ⟨bpat_some o1, List.forall_mem_cons.mpr ⟨bpat_some o2, List.forall_mem_cons.mpr ⟨bpat_some o3_, fun q_ hq => absurd hq List.not_mem_nil⟩⟩⟩⟩
  have HC : ∀ q_ ∈ xgoV2B_C, xhold (xgoV2B_r v4_ v5 v6 v7 v8 v302 v303 v305 v307) q_ := List.forall_mem_cons.mpr ⟨xh_ltF c0_, List.forall_mem_cons.mpr ⟨xh_ltF c1_, List.forall_mem_cons.mpr ⟨xh_ltT c2_, fun q_ hq => absurd hq List.not_mem_nil⟩⟩⟩
  rcases yrun (yis_ok xgoV2B_k) hA Hs Ho HC with ⟨q_, hq, h', K_, G_⟩ | ⟨q_, hq, h', K_, G_⟩
  · have e_ := List.mem_singleton.mp hq
    subst e_
    exact ⟨h', yfr_sm K_.2.2.2 hs K_.1 (ywa_s xgoV2B_w List.mem_cons_self), ⟨bpat_of (K_.2.1 _ List.mem_cons_self), fun a_ j_ n0_ => yfr_bp K_.2.2.2 (List.forall_mem_cons.mpr ⟨fun e_ => n0_ ⟨e_.1.symm, e_.2.symm⟩, fun q_ hq => absurd hq List.not_mem_nil⟩), G_⟩⟩
  · cases hq
-- xgoV3B: 29 steps, 1 ends, 0 returns
def xgoV3B_L : List (Nat × Nat × Nat) := []
def xgoV3B_O : yO := [(305, .int 3, .arg 303), (305, .int 7, .arg 307), (305, .int 2, .arg 302), (305, .int 5, .arg 305)]
def xgoV3B_A : yA := (yZ xgoV3B_L, [], [], [], [])
def xgoV3B_C : List xB := [(.lt, .arg 305, .int 0, true), (.lt, .arg 8, .arg 302, true), (.lt, .arg 303, .arg 307, false)]
def xgoV3B_ss : List yS := [(128, [(7, .int 0), (6, .int 1), (5, .arg 5), (0, .index 305), (1, .index 1), (2, .index 314), (3, .index 316), (4, .arg 4)], [], [(305, .int 5, .arg 5), (305, .int 6, .arg 8), (305, .int 3, .arg 303), (305, .int 7, .arg 307), (305, .int 2, .arg 302)], [(.lt, .arg 305, .int 0, true), (.lt, .arg 8, .arg 302, true), (.lt, .arg 303, .arg 307, false)], [(305, .int 5), (305, .int 6)])]
def xgoV3B_rs : List yR := []
theorem xgoV3B_w : ywa xgoV3B_A xgoV3B_ss xgoV3B_rs = true := by decide +kernel
theorem xgoV3B_k : yis (yev xgoV3B_A 3000 60 2 [128, 3] (50, [(5, .arg 5), (7, .arg 7), (6, .arg 6), (0, .index 305), (1, .index 1), (2, .index 314), (3, .index 316), (4, .arg 4)], [.arg 8, .index 305], xgoV3B_O, xgoV3B_C, [])) xgoV3B_ss xgoV3B_rs = true := by decide +kernel
def xgoV3B_r (v4_ v5 v6 v7 v8 v302 v303 v305 v307 : Int32) (k_ : Nat) : Value := bif Nat.beq k_ 4 then .int v4_ else (bif Nat.beq k_ 5 then .int v5 else (bif Nat.beq k_ 6 then .int v6 else (bif Nat.beq k_ 7 then .int v7 else (bif Nat.beq k_ 8 then .int v8 else (bif Nat.beq k_ 302 then .int v302 else (bif Nat.beq k_ 303 then .int v303 else (bif Nat.beq k_ 305 then .int v305 else (bif Nat.beq k_ 307 then .int v307 else (.int 0)))))))))
def xgoV3B_s (n_ : Nat) : Nat := 0
theorem xgoV3B {h_ : xH} {v4_ v5 v6 v7 v8 v302 v303 v305 v307 : Int32} (hs : sHp h_) (o0_ : bpat h_ 305 3 = some (.int v303)) (o1 : bpat h_ 305 7 = some (.int v307)) (o2 : bpat h_ 305 2 = some (.int v302)) (o3_ : bpat h_ 305 5 = some (.int v305)) (c0_ : v305.toInt < (0 : Int32).toInt) (c1_ : v8.toInt < v302.toInt) (c2_ : v307.toInt ≤ v303.toInt) : ∃ h', ysm h_ h' ∧ (((bpat h' 305 5 = some (.int v5)) ∧ (bpat h' 305 6 = some (.int v8)) ∧ (∀ a_ j_ : Nat, ¬ (a_ = 305 ∧ j_ = 5) → ¬ (a_ = 305 ∧ j_ = 6) → bpat h' a_ j_ = bpat h_ a_ j_) ∧ (bldD 60 2 50 [(5, .int v5), (7, .int v7), (6, .int v6), (0, .index 305), (1, .index 1), (2, .index 314), (3, .index 316), (4, .int v4_)] [.int v8, .index 305] h_ 128 [(7, .int (0 : Int32)), (6, .int (1 : Int32)), (5, .int v5), (0, .index 305), (1, .index 1), (2, .index 314), (3, .index 316), (4, .int v4_)] [] h'))) := by
  have hA : yas xgoV3B_A (xgoV3B_r v4_ v5 v6 v7 v8 v302 v303 v305 v307) (yg xgoV3B_s) := ⟨fun q_ hq => absurd hq List.not_mem_nil, fun q_ hq => absurd hq List.not_mem_nil, fun q_ hq => absurd hq List.not_mem_nil, fun n_ hn => yg_lo hn, fun q_ hq => absurd hq List.not_mem_nil⟩
  have Hs : ysh xgoV3B_A.1 (yg xgoV3B_s) h_ := ysh_of2 hs (fun q_ hq => absurd hq List.not_mem_nil)
  have Ho : ymem (xgoV3B_r v4_ v5 v6 v7 v8 v302 v303 v305 v307) (yg xgoV3B_s) xgoV3B_O h_ := List.forall_mem_cons.mpr ⟨bpat_some o0_, List.forall_mem_cons.mpr ⟨bpat_some o1, List.forall_mem_cons.mpr ⟨bpat_some o2, List.forall_mem_cons.mpr ⟨bpat_some o3_, fun q_ hq => absurd hq List.not_mem_nil⟩⟩⟩⟩
  have HC : ∀ q_ ∈ xgoV3B_C, xhold (xgoV3B_r v4_ v5 v6 v7 v8 v302 v303 v305 v307) q_ := List.forall_mem_cons.mpr ⟨xh_ltT c0_, List.forall_mem_cons.mpr ⟨xh_ltT c1_, List.forall_mem_cons.mpr ⟨xh_ltF c2_, fun q_ hq => absurd hq List.not_mem_nil⟩⟩⟩
  rcases yrun (yis_ok xgoV3B_k) hA Hs Ho HC with ⟨q_, hq, h', K_, G_⟩ | ⟨q_, hq, h', K_, G_⟩
  · have e_ := List.mem_singleton.mp hq
    subst e_
    exact ⟨h', yfr_sm K_.2.2.2 hs K_.1 (ywa_s xgoV3B_w List.mem_cons_self), ⟨bpat_of (K_.2.1 _ List.mem_cons_self), bpat_of (K_.2.1 _ (List.mem_cons_of_mem _ List.mem_cons_self)), fun a_ j_ n0_ n1_ => yfr_bp K_.2.2.2 (List.forall_mem_cons.mpr ⟨fun e_ => n0_ ⟨e_.1.symm, e_.2.symm⟩, List.forall_mem_cons.mpr ⟨fun e_ => n1_ ⟨e_.1.symm, e_.2.symm⟩, fun q_ hq => absurd hq List.not_mem_nil⟩⟩), G_⟩⟩
  · cases hq
-- xgoV4B: 26 steps, 1 ends, 0 returns
def xgoV4B_L : List (Nat × Nat × Nat) := []
def xgoV4B_O : yO := [(305, .int 3, .arg 303), (305, .int 7, .arg 307), (305, .int 2, .arg 302), (305, .int 5, .arg 305)]
def xgoV4B_A : yA := (yZ xgoV4B_L, [], [], [], [])
def xgoV4B_C : List xB := [(.lt, .arg 305, .int 0, false), (.lt, .arg 8, .arg 302, true), (.lt, .arg 303, .arg 307, false)]
def xgoV4B_ss : List yS := [(128, [(7, .int 0), (6, .int 1), (5, .arg 5), (0, .index 305), (1, .index 1), (2, .index 314), (3, .index 316), (4, .arg 4)], [], [(305, .int 6, .arg 8), (305, .int 3, .arg 303), (305, .int 7, .arg 307), (305, .int 2, .arg 302), (305, .int 5, .arg 305)], [(.lt, .arg 305, .int 0, false), (.lt, .arg 8, .arg 302, true), (.lt, .arg 303, .arg 307, false)], [(305, .int 6)])]
def xgoV4B_rs : List yR := []
theorem xgoV4B_w : ywa xgoV4B_A xgoV4B_ss xgoV4B_rs = true := by decide +kernel
theorem xgoV4B_k : yis (yev xgoV4B_A 3000 60 2 [128, 3] (50, [(5, .arg 5), (7, .arg 7), (6, .arg 6), (0, .index 305), (1, .index 1), (2, .index 314), (3, .index 316), (4, .arg 4)], [.arg 8, .index 305], xgoV4B_O, xgoV4B_C, [])) xgoV4B_ss xgoV4B_rs = true := by decide +kernel
def xgoV4B_r (v4_ v5 v6 v7 v8 v302 v303 v305 v307 : Int32) (k_ : Nat) : Value := bif Nat.beq k_ 4 then .int v4_ else (bif Nat.beq k_ 5 then .int v5 else (bif Nat.beq k_ 6 then .int v6 else (bif Nat.beq k_ 7 then .int v7 else (bif Nat.beq k_ 8 then .int v8 else (bif Nat.beq k_ 302 then .int v302 else (bif Nat.beq k_ 303 then .int v303 else (bif Nat.beq k_ 305 then .int v305 else (bif Nat.beq k_ 307 then .int v307 else (.int 0)))))))))
def xgoV4B_s (n_ : Nat) : Nat := 0
theorem xgoV4B {h_ : xH} {v4_ v5 v6 v7 v8 v302 v303 v305 v307 : Int32} (hs : sHp h_) (o0_ : bpat h_ 305 3 = some (.int v303)) (o1 : bpat h_ 305 7 = some (.int v307)) (o2 : bpat h_ 305 2 = some (.int v302)) (o3_ : bpat h_ 305 5 = some (.int v305)) (c0_ : (0 : Int32).toInt ≤ v305.toInt) (c1_ : v8.toInt < v302.toInt) (c2_ : v307.toInt ≤ v303.toInt) : ∃ h', ysm h_ h' ∧ (((bpat h' 305 6 = some (.int v8)) ∧ (∀ a_ j_ : Nat, ¬ (a_ = 305 ∧ j_ = 6) → bpat h' a_ j_ = bpat h_ a_ j_) ∧ (bldD 60 2 50 [(5, .int v5), (7, .int v7), (6, .int v6), (0, .index 305), (1, .index 1), (2, .index 314), (3, .index 316), (4, .int v4_)] [.int v8, .index 305] h_ 128 [(7, .int (0 : Int32)), (6, .int (1 : Int32)), (5, .int v5), (0, .index 305), (1, .index 1), (2, .index 314), (3, .index 316), (4, .int v4_)] [] h'))) := by
  have hA : yas xgoV4B_A (xgoV4B_r v4_ v5 v6 v7 v8 v302 v303 v305 v307) (yg xgoV4B_s) := ⟨fun q_ hq => absurd hq List.not_mem_nil, fun q_ hq => absurd hq List.not_mem_nil, fun q_ hq => absurd hq List.not_mem_nil, fun n_ hn => yg_lo hn, fun q_ hq => absurd hq List.not_mem_nil⟩
  have Hs : ysh xgoV4B_A.1 (yg xgoV4B_s) h_ := ysh_of2 hs (fun q_ hq => absurd hq List.not_mem_nil)
  have Ho : ymem (xgoV4B_r v4_ v5 v6 v7 v8 v302 v303 v305 v307) (yg xgoV4B_s) xgoV4B_O h_ := List.forall_mem_cons.mpr ⟨bpat_some o0_, List.forall_mem_cons.mpr ⟨bpat_some o1, List.forall_mem_cons.mpr ⟨bpat_some o2, List.forall_mem_cons.mpr ⟨bpat_some o3_, fun q_ hq => absurd hq List.not_mem_nil⟩⟩⟩⟩
  have HC : ∀ q_ ∈ xgoV4B_C, xhold (xgoV4B_r v4_ v5 v6 v7 v8 v302 v303 v305 v307) q_ := List.forall_mem_cons.mpr ⟨xh_ltF c0_, List.forall_mem_cons.mpr ⟨xh_ltT c1_, List.forall_mem_cons.mpr ⟨xh_ltF c2_, fun q_ hq => absurd hq List.not_mem_nil⟩⟩⟩
  rcases yrun (yis_ok xgoV4B_k) hA Hs Ho HC with ⟨q_, hq, h', K_, G_⟩ | ⟨q_, hq, h', K_, G_⟩
  · have e_ := List.mem_singleton.mp hq
    subst e_
    exact ⟨h', yfr_sm K_.2.2.2 hs K_.1 (ywa_s xgoV4B_w List.mem_cons_self), ⟨bpat_of (K_.2.1 _ List.mem_cons_self), fun a_ j_ n0_ => yfr_bp K_.2.2.2 (List.forall_mem_cons.mpr ⟨fun e_ => n0_ ⟨e_.1.symm, e_.2.symm⟩, fun q_ hq => absurd hq List.not_mem_nil⟩), G_⟩⟩
  · cases hq
-- xgoV5B: 30 steps, 1 ends, 0 returns
def xgoV5B_L : List (Nat × Nat × Nat) := []
def xgoV5B_O : yO := [(305, .int 3, .arg 303), (305, .int 7, .arg 307), (305, .int 2, .arg 302)]
def xgoV5B_A : yA := (yZ xgoV5B_L, [], [], [], [])
def xgoV5B_C : List xB := [(.lt, .arg 8, .arg 302, false), (.lt, .arg 303, .arg 307, false)]
def xgoV5B_ss : List yS := [(3, [(5, .add (.arg 5) (.int 1)), (7, .int 1), (6, .int 1), (0, .index 305), (1, .index 1), (2, .index 314), (3, .index 316), (4, .arg 4)], [], [(305, .int 4, .arg 5), (305, .int 6, .arg 8), (305, .int 3, .arg 303), (305, .int 7, .arg 307), (305, .int 2, .arg 302)], [(.lt, .arg 8, .arg 302, false), (.lt, .arg 303, .arg 307, false)], [(305, .int 4), (305, .int 6)])]
def xgoV5B_rs : List yR := []
theorem xgoV5B_w : ywa xgoV5B_A xgoV5B_ss xgoV5B_rs = true := by decide +kernel
theorem xgoV5B_k : yis (yev xgoV5B_A 3000 60 2 [128, 3] (50, [(5, .arg 5), (7, .arg 7), (6, .arg 6), (0, .index 305), (1, .index 1), (2, .index 314), (3, .index 316), (4, .arg 4)], [.arg 8, .index 305], xgoV5B_O, xgoV5B_C, [])) xgoV5B_ss xgoV5B_rs = true := by decide +kernel
def xgoV5B_r (v4_ v5 v6 v7 v8 v302 v303 v307 : Int32) (k_ : Nat) : Value := bif Nat.beq k_ 4 then .int v4_ else (bif Nat.beq k_ 5 then .int v5 else (bif Nat.beq k_ 6 then .int v6 else (bif Nat.beq k_ 7 then .int v7 else (bif Nat.beq k_ 8 then .int v8 else (bif Nat.beq k_ 302 then .int v302 else (bif Nat.beq k_ 303 then .int v303 else (bif Nat.beq k_ 307 then .int v307 else (.int 0))))))))
def xgoV5B_s (n_ : Nat) : Nat := 0
theorem xgoV5B {h_ : xH} {v4_ v5 v6 v7 v8 v302 v303 v307 : Int32} (hs : sHp h_) (o0_ : bpat h_ 305 3 = some (.int v303)) (o1 : bpat h_ 305 7 = some (.int v307)) (o2 : bpat h_ 305 2 = some (.int v302)) (c0_ : v302.toInt ≤ v8.toInt) (c1_ : v307.toInt ≤ v303.toInt) : ∃ h', ysm h_ h' ∧ (((bpat h' 305 4 = some (.int v5)) ∧ (bpat h' 305 6 = some (.int v8)) ∧ (∀ a_ j_ : Nat, ¬ (a_ = 305 ∧ j_ = 4) → ¬ (a_ = 305 ∧ j_ = 6) → bpat h' a_ j_ = bpat h_ a_ j_) ∧ (bldD 60 2 50 [(5, .int v5), (7, .int v7), (6, .int v6), (0, .index 305), (1, .index 1), (2, .index 314), (3, .index 316), (4, .int v4_)] [.int v8, .index 305] h_ 3 [(5, .int (v5 + (1 : Int32))), (7, .int (1 : Int32)), (6, .int (1 : Int32)), (0, .index 305), (1, .index 1), (2, .index 314), (3, .index 316), (4, .int v4_)] [] h'))) := by
  have hA : yas xgoV5B_A (xgoV5B_r v4_ v5 v6 v7 v8 v302 v303 v307) (yg xgoV5B_s) := ⟨fun q_ hq => absurd hq List.not_mem_nil, fun q_ hq => absurd hq List.not_mem_nil, fun q_ hq => absurd hq List.not_mem_nil, fun n_ hn => yg_lo hn, fun q_ hq => absurd hq List.not_mem_nil⟩
  have Hs : ysh xgoV5B_A.1 (yg xgoV5B_s) h_ := ysh_of2 hs (fun q_ hq => absurd hq List.not_mem_nil)
  have Ho : ymem (xgoV5B_r v4_ v5 v6 v7 v8 v302 v303 v307) (yg xgoV5B_s) xgoV5B_O h_ := List.forall_mem_cons.mpr ⟨bpat_some o0_, List.forall_mem_cons.mpr ⟨bpat_some o1, List.forall_mem_cons.mpr ⟨bpat_some o2, fun q_ hq => absurd hq List.not_mem_nil⟩⟩⟩
  have HC : ∀ q_ ∈ xgoV5B_C, xhold (xgoV5B_r v4_ v5 v6 v7 v8 v302 v303 v307) q_ := List.forall_mem_cons.mpr ⟨xh_ltF c0_, List.forall_mem_cons.mpr ⟨xh_ltF c1_, fun q_ hq => absurd hq List.not_mem_nil⟩⟩
  rcases yrun (yis_ok xgoV5B_k) hA Hs Ho HC with ⟨q_, hq, h', K_, G_⟩ | ⟨q_, hq, h', K_, G_⟩
  · have e_ := List.mem_singleton.mp hq
    subst e_
    exact ⟨h', yfr_sm K_.2.2.2 hs K_.1 (ywa_s xgoV5B_w List.mem_cons_self), ⟨bpat_of (K_.2.1 _ List.mem_cons_self), bpat_of (K_.2.1 _ (List.mem_cons_of_mem _ List.mem_cons_self)), fun a_ j_ n0_ n1_ => yfr_bp K_.2.2.2 (List.forall_mem_cons.mpr ⟨fun e_ => n0_ ⟨e_.1.symm, e_.2.symm⟩, List.forall_mem_cons.mpr ⟨fun e_ => n1_ ⟨e_.1.symm, e_.2.symm⟩, fun q_ hq => absurd hq List.not_mem_nil⟩⟩), G_⟩⟩
  · cases hq
-- xgoY: 7 steps, 0 ends, 1 returns
def xgoY_L : List (Nat × Nat × Nat) := []
def xgoY_O : yO := [(305, .int 4, .arg 304)]
def xgoY_A : yA := (yZ xgoY_L, [], [], [], [])
def xgoY_C : List xB := [(.lt, .arg 304, .int 0, false), (.lt, .arg 5, .arg 4, true)]
def xgoY_ss : List yS := []
def xgoY_rs : List yR := [(none, [(305, .int 4, .arg 304)], [(.lt, .arg 304, .int 0, false), (.lt, .arg 5, .arg 4, true)], [])]
theorem xgoY_w : ywa xgoY_A xgoY_ss xgoY_rs = true := by decide +kernel
theorem xgoY_k : yis (yev xgoY_A 3000 60 2 [] (3, [(5, .arg 5), (7, .arg 7), (6, .arg 6), (0, .index 305), (1, .index 1), (2, .index 314), (3, .index 316), (4, .arg 4)], [], xgoY_O, xgoY_C, [])) xgoY_ss xgoY_rs = true := by decide +kernel
def xgoY_r (v4_ v5 v6 v7 v304 : Int32) (k_ : Nat) : Value := bif Nat.beq k_ 4 then .int v4_ else (bif Nat.beq k_ 5 then .int v5 else (bif Nat.beq k_ 6 then .int v6 else (bif Nat.beq k_ 7 then .int v7 else (bif Nat.beq k_ 304 then .int v304 else (.int 0)))))
def xgoY_s (n_ : Nat) : Nat := 0
theorem xgoY {h_ : xH} {v4_ v5 v6 v7 v304 : Int32} (hs : sHp h_) (o0_ : bpat h_ 305 4 = some (.int v304)) (c0_ : (0 : Int32).toInt ≤ v304.toInt) (c1_ : v5.toInt < v4_.toInt) : ∃ h', ysm h_ h' ∧ (((∀ a_ j_ : Nat, bpat h' a_ j_ = bpat h_ a_ j_) ∧ (∀ D_, 60 ≤ D_ → xrun D_ 2 3 [(5, .int v5), (7, .int v7), (6, .int v6), (0, .index 305), (1, .index 1), (2, .index 314), (3, .index 316), (4, .int v4_)] [] h_ (none, h', [])))) := by
  have hA : yas xgoY_A (xgoY_r v4_ v5 v6 v7 v304) (yg xgoY_s) := ⟨fun q_ hq => absurd hq List.not_mem_nil, fun q_ hq => absurd hq List.not_mem_nil, fun q_ hq => absurd hq List.not_mem_nil, fun n_ hn => yg_lo hn, fun q_ hq => absurd hq List.not_mem_nil⟩
  have Hs : ysh xgoY_A.1 (yg xgoY_s) h_ := ysh_of2 hs (fun q_ hq => absurd hq List.not_mem_nil)
  have Ho : ymem (xgoY_r v4_ v5 v6 v7 v304) (yg xgoY_s) xgoY_O h_ := List.forall_mem_cons.mpr ⟨bpat_some o0_, fun q_ hq => absurd hq List.not_mem_nil⟩
  have HC : ∀ q_ ∈ xgoY_C, xhold (xgoY_r v4_ v5 v6 v7 v304) q_ := List.forall_mem_cons.mpr ⟨xh_ltF c0_, List.forall_mem_cons.mpr ⟨xh_ltT c1_, fun q_ hq => absurd hq List.not_mem_nil⟩⟩
  rcases yrun (yis_ok xgoY_k) hA Hs Ho HC with ⟨q_, hq, h', K_, G_⟩ | ⟨q_, hq, h', K_, G_⟩
  · cases hq
  · have e_ := List.mem_singleton.mp hq
    subst e_
    exact ⟨h', yfr_sm K_.2.2.2 hs K_.1 (ywa_r xgoY_w List.mem_cons_self), ⟨fun a_ j_ => yfr_bp K_.2.2.2 (fun q_ hq => absurd hq List.not_mem_nil), G_⟩⟩
-- xgoN00: 8 steps, 1 ends, 0 returns
def xgoN00_L : List (Nat × Nat × Nat) := []
def xgoN00_O : yO := [(305, .int 2, .arg 302), (305, .int 6, .arg 306)]
def xgoN00_A : yA := (yZ xgoN00_L, [], [], [], [])
def xgoN00_C : List xB := []
def xgoN00_ss : List yS := [(141, [(7, .int 0), (6, .int 0), (5, .arg 5), (0, .index 305), (1, .index 1), (2, .index 314), (3, .index 316), (4, .arg 4)], [.arg 5, .int 0, .arg 306, .arg 302, .index 1, .index 305], [(305, .int 2, .arg 302), (305, .int 6, .arg 306)], [], [])]
def xgoN00_rs : List yR := []
theorem xgoN00_w : ywa xgoN00_A xgoN00_ss xgoN00_rs = true := by decide +kernel
theorem xgoN00_k : yis (yev xgoN00_A 3000 60 2 [141] (128, [(7, .int 0), (6, .int 0), (5, .arg 5), (0, .index 305), (1, .index 1), (2, .index 314), (3, .index 316), (4, .arg 4)], [], xgoN00_O, xgoN00_C, [])) xgoN00_ss xgoN00_rs = true := by decide +kernel
def xgoN00_r (v4_ v5 v302 v306 : Int32) (k_ : Nat) : Value := bif Nat.beq k_ 4 then .int v4_ else (bif Nat.beq k_ 5 then .int v5 else (bif Nat.beq k_ 302 then .int v302 else (bif Nat.beq k_ 306 then .int v306 else (.int 0))))
def xgoN00_s (n_ : Nat) : Nat := 0
theorem xgoN00 {h_ : xH} {v4_ v5 v302 v306 : Int32} (hs : sHp h_) (o0_ : bpat h_ 305 2 = some (.int v302)) (o1 : bpat h_ 305 6 = some (.int v306)) : ∃ h', ysm h_ h' ∧ (((∀ a_ j_ : Nat, bpat h' a_ j_ = bpat h_ a_ j_) ∧ (bldD 60 2 128 [(7, .int (0 : Int32)), (6, .int (0 : Int32)), (5, .int v5), (0, .index 305), (1, .index 1), (2, .index 314), (3, .index 316), (4, .int v4_)] [] h_ 141 [(7, .int (0 : Int32)), (6, .int (0 : Int32)), (5, .int v5), (0, .index 305), (1, .index 1), (2, .index 314), (3, .index 316), (4, .int v4_)] [.int v5, .int (0 : Int32), .int v306, .int v302, .index 1, .index 305] h'))) := by
  have hA : yas xgoN00_A (xgoN00_r v4_ v5 v302 v306) (yg xgoN00_s) := ⟨fun q_ hq => absurd hq List.not_mem_nil, fun q_ hq => absurd hq List.not_mem_nil, fun q_ hq => absurd hq List.not_mem_nil, fun n_ hn => yg_lo hn, fun q_ hq => absurd hq List.not_mem_nil⟩
  have Hs : ysh xgoN00_A.1 (yg xgoN00_s) h_ := ysh_of2 hs (fun q_ hq => absurd hq List.not_mem_nil)
  have Ho : ymem (xgoN00_r v4_ v5 v302 v306) (yg xgoN00_s) xgoN00_O h_ := List.forall_mem_cons.mpr ⟨bpat_some o0_, List.forall_mem_cons.mpr ⟨bpat_some o1, fun q_ hq => absurd hq List.not_mem_nil⟩⟩
  have HC : ∀ q_ ∈ xgoN00_C, xhold (xgoN00_r v4_ v5 v302 v306) q_ := fun q_ hq => absurd hq List.not_mem_nil
  rcases yrun (yis_ok xgoN00_k) hA Hs Ho HC with ⟨q_, hq, h', K_, G_⟩ | ⟨q_, hq, h', K_, G_⟩
  · have e_ := List.mem_singleton.mp hq
    subst e_
    exact ⟨h', yfr_sm K_.2.2.2 hs K_.1 (ywa_s xgoN00_w List.mem_cons_self), ⟨fun a_ j_ => yfr_bp K_.2.2.2 (fun q_ hq => absurd hq List.not_mem_nil), G_⟩⟩
  · cases hq
-- xgoO00: 9 steps, 1 ends, 0 returns
def xgoO00_L : List (Nat × Nat × Nat) := []
def xgoO00_O : yO := [(305, .int 3, .arg 303), (305, .int 7, .arg 307)]
def xgoO00_A : yA := (yZ xgoO00_L, [], [], [], [])
def xgoO00_C : List xB := []
def xgoO00_ss : List yS := [(160, [(7, .int 0), (6, .int 0), (5, .arg 5), (0, .index 305), (1, .index 1), (2, .index 314), (3, .index 316), (4, .arg 4)], [.arg 5, .int 1, .arg 307, .arg 303, .index 1, .index 305], [(305, .int 2, .arg 8), (305, .int 3, .arg 303), (305, .int 7, .arg 307)], [], [(305, .int 2)])]
def xgoO00_rs : List yR := []
theorem xgoO00_w : ywa xgoO00_A xgoO00_ss xgoO00_rs = true := by decide +kernel
theorem xgoO00_k : yis (yev xgoO00_A 3000 60 2 [160] (144, [(7, .int 0), (6, .int 0), (5, .arg 5), (0, .index 305), (1, .index 1), (2, .index 314), (3, .index 316), (4, .arg 4)], [.arg 8, .index 305], xgoO00_O, xgoO00_C, [])) xgoO00_ss xgoO00_rs = true := by decide +kernel
def xgoO00_r (v4_ v5 v8 v303 v307 : Int32) (k_ : Nat) : Value := bif Nat.beq k_ 4 then .int v4_ else (bif Nat.beq k_ 5 then .int v5 else (bif Nat.beq k_ 8 then .int v8 else (bif Nat.beq k_ 303 then .int v303 else (bif Nat.beq k_ 307 then .int v307 else (.int 0)))))
def xgoO00_s (n_ : Nat) : Nat := 0
theorem xgoO00 {h_ : xH} {v4_ v5 v8 v303 v307 : Int32} (hs : sHp h_) (o0_ : bpat h_ 305 3 = some (.int v303)) (o1 : bpat h_ 305 7 = some (.int v307)) : ∃ h', ysm h_ h' ∧ (((bpat h' 305 2 = some (.int v8)) ∧ (∀ a_ j_ : Nat, ¬ (a_ = 305 ∧ j_ = 2) → bpat h' a_ j_ = bpat h_ a_ j_) ∧ (bldD 60 2 144 [(7, .int (0 : Int32)), (6, .int (0 : Int32)), (5, .int v5), (0, .index 305), (1, .index 1), (2, .index 314), (3, .index 316), (4, .int v4_)] [.int v8, .index 305] h_ 160 [(7, .int (0 : Int32)), (6, .int (0 : Int32)), (5, .int v5), (0, .index 305), (1, .index 1), (2, .index 314), (3, .index 316), (4, .int v4_)] [.int v5, .int (1 : Int32), .int v307, .int v303, .index 1, .index 305] h'))) := by
  have hA : yas xgoO00_A (xgoO00_r v4_ v5 v8 v303 v307) (yg xgoO00_s) := ⟨fun q_ hq => absurd hq List.not_mem_nil, fun q_ hq => absurd hq List.not_mem_nil, fun q_ hq => absurd hq List.not_mem_nil, fun n_ hn => yg_lo hn, fun q_ hq => absurd hq List.not_mem_nil⟩
  have Hs : ysh xgoO00_A.1 (yg xgoO00_s) h_ := ysh_of2 hs (fun q_ hq => absurd hq List.not_mem_nil)
  have Ho : ymem (xgoO00_r v4_ v5 v8 v303 v307) (yg xgoO00_s) xgoO00_O h_ := List.forall_mem_cons.mpr ⟨bpat_some o0_, List.forall_mem_cons.mpr ⟨bpat_some o1, fun q_ hq => absurd hq List.not_mem_nil⟩⟩
  have HC : ∀ q_ ∈ xgoO00_C, xhold (xgoO00_r v4_ v5 v8 v303 v307) q_ := fun q_ hq => absurd hq List.not_mem_nil
  rcases yrun (yis_ok xgoO00_k) hA Hs Ho HC with ⟨q_, hq, h', K_, G_⟩ | ⟨q_, hq, h', K_, G_⟩
  · have e_ := List.mem_singleton.mp hq
    subst e_
    exact ⟨h', yfr_sm K_.2.2.2 hs K_.1 (ywa_s xgoO00_w List.mem_cons_self), ⟨bpat_of (K_.2.1 _ List.mem_cons_self), fun a_ j_ n0_ => yfr_bp K_.2.2.2 (List.forall_mem_cons.mpr ⟨fun e_ => n0_ ⟨e_.1.symm, e_.2.symm⟩, fun q_ hq => absurd hq List.not_mem_nil⟩), G_⟩⟩
  · cases hq
-- xgoP00: 3 steps, 1 ends, 0 returns
def xgoP00_L : List (Nat × Nat × Nat) := []
def xgoP00_O : yO := []
def xgoP00_A : yA := (yZ xgoP00_L, [], [], [], [])
def xgoP00_C : List xB := []
def xgoP00_ss : List yS := [(3, [(5, .add (.arg 5) (.int 1)), (7, .int 0), (6, .int 0), (0, .index 305), (1, .index 1), (2, .index 314), (3, .index 316), (4, .arg 4)], [], [(305, .int 3, .arg 8)], [], [(305, .int 3)])]
def xgoP00_rs : List yR := []
theorem xgoP00_w : ywa xgoP00_A xgoP00_ss xgoP00_rs = true := by decide +kernel
theorem xgoP00_k : yis (yev xgoP00_A 3000 60 2 [3] (163, [(7, .int 0), (6, .int 0), (5, .arg 5), (0, .index 305), (1, .index 1), (2, .index 314), (3, .index 316), (4, .arg 4)], [.arg 8, .index 305], xgoP00_O, xgoP00_C, [])) xgoP00_ss xgoP00_rs = true := by decide +kernel
def xgoP00_r (v4_ v5 v8 : Int32) (k_ : Nat) : Value := bif Nat.beq k_ 4 then .int v4_ else (bif Nat.beq k_ 5 then .int v5 else (bif Nat.beq k_ 8 then .int v8 else (.int 0)))
def xgoP00_s (n_ : Nat) : Nat := 0
theorem xgoP00 {h_ : xH} {v4_ v5 v8 : Int32} (hs : sHp h_) : ∃ h', ysm h_ h' ∧ (((bpat h' 305 3 = some (.int v8)) ∧ (∀ a_ j_ : Nat, ¬ (a_ = 305 ∧ j_ = 3) → bpat h' a_ j_ = bpat h_ a_ j_) ∧ (bldD 60 2 163 [(7, .int (0 : Int32)), (6, .int (0 : Int32)), (5, .int v5), (0, .index 305), (1, .index 1), (2, .index 314), (3, .index 316), (4, .int v4_)] [.int v8, .index 305] h_ 3 [(5, .int (v5 + (1 : Int32))), (7, .int (0 : Int32)), (6, .int (0 : Int32)), (0, .index 305), (1, .index 1), (2, .index 314), (3, .index 316), (4, .int v4_)] [] h'))) := by
  have hA : yas xgoP00_A (xgoP00_r v4_ v5 v8) (yg xgoP00_s) := ⟨fun q_ hq => absurd hq List.not_mem_nil, fun q_ hq => absurd hq List.not_mem_nil, fun q_ hq => absurd hq List.not_mem_nil, fun n_ hn => yg_lo hn, fun q_ hq => absurd hq List.not_mem_nil⟩
  have Hs : ysh xgoP00_A.1 (yg xgoP00_s) h_ := ysh_of2 hs (fun q_ hq => absurd hq List.not_mem_nil)
  have Ho : ymem (xgoP00_r v4_ v5 v8) (yg xgoP00_s) xgoP00_O h_ := fun q_ hq => absurd hq List.not_mem_nil
  have HC : ∀ q_ ∈ xgoP00_C, xhold (xgoP00_r v4_ v5 v8) q_ := fun q_ hq => absurd hq List.not_mem_nil
  rcases yrun (yis_ok xgoP00_k) hA Hs Ho HC with ⟨q_, hq, h', K_, G_⟩ | ⟨q_, hq, h', K_, G_⟩
  · have e_ := List.mem_singleton.mp hq
    subst e_
    exact ⟨h', yfr_sm K_.2.2.2 hs K_.1 (ywa_s xgoP00_w List.mem_cons_self), ⟨bpat_of (K_.2.1 _ List.mem_cons_self), fun a_ j_ n0_ => yfr_bp K_.2.2.2 (List.forall_mem_cons.mpr ⟨fun e_ => n0_ ⟨e_.1.symm, e_.2.symm⟩, fun q_ hq => absurd hq List.not_mem_nil⟩), G_⟩⟩
  · cases hq
-- xgoN01: 8 steps, 1 ends, 0 returns
def xgoN01_L : List (Nat × Nat × Nat) := []
def xgoN01_O : yO := [(305, .int 2, .arg 302), (305, .int 6, .arg 306)]
def xgoN01_A : yA := (yZ xgoN01_L, [], [], [], [])
def xgoN01_C : List xB := []
def xgoN01_ss : List yS := [(141, [(7, .int 0), (6, .int 1), (5, .arg 5), (0, .index 305), (1, .index 1), (2, .index 314), (3, .index 316), (4, .arg 4)], [.arg 5, .int 0, .arg 306, .arg 302, .index 1, .index 305], [(305, .int 2, .arg 302), (305, .int 6, .arg 306)], [], [])]
def xgoN01_rs : List yR := []
theorem xgoN01_w : ywa xgoN01_A xgoN01_ss xgoN01_rs = true := by decide +kernel
theorem xgoN01_k : yis (yev xgoN01_A 3000 60 2 [141] (128, [(7, .int 0), (6, .int 1), (5, .arg 5), (0, .index 305), (1, .index 1), (2, .index 314), (3, .index 316), (4, .arg 4)], [], xgoN01_O, xgoN01_C, [])) xgoN01_ss xgoN01_rs = true := by decide +kernel
def xgoN01_r (v4_ v5 v302 v306 : Int32) (k_ : Nat) : Value := bif Nat.beq k_ 4 then .int v4_ else (bif Nat.beq k_ 5 then .int v5 else (bif Nat.beq k_ 302 then .int v302 else (bif Nat.beq k_ 306 then .int v306 else (.int 0))))
def xgoN01_s (n_ : Nat) : Nat := 0
theorem xgoN01 {h_ : xH} {v4_ v5 v302 v306 : Int32} (hs : sHp h_) (o0_ : bpat h_ 305 2 = some (.int v302)) (o1 : bpat h_ 305 6 = some (.int v306)) : ∃ h', ysm h_ h' ∧ (((∀ a_ j_ : Nat, bpat h' a_ j_ = bpat h_ a_ j_) ∧ (bldD 60 2 128 [(7, .int (0 : Int32)), (6, .int (1 : Int32)), (5, .int v5), (0, .index 305), (1, .index 1), (2, .index 314), (3, .index 316), (4, .int v4_)] [] h_ 141 [(7, .int (0 : Int32)), (6, .int (1 : Int32)), (5, .int v5), (0, .index 305), (1, .index 1), (2, .index 314), (3, .index 316), (4, .int v4_)] [.int v5, .int (0 : Int32), .int v306, .int v302, .index 1, .index 305] h'))) := by
  have hA : yas xgoN01_A (xgoN01_r v4_ v5 v302 v306) (yg xgoN01_s) := ⟨fun q_ hq => absurd hq List.not_mem_nil, fun q_ hq => absurd hq List.not_mem_nil, fun q_ hq => absurd hq List.not_mem_nil, fun n_ hn => yg_lo hn, fun q_ hq => absurd hq List.not_mem_nil⟩
  have Hs : ysh xgoN01_A.1 (yg xgoN01_s) h_ := ysh_of2 hs (fun q_ hq => absurd hq List.not_mem_nil)
  have Ho : ymem (xgoN01_r v4_ v5 v302 v306) (yg xgoN01_s) xgoN01_O h_ := List.forall_mem_cons.mpr ⟨bpat_some o0_, List.forall_mem_cons.mpr ⟨bpat_some o1, fun q_ hq => absurd hq List.not_mem_nil⟩⟩
  have HC : ∀ q_ ∈ xgoN01_C, xhold (xgoN01_r v4_ v5 v302 v306) q_ := fun q_ hq => absurd hq List.not_mem_nil
  rcases yrun (yis_ok xgoN01_k) hA Hs Ho HC with ⟨q_, hq, h', K_, G_⟩ | ⟨q_, hq, h', K_, G_⟩
  · have e_ := List.mem_singleton.mp hq
    subst e_
    exact ⟨h', yfr_sm K_.2.2.2 hs K_.1 (ywa_s xgoN01_w List.mem_cons_self), ⟨fun a_ j_ => yfr_bp K_.2.2.2 (fun q_ hq => absurd hq List.not_mem_nil), G_⟩⟩
  · cases hq
-- xgoO01: 9 steps, 1 ends, 0 returns
def xgoO01_L : List (Nat × Nat × Nat) := []
def xgoO01_O : yO := [(305, .int 3, .arg 303), (305, .int 7, .arg 307)]
def xgoO01_A : yA := (yZ xgoO01_L, [], [], [], [])
def xgoO01_C : List xB := []
def xgoO01_ss : List yS := [(160, [(7, .int 0), (6, .int 1), (5, .arg 5), (0, .index 305), (1, .index 1), (2, .index 314), (3, .index 316), (4, .arg 4)], [.arg 5, .int 1, .arg 307, .arg 303, .index 1, .index 305], [(305, .int 2, .arg 8), (305, .int 3, .arg 303), (305, .int 7, .arg 307)], [], [(305, .int 2)])]
def xgoO01_rs : List yR := []
theorem xgoO01_w : ywa xgoO01_A xgoO01_ss xgoO01_rs = true := by decide +kernel
theorem xgoO01_k : yis (yev xgoO01_A 3000 60 2 [160] (144, [(7, .int 0), (6, .int 1), (5, .arg 5), (0, .index 305), (1, .index 1), (2, .index 314), (3, .index 316), (4, .arg 4)], [.arg 8, .index 305], xgoO01_O, xgoO01_C, [])) xgoO01_ss xgoO01_rs = true := by decide +kernel
def xgoO01_r (v4_ v5 v8 v303 v307 : Int32) (k_ : Nat) : Value := bif Nat.beq k_ 4 then .int v4_ else (bif Nat.beq k_ 5 then .int v5 else (bif Nat.beq k_ 8 then .int v8 else (bif Nat.beq k_ 303 then .int v303 else (bif Nat.beq k_ 307 then .int v307 else (.int 0)))))
def xgoO01_s (n_ : Nat) : Nat := 0
theorem xgoO01 {h_ : xH} {v4_ v5 v8 v303 v307 : Int32} (hs : sHp h_) (o0_ : bpat h_ 305 3 = some (.int v303)) (o1 : bpat h_ 305 7 = some (.int v307)) : ∃ h', ysm h_ h' ∧ (((bpat h' 305 2 = some (.int v8)) ∧ (∀ a_ j_ : Nat, ¬ (a_ = 305 ∧ j_ = 2) → bpat h' a_ j_ = bpat h_ a_ j_) ∧ (bldD 60 2 144 [(7, .int (0 : Int32)), (6, .int (1 : Int32)), (5, .int v5), (0, .index 305), (1, .index 1), (2, .index 314), (3, .index 316), (4, .int v4_)] [.int v8, .index 305] h_ 160 [(7, .int (0 : Int32)), (6, .int (1 : Int32)), (5, .int v5), (0, .index 305), (1, .index 1), (2, .index 314), (3, .index 316), (4, .int v4_)] [.int v5, .int (1 : Int32), .int v307, .int v303, .index 1, .index 305] h'))) := by
  have hA : yas xgoO01_A (xgoO01_r v4_ v5 v8 v303 v307) (yg xgoO01_s) := ⟨fun q_ hq => absurd hq List.not_mem_nil, fun q_ hq => absurd hq List.not_mem_nil, fun q_ hq => absurd hq List.not_mem_nil, fun n_ hn => yg_lo hn, fun q_ hq => absurd hq List.not_mem_nil⟩
  have Hs : ysh xgoO01_A.1 (yg xgoO01_s) h_ := ysh_of2 hs (fun q_ hq => absurd hq List.not_mem_nil)
  have Ho : ymem (xgoO01_r v4_ v5 v8 v303 v307) (yg xgoO01_s) xgoO01_O h_ := List.forall_mem_cons.mpr ⟨bpat_some o0_, List.forall_mem_cons.mpr ⟨bpat_some o1, fun q_ hq => absurd hq List.not_mem_nil⟩⟩
  have HC : ∀ q_ ∈ xgoO01_C, xhold (xgoO01_r v4_ v5 v8 v303 v307) q_ := fun q_ hq => absurd hq List.not_mem_nil
  rcases yrun (yis_ok xgoO01_k) hA Hs Ho HC with ⟨q_, hq, h', K_, G_⟩ | ⟨q_, hq, h', K_, G_⟩
  · have e_ := List.mem_singleton.mp hq
    subst e_
    exact ⟨h', yfr_sm K_.2.2.2 hs K_.1 (ywa_s xgoO01_w List.mem_cons_self), ⟨bpat_of (K_.2.1 _ List.mem_cons_self), fun a_ j_ n0_ => yfr_bp K_.2.2.2 (List.forall_mem_cons.mpr ⟨fun e_ => n0_ ⟨e_.1.symm, e_.2.symm⟩, fun q_ hq => absurd hq List.not_mem_nil⟩), G_⟩⟩
  · cases hq
-- xgoP01: 3 steps, 1 ends, 0 returns
def xgoP01_L : List (Nat × Nat × Nat) := []
def xgoP01_O : yO := []
def xgoP01_A : yA := (yZ xgoP01_L, [], [], [], [])
def xgoP01_C : List xB := []
def xgoP01_ss : List yS := [(3, [(5, .add (.arg 5) (.int 1)), (7, .int 0), (6, .int 1), (0, .index 305), (1, .index 1), (2, .index 314), (3, .index 316), (4, .arg 4)], [], [(305, .int 3, .arg 8)], [], [(305, .int 3)])]
def xgoP01_rs : List yR := []
theorem xgoP01_w : ywa xgoP01_A xgoP01_ss xgoP01_rs = true := by decide +kernel
theorem xgoP01_k : yis (yev xgoP01_A 3000 60 2 [3] (163, [(7, .int 0), (6, .int 1), (5, .arg 5), (0, .index 305), (1, .index 1), (2, .index 314), (3, .index 316), (4, .arg 4)], [.arg 8, .index 305], xgoP01_O, xgoP01_C, [])) xgoP01_ss xgoP01_rs = true := by decide +kernel
def xgoP01_r (v4_ v5 v8 : Int32) (k_ : Nat) : Value := bif Nat.beq k_ 4 then .int v4_ else (bif Nat.beq k_ 5 then .int v5 else (bif Nat.beq k_ 8 then .int v8 else (.int 0)))
def xgoP01_s (n_ : Nat) : Nat := 0
theorem xgoP01 {h_ : xH} {v4_ v5 v8 : Int32} (hs : sHp h_) : ∃ h', ysm h_ h' ∧ (((bpat h' 305 3 = some (.int v8)) ∧ (∀ a_ j_ : Nat, ¬ (a_ = 305 ∧ j_ = 3) → bpat h' a_ j_ = bpat h_ a_ j_) ∧ (bldD 60 2 163 [(7, .int (0 : Int32)), (6, .int (1 : Int32)), (5, .int v5), (0, .index 305), (1, .index 1), (2, .index 314), (3, .index 316), (4, .int v4_)] [.int v8, .index 305] h_ 3 [(5, .int (v5 + (1 : Int32))), (7, .int (0 : Int32)), (6, .int (1 : Int32)), (0, .index 305), (1, .index 1), (2, .index 314), (3, .index 316), (4, .int v4_)] [] h'))) := by
  have hA : yas xgoP01_A (xgoP01_r v4_ v5 v8) (yg xgoP01_s) := ⟨fun q_ hq => absurd hq List.not_mem_nil, fun q_ hq => absurd hq List.not_mem_nil, fun q_ hq => absurd hq List.not_mem_nil, fun n_ hn => yg_lo hn, fun q_ hq => absurd hq List.not_mem_nil⟩
  have Hs : ysh xgoP01_A.1 (yg xgoP01_s) h_ := ysh_of2 hs (fun q_ hq => absurd hq List.not_mem_nil)
  have Ho : ymem (xgoP01_r v4_ v5 v8) (yg xgoP01_s) xgoP01_O h_ := fun q_ hq => absurd hq List.not_mem_nil
  have HC : ∀ q_ ∈ xgoP01_C, xhold (xgoP01_r v4_ v5 v8) q_ := fun q_ hq => absurd hq List.not_mem_nil
  rcases yrun (yis_ok xgoP01_k) hA Hs Ho HC with ⟨q_, hq, h', K_, G_⟩ | ⟨q_, hq, h', K_, G_⟩
  · have e_ := List.mem_singleton.mp hq
    subst e_
    exact ⟨h', yfr_sm K_.2.2.2 hs K_.1 (ywa_s xgoP01_w List.mem_cons_self), ⟨bpat_of (K_.2.1 _ List.mem_cons_self), fun a_ j_ n0_ => yfr_bp K_.2.2.2 (List.forall_mem_cons.mpr ⟨fun e_ => n0_ ⟨e_.1.symm, e_.2.symm⟩, fun q_ hq => absurd hq List.not_mem_nil⟩), G_⟩⟩
  · cases hq
-- xgoN10: 8 steps, 1 ends, 0 returns
def xgoN10_L : List (Nat × Nat × Nat) := []
def xgoN10_O : yO := [(305, .int 2, .arg 302), (305, .int 6, .arg 306)]
def xgoN10_A : yA := (yZ xgoN10_L, [], [], [], [])
def xgoN10_C : List xB := []
def xgoN10_ss : List yS := [(141, [(7, .int 1), (6, .int 0), (5, .arg 5), (0, .index 305), (1, .index 1), (2, .index 314), (3, .index 316), (4, .arg 4)], [.arg 5, .int 0, .arg 306, .arg 302, .index 1, .index 305], [(305, .int 2, .arg 302), (305, .int 6, .arg 306)], [], [])]
def xgoN10_rs : List yR := []
theorem xgoN10_w : ywa xgoN10_A xgoN10_ss xgoN10_rs = true := by decide +kernel
theorem xgoN10_k : yis (yev xgoN10_A 3000 60 2 [141] (128, [(7, .int 1), (6, .int 0), (5, .arg 5), (0, .index 305), (1, .index 1), (2, .index 314), (3, .index 316), (4, .arg 4)], [], xgoN10_O, xgoN10_C, [])) xgoN10_ss xgoN10_rs = true := by decide +kernel
def xgoN10_r (v4_ v5 v302 v306 : Int32) (k_ : Nat) : Value := bif Nat.beq k_ 4 then .int v4_ else (bif Nat.beq k_ 5 then .int v5 else (bif Nat.beq k_ 302 then .int v302 else (bif Nat.beq k_ 306 then .int v306 else (.int 0))))
def xgoN10_s (n_ : Nat) : Nat := 0
theorem xgoN10 {h_ : xH} {v4_ v5 v302 v306 : Int32} (hs : sHp h_) (o0_ : bpat h_ 305 2 = some (.int v302)) (o1 : bpat h_ 305 6 = some (.int v306)) : ∃ h', ysm h_ h' ∧ (((∀ a_ j_ : Nat, bpat h' a_ j_ = bpat h_ a_ j_) ∧ (bldD 60 2 128 [(7, .int (1 : Int32)), (6, .int (0 : Int32)), (5, .int v5), (0, .index 305), (1, .index 1), (2, .index 314), (3, .index 316), (4, .int v4_)] [] h_ 141 [(7, .int (1 : Int32)), (6, .int (0 : Int32)), (5, .int v5), (0, .index 305), (1, .index 1), (2, .index 314), (3, .index 316), (4, .int v4_)] [.int v5, .int (0 : Int32), .int v306, .int v302, .index 1, .index 305] h'))) := by
  have hA : yas xgoN10_A (xgoN10_r v4_ v5 v302 v306) (yg xgoN10_s) := ⟨fun q_ hq => absurd hq List.not_mem_nil, fun q_ hq => absurd hq List.not_mem_nil, fun q_ hq => absurd hq List.not_mem_nil, fun n_ hn => yg_lo hn, fun q_ hq => absurd hq List.not_mem_nil⟩
  have Hs : ysh xgoN10_A.1 (yg xgoN10_s) h_ := ysh_of2 hs (fun q_ hq => absurd hq List.not_mem_nil)
  have Ho : ymem (xgoN10_r v4_ v5 v302 v306) (yg xgoN10_s) xgoN10_O h_ := List.forall_mem_cons.mpr ⟨bpat_some o0_, List.forall_mem_cons.mpr ⟨bpat_some o1, fun q_ hq => absurd hq List.not_mem_nil⟩⟩
  have HC : ∀ q_ ∈ xgoN10_C, xhold (xgoN10_r v4_ v5 v302 v306) q_ := fun q_ hq => absurd hq List.not_mem_nil
  rcases yrun (yis_ok xgoN10_k) hA Hs Ho HC with ⟨q_, hq, h', K_, G_⟩ | ⟨q_, hq, h', K_, G_⟩
  · have e_ := List.mem_singleton.mp hq
    subst e_
    exact ⟨h', yfr_sm K_.2.2.2 hs K_.1 (ywa_s xgoN10_w List.mem_cons_self), ⟨fun a_ j_ => yfr_bp K_.2.2.2 (fun q_ hq => absurd hq List.not_mem_nil), G_⟩⟩
  · cases hq
-- xgoO10: 9 steps, 1 ends, 0 returns
def xgoO10_L : List (Nat × Nat × Nat) := []
def xgoO10_O : yO := [(305, .int 3, .arg 303), (305, .int 7, .arg 307)]
def xgoO10_A : yA := (yZ xgoO10_L, [], [], [], [])
def xgoO10_C : List xB := []
def xgoO10_ss : List yS := [(160, [(7, .int 1), (6, .int 0), (5, .arg 5), (0, .index 305), (1, .index 1), (2, .index 314), (3, .index 316), (4, .arg 4)], [.arg 5, .int 1, .arg 307, .arg 303, .index 1, .index 305], [(305, .int 2, .arg 8), (305, .int 3, .arg 303), (305, .int 7, .arg 307)], [], [(305, .int 2)])]
def xgoO10_rs : List yR := []
theorem xgoO10_w : ywa xgoO10_A xgoO10_ss xgoO10_rs = true := by decide +kernel
theorem xgoO10_k : yis (yev xgoO10_A 3000 60 2 [160] (144, [(7, .int 1), (6, .int 0), (5, .arg 5), (0, .index 305), (1, .index 1), (2, .index 314), (3, .index 316), (4, .arg 4)], [.arg 8, .index 305], xgoO10_O, xgoO10_C, [])) xgoO10_ss xgoO10_rs = true := by decide +kernel
def xgoO10_r (v4_ v5 v8 v303 v307 : Int32) (k_ : Nat) : Value := bif Nat.beq k_ 4 then .int v4_ else (bif Nat.beq k_ 5 then .int v5 else (bif Nat.beq k_ 8 then .int v8 else (bif Nat.beq k_ 303 then .int v303 else (bif Nat.beq k_ 307 then .int v307 else (.int 0)))))
def xgoO10_s (n_ : Nat) : Nat := 0
theorem xgoO10 {h_ : xH} {v4_ v5 v8 v303 v307 : Int32} (hs : sHp h_) (o0_ : bpat h_ 305 3 = some (.int v303)) (o1 : bpat h_ 305 7 = some (.int v307)) : ∃ h', ysm h_ h' ∧ (((bpat h' 305 2 = some (.int v8)) ∧ (∀ a_ j_ : Nat, ¬ (a_ = 305 ∧ j_ = 2) → bpat h' a_ j_ = bpat h_ a_ j_) ∧ (bldD 60 2 144 [(7, .int (1 : Int32)), (6, .int (0 : Int32)), (5, .int v5), (0, .index 305), (1, .index 1), (2, .index 314), (3, .index 316), (4, .int v4_)] [.int v8, .index 305] h_ 160 [(7, .int (1 : Int32)), (6, .int (0 : Int32)), (5, .int v5), (0, .index 305), (1, .index 1), (2, .index 314), (3, .index 316), (4, .int v4_)] [.int v5, .int (1 : Int32), .int v307, .int v303, .index 1, .index 305] h'))) := by
  have hA : yas xgoO10_A (xgoO10_r v4_ v5 v8 v303 v307) (yg xgoO10_s) := ⟨fun q_ hq => absurd hq List.not_mem_nil, fun q_ hq => absurd hq List.not_mem_nil, fun q_ hq => absurd hq List.not_mem_nil, fun n_ hn => yg_lo hn, fun q_ hq => absurd hq List.not_mem_nil⟩
  have Hs : ysh xgoO10_A.1 (yg xgoO10_s) h_ := ysh_of2 hs (fun q_ hq => absurd hq List.not_mem_nil)
  have Ho : ymem (xgoO10_r v4_ v5 v8 v303 v307) (yg xgoO10_s) xgoO10_O h_ := List.forall_mem_cons.mpr ⟨bpat_some o0_, List.forall_mem_cons.mpr ⟨bpat_some o1, fun q_ hq => absurd hq List.not_mem_nil⟩⟩
  have HC : ∀ q_ ∈ xgoO10_C, xhold (xgoO10_r v4_ v5 v8 v303 v307) q_ := fun q_ hq => absurd hq List.not_mem_nil
  rcases yrun (yis_ok xgoO10_k) hA Hs Ho HC with ⟨q_, hq, h', K_, G_⟩ | ⟨q_, hq, h', K_, G_⟩
  · have e_ := List.mem_singleton.mp hq
    subst e_
    exact ⟨h', yfr_sm K_.2.2.2 hs K_.1 (ywa_s xgoO10_w List.mem_cons_self), ⟨bpat_of (K_.2.1 _ List.mem_cons_self), fun a_ j_ n0_ => yfr_bp K_.2.2.2 (List.forall_mem_cons.mpr ⟨fun e_ => n0_ ⟨e_.1.symm, e_.2.symm⟩, fun q_ hq => absurd hq List.not_mem_nil⟩), G_⟩⟩
  · cases hq
-- xgoP10: 3 steps, 1 ends, 0 returns
def xgoP10_L : List (Nat × Nat × Nat) := []
def xgoP10_O : yO := []
def xgoP10_A : yA := (yZ xgoP10_L, [], [], [], [])
def xgoP10_C : List xB := []
def xgoP10_ss : List yS := [(3, [(5, .add (.arg 5) (.int 1)), (7, .int 1), (6, .int 0), (0, .index 305), (1, .index 1), (2, .index 314), (3, .index 316), (4, .arg 4)], [], [(305, .int 3, .arg 8)], [], [(305, .int 3)])]
def xgoP10_rs : List yR := []
theorem xgoP10_w : ywa xgoP10_A xgoP10_ss xgoP10_rs = true := by decide +kernel
theorem xgoP10_k : yis (yev xgoP10_A 3000 60 2 [3] (163, [(7, .int 1), (6, .int 0), (5, .arg 5), (0, .index 305), (1, .index 1), (2, .index 314), (3, .index 316), (4, .arg 4)], [.arg 8, .index 305], xgoP10_O, xgoP10_C, [])) xgoP10_ss xgoP10_rs = true := by decide +kernel
def xgoP10_r (v4_ v5 v8 : Int32) (k_ : Nat) : Value := bif Nat.beq k_ 4 then .int v4_ else (bif Nat.beq k_ 5 then .int v5 else (bif Nat.beq k_ 8 then .int v8 else (.int 0)))
def xgoP10_s (n_ : Nat) : Nat := 0
theorem xgoP10 {h_ : xH} {v4_ v5 v8 : Int32} (hs : sHp h_) : ∃ h', ysm h_ h' ∧ (((bpat h' 305 3 = some (.int v8)) ∧ (∀ a_ j_ : Nat, ¬ (a_ = 305 ∧ j_ = 3) → bpat h' a_ j_ = bpat h_ a_ j_) ∧ (bldD 60 2 163 [(7, .int (1 : Int32)), (6, .int (0 : Int32)), (5, .int v5), (0, .index 305), (1, .index 1), (2, .index 314), (3, .index 316), (4, .int v4_)] [.int v8, .index 305] h_ 3 [(5, .int (v5 + (1 : Int32))), (7, .int (1 : Int32)), (6, .int (0 : Int32)), (0, .index 305), (1, .index 1), (2, .index 314), (3, .index 316), (4, .int v4_)] [] h'))) := by
  have hA : yas xgoP10_A (xgoP10_r v4_ v5 v8) (yg xgoP10_s) := ⟨fun q_ hq => absurd hq List.not_mem_nil, fun q_ hq => absurd hq List.not_mem_nil, fun q_ hq => absurd hq List.not_mem_nil, fun n_ hn => yg_lo hn, fun q_ hq => absurd hq List.not_mem_nil⟩
  have Hs : ysh xgoP10_A.1 (yg xgoP10_s) h_ := ysh_of2 hs (fun q_ hq => absurd hq List.not_mem_nil)
  have Ho : ymem (xgoP10_r v4_ v5 v8) (yg xgoP10_s) xgoP10_O h_ := fun q_ hq => absurd hq List.not_mem_nil
  have HC : ∀ q_ ∈ xgoP10_C, xhold (xgoP10_r v4_ v5 v8) q_ := fun q_ hq => absurd hq List.not_mem_nil
  rcases yrun (yis_ok xgoP10_k) hA Hs Ho HC with ⟨q_, hq, h', K_, G_⟩ | ⟨q_, hq, h', K_, G_⟩
  · have e_ := List.mem_singleton.mp hq
    subst e_
    exact ⟨h', yfr_sm K_.2.2.2 hs K_.1 (ywa_s xgoP10_w List.mem_cons_self), ⟨bpat_of (K_.2.1 _ List.mem_cons_self), fun a_ j_ n0_ => yfr_bp K_.2.2.2 (List.forall_mem_cons.mpr ⟨fun e_ => n0_ ⟨e_.1.symm, e_.2.symm⟩, fun q_ hq => absurd hq List.not_mem_nil⟩), G_⟩⟩
  · cases hq
-- mbaE: 87 steps, 1 ends, 3 returns
def mbaE_L : List (Nat × Nat × Nat) := []
def mbaE_O : yO := [(338, .int 3, .index 341), (341, .int 1, .arg 400)]
def mbaE_A : yA := (yZ mbaE_L, [], [], [], [])
def mbaE_C : List xB := []
def mbaE_ss : List yS := [(22, [(0, .index 338), (1, .arg 1), (2, .arg 2), (3, .arg 3), (4, .arg 4), (5, .arg 5)], [.arg 2, .index 338], [(338, .int 3, .index 341), (341, .int 1, .arg 400)], [(.lt, .rem (.arg 1) (.int 100), .int 40, true), (.le, .arg 1, .int 3939, true), (.lt, .arg 1, .int 0, false)], [])]
def mbaE_rs : List yR := [(some (.int (Int32.ofInt (-1000001))), [(341, .int 1, .add (.arg 400) (.int 1)), (338, .int 3, .index 341)], [(.lt, .arg 1, .int 0, true)], [(341, .int 1)]),
  (some (.int (Int32.ofInt (-1000001))), [(341, .int 1, .add (.arg 400) (.int 1)), (338, .int 3, .index 341)], [(.le, .arg 1, .int 3939, false), (.lt, .arg 1, .int 0, false)], [(341, .int 1)]),
  (some (.int (Int32.ofInt (-1000001))), [(341, .int 1, .add (.arg 400) (.int 1)), (338, .int 3, .index 341)], [(.lt, .rem (.arg 1) (.int 100), .int 40, false), (.le, .arg 1, .int 3939, true), (.lt, .arg 1, .int 0, false)], [(341, .int 1)])]
theorem mbaE_w : ywa mbaE_A mbaE_ss mbaE_rs = true := by decide +kernel
theorem mbaE_k : yis (yev mbaE_A 3000 60 216 [22] (0, [(0, .index 338), (1, .arg 1), (2, .arg 2), (3, .arg 3), (4, .arg 4), (5, .arg 5)], [], mbaE_O, mbaE_C, [])) mbaE_ss mbaE_rs = true := by decide +kernel
def mbaE_r (v1_ v2 v3 v4_ v5 v400 : Int32) (k_ : Nat) : Value := bif Nat.beq k_ 1 then .int v1_ else (bif Nat.beq k_ 2 then .int v2 else (bif Nat.beq k_ 3 then .int v3 else (bif Nat.beq k_ 4 then .int v4_ else (bif Nat.beq k_ 5 then .int v5 else (bif Nat.beq k_ 400 then .int v400 else (.int 0))))))
def mbaE_s (n_ : Nat) : Nat := 0
theorem mbaE {h_ : xH} {v1_ v2 v3 v4_ v5 v400 : Int32} (hs : sHp h_) (o0_ : bpat h_ 341 1 = some (.int v400)) : ∃ h', ysm h_ h' ∧ ((((v1_ - v1_ / (100 : Int32) * (100 : Int32)).toInt < (40 : Int32).toInt) ∧ (v1_.toInt ≤ (3939 : Int32).toInt) ∧ ((0 : Int32).toInt ≤ v1_.toInt) ∧ (∀ a_ j_ : Nat, bpat h' a_ j_ = bpat h_ a_ j_) ∧ (bldD 60 216 0 [(0, .index 338), (1, .int v1_), (2, .int v2), (3, .int v3), (4, .int v4_), (5, .int v5)] [] h_ 22 [(0, .index 338), (1, .int v1_), (2, .int v2), (3, .int v3), (4, .int v4_), (5, .int v5)] [.int v2, .index 338] h'))
  ∨ ((v1_.toInt < (0 : Int32).toInt) ∧ (bpat h' 341 1 = some (.int (v400 + (1 : Int32)))) ∧ (∀ a_ j_ : Nat, ¬ (a_ = 341 ∧ j_ = 1) → bpat h' a_ j_ = bpat h_ a_ j_) ∧ (∀ D_, 60 ≤ D_ → xrun D_ 216 0 [(0, .index 338), (1, .int v1_), (2, .int v2), (3, .int v3), (4, .int v4_), (5, .int v5)] [] h_ (some (.int (Int32.ofInt (-1000001))), h', [])))
  ∨ (((3939 : Int32).toInt < v1_.toInt) ∧ ((0 : Int32).toInt ≤ v1_.toInt) ∧ (bpat h' 341 1 = some (.int (v400 + (1 : Int32)))) ∧ (∀ a_ j_ : Nat, ¬ (a_ = 341 ∧ j_ = 1) → bpat h' a_ j_ = bpat h_ a_ j_) ∧ (∀ D_, 60 ≤ D_ → xrun D_ 216 0 [(0, .index 338), (1, .int v1_), (2, .int v2), (3, .int v3), (4, .int v4_), (5, .int v5)] [] h_ (some (.int (Int32.ofInt (-1000001))), h', [])))
  ∨ (((40 : Int32).toInt ≤ (v1_ - v1_ / (100 : Int32) * (100 : Int32)).toInt) ∧ (v1_.toInt ≤ (3939 : Int32).toInt) ∧ ((0 : Int32).toInt ≤ v1_.toInt) ∧ (bpat h' 341 1 = some (.int (v400 + (1 : Int32)))) ∧ (∀ a_ j_ : Nat, ¬ (a_ = 341 ∧ j_ = 1) → bpat h' a_ j_ = bpat h_ a_ j_) ∧ (∀ D_, 60 ≤ D_ → xrun D_ 216 0 [(0, .index 338), (1, .int v1_), (2, .int v2), (3, .int v3), (4, .int v4_), (5, .int v5)] [] h_ (some (.int (Int32.ofInt (-1000001))), h', [])))) := by
  have hA : yas mbaE_A (mbaE_r v1_ v2 v3 v4_ v5 v400) (yg mbaE_s) := ⟨fun q_ hq => absurd hq List.not_mem_nil, fun q_ hq => absurd hq List.not_mem_nil, fun q_ hq => absurd hq List.not_mem_nil, fun n_ hn => yg_lo hn, fun q_ hq => absurd hq List.not_mem_nil⟩
  have Hs : ysh mbaE_A.1 (yg mbaE_s) h_ := ysh_of2 hs (fun q_ hq => absurd hq List.not_mem_nil)
  have Ho : ymem (mbaE_r v1_ v2 v3 v4_ v5 v400) (yg mbaE_s) mbaE_O h_ := List.forall_mem_cons.mpr ⟨bpat_some (fxr_at hs.2 (show fxk fxl 338 3 = some 341 by decide +kernel)), List.forall_mem_cons.mpr ⟨bpat_some o0_, fun q_ hq => absurd hq List.not_mem_nil⟩⟩
  have HC : ∀ q_ ∈ mbaE_C, xhold (mbaE_r v1_ v2 v3 v4_ v5 v400) q_ := fun q_ hq => absurd hq List.not_mem_nil
  rcases yrun (yis_ok mbaE_k) hA Hs Ho HC with ⟨q_, hq, h', K_, G_⟩ | ⟨q_, hq, h', K_, G_⟩
  · have e_ := List.mem_singleton.mp hq
    subst e_
    exact ⟨h', yfr_sm K_.2.2.2 hs K_.1 (ywa_s mbaE_w List.mem_cons_self), Or.inl (⟨xq_ltT rfl rfl (K_.2.2.1 _ List.mem_cons_self), xq_leT rfl rfl (K_.2.2.1 _ (List.mem_cons_of_mem _ List.mem_cons_self)), xq_ltF rfl rfl (K_.2.2.1 _ (List.mem_cons_of_mem _ (List.mem_cons_of_mem _ List.mem_cons_self))), fun a_ j_ => yfr_bp K_.2.2.2 (fun q_ hq => absurd hq List.not_mem_nil), G_⟩)⟩
  · rcases List.mem_cons.mp hq with e_ | hq
    · subst e_
      exact ⟨h', yfr_sm K_.2.2.2 hs K_.1 (ywa_r mbaE_w List.mem_cons_self), Or.inr (Or.inl (⟨xq_ltT rfl rfl (K_.2.2.1 _ List.mem_cons_self), bpat_of (K_.2.1 _ List.mem_cons_self), fun a_ j_ n0_ => yfr_bp K_.2.2.2 (List.forall_mem_cons.mpr ⟨fun e_ => n0_ ⟨e_.1.symm, e_.2.symm⟩, fun q_ hq => absurd hq List.not_mem_nil⟩), G_⟩))⟩
    rcases List.mem_cons.mp hq with e_ | hq
    · subst e_
      exact ⟨h', yfr_sm K_.2.2.2 hs K_.1 (ywa_r mbaE_w (List.mem_cons_of_mem _ List.mem_cons_self)), Or.inr (Or.inr (Or.inl (⟨xq_leF rfl rfl (K_.2.2.1 _ List.mem_cons_self), xq_ltF rfl rfl (K_.2.2.1 _ (List.mem_cons_of_mem _ List.mem_cons_self)), bpat_of (K_.2.1 _ List.mem_cons_self), fun a_ j_ n0_ => yfr_bp K_.2.2.2 (List.forall_mem_cons.mpr ⟨fun e_ => n0_ ⟨e_.1.symm, e_.2.symm⟩, fun q_ hq => absurd hq List.not_mem_nil⟩), G_⟩)))⟩
    have e_ := List.mem_singleton.mp hq
    subst e_
    exact ⟨h', yfr_sm K_.2.2.2 hs K_.1 (ywa_r mbaE_w (List.mem_cons_of_mem _ (List.mem_cons_of_mem _ List.mem_cons_self))), Or.inr (Or.inr (Or.inr (⟨xq_ltF rfl rfl (K_.2.2.1 _ List.mem_cons_self), xq_leT rfl rfl (K_.2.2.1 _ (List.mem_cons_of_mem _ List.mem_cons_self)), xq_ltF rfl rfl (K_.2.2.1 _ (List.mem_cons_of_mem _ (List.mem_cons_of_mem _ List.mem_cons_self))), bpat_of (K_.2.1 _ List.mem_cons_self), fun a_ j_ n0_ => yfr_bp K_.2.2.2 (List.forall_mem_cons.mpr ⟨fun e_ => n0_ ⟨e_.1.symm, e_.2.symm⟩, fun q_ hq => absurd hq List.not_mem_nil⟩), G_⟩)))⟩
-- mbaF: 3 steps, 1 ends, 0 returns
def mbaF_L : List (Nat × Nat × Nat) := []
def mbaF_O : yO := []
def mbaF_A : yA := (yZ mbaF_L, [], [], [], [])
def mbaF_C : List xB := []
def mbaF_ss : List yS := [(30, [(0, .index 338), (1, .arg 1), (2, .arg 2), (3, .arg 3), (4, .arg 4), (5, .arg 5)], [.arg 3, .index 338], [], [], [])]
def mbaF_rs : List yR := []
theorem mbaF_w : ywa mbaF_A mbaF_ss mbaF_rs = true := by decide +kernel
theorem mbaF_k : yis (yev mbaF_A 3000 60 216 [30] (25, [(0, .index 338), (1, .arg 1), (2, .arg 2), (3, .arg 3), (4, .arg 4), (5, .arg 5)], [.int 1], mbaF_O, mbaF_C, [])) mbaF_ss mbaF_rs = true := by decide +kernel
def mbaF_r (v1_ v2 v3 v4_ v5 : Int32) (k_ : Nat) : Value := bif Nat.beq k_ 1 then .int v1_ else (bif Nat.beq k_ 2 then .int v2 else (bif Nat.beq k_ 3 then .int v3 else (bif Nat.beq k_ 4 then .int v4_ else (bif Nat.beq k_ 5 then .int v5 else (.int 0)))))
def mbaF_s (n_ : Nat) : Nat := 0
theorem mbaF {h_ : xH} {v1_ v2 v3 v4_ v5 : Int32} (hs : sHp h_) : ∃ h', ysm h_ h' ∧ (((∀ a_ j_ : Nat, bpat h' a_ j_ = bpat h_ a_ j_) ∧ (bldD 60 216 25 [(0, .index 338), (1, .int v1_), (2, .int v2), (3, .int v3), (4, .int v4_), (5, .int v5)] [.int (1 : Int32)] h_ 30 [(0, .index 338), (1, .int v1_), (2, .int v2), (3, .int v3), (4, .int v4_), (5, .int v5)] [.int v3, .index 338] h'))) := by
  have hA : yas mbaF_A (mbaF_r v1_ v2 v3 v4_ v5) (yg mbaF_s) := ⟨fun q_ hq => absurd hq List.not_mem_nil, fun q_ hq => absurd hq List.not_mem_nil, fun q_ hq => absurd hq List.not_mem_nil, fun n_ hn => yg_lo hn, fun q_ hq => absurd hq List.not_mem_nil⟩
  have Hs : ysh mbaF_A.1 (yg mbaF_s) h_ := ysh_of2 hs (fun q_ hq => absurd hq List.not_mem_nil)
  have Ho : ymem (mbaF_r v1_ v2 v3 v4_ v5) (yg mbaF_s) mbaF_O h_ := fun q_ hq => absurd hq List.not_mem_nil
  have HC : ∀ q_ ∈ mbaF_C, xhold (mbaF_r v1_ v2 v3 v4_ v5) q_ := fun q_ hq => absurd hq List.not_mem_nil
  rcases yrun (yis_ok mbaF_k) hA Hs Ho HC with ⟨q_, hq, h', K_, G_⟩ | ⟨q_, hq, h', K_, G_⟩
  · have e_ := List.mem_singleton.mp hq
    subst e_
    exact ⟨h', yfr_sm K_.2.2.2 hs K_.1 (ywa_s mbaF_w List.mem_cons_self), ⟨fun a_ j_ => yfr_bp K_.2.2.2 (fun q_ hq => absurd hq List.not_mem_nil), G_⟩⟩
  · cases hq
-- mbaG: 21 steps, 0 ends, 1 returns
def mbaG_L : List (Nat × Nat × Nat) := []
def mbaG_O : yO := [(338, .int 3, .index 341), (341, .int 1, .arg 400)]
def mbaG_A : yA := (yZ mbaG_L, [], [], [], [])
def mbaG_C : List xB := []
def mbaG_ss : List yS := []
def mbaG_rs : List yR := [(some (.int (Int32.ofInt (-1000001))), [(341, .int 1, .add (.arg 400) (.int 1)), (338, .int 3, .index 341)], [], [(341, .int 1)])]
theorem mbaG_w : ywa mbaG_A mbaG_ss mbaG_rs = true := by decide +kernel
theorem mbaG_k : yis (yev mbaG_A 3000 60 216 [] (25, [(0, .index 338), (1, .arg 1), (2, .arg 2), (3, .arg 3), (4, .arg 4), (5, .arg 5)], [.int 0], mbaG_O, mbaG_C, [])) mbaG_ss mbaG_rs = true := by decide +kernel
def mbaG_r (v1_ v2 v3 v4_ v5 v400 : Int32) (k_ : Nat) : Value := bif Nat.beq k_ 1 then .int v1_ else (bif Nat.beq k_ 2 then .int v2 else (bif Nat.beq k_ 3 then .int v3 else (bif Nat.beq k_ 4 then .int v4_ else (bif Nat.beq k_ 5 then .int v5 else (bif Nat.beq k_ 400 then .int v400 else (.int 0))))))
def mbaG_s (n_ : Nat) : Nat := 0
theorem mbaG {h_ : xH} {v1_ v2 v3 v4_ v5 v400 : Int32} (hs : sHp h_) (o0_ : bpat h_ 341 1 = some (.int v400)) : ∃ h', ysm h_ h' ∧ (((bpat h' 341 1 = some (.int (v400 + (1 : Int32)))) ∧ (∀ a_ j_ : Nat, ¬ (a_ = 341 ∧ j_ = 1) → bpat h' a_ j_ = bpat h_ a_ j_) ∧ (∀ D_, 60 ≤ D_ → xrun D_ 216 25 [(0, .index 338), (1, .int v1_), (2, .int v2), (3, .int v3), (4, .int v4_), (5, .int v5)] [.int (0 : Int32)] h_ (some (.int (Int32.ofInt (-1000001))), h', [])))) := by
  have hA : yas mbaG_A (mbaG_r v1_ v2 v3 v4_ v5 v400) (yg mbaG_s) := ⟨fun q_ hq => absurd hq List.not_mem_nil, fun q_ hq => absurd hq List.not_mem_nil, fun q_ hq => absurd hq List.not_mem_nil, fun n_ hn => yg_lo hn, fun q_ hq => absurd hq List.not_mem_nil⟩
  have Hs : ysh mbaG_A.1 (yg mbaG_s) h_ := ysh_of2 hs (fun q_ hq => absurd hq List.not_mem_nil)
  have Ho : ymem (mbaG_r v1_ v2 v3 v4_ v5 v400) (yg mbaG_s) mbaG_O h_ := List.forall_mem_cons.mpr ⟨bpat_some (fxr_at hs.2 (show fxk fxl 338 3 = some 341 by decide +kernel)), List.forall_mem_cons.mpr ⟨bpat_some o0_, fun q_ hq => absurd hq List.not_mem_nil⟩⟩
  have HC : ∀ q_ ∈ mbaG_C, xhold (mbaG_r v1_ v2 v3 v4_ v5 v400) q_ := fun q_ hq => absurd hq List.not_mem_nil
  rcases yrun (yis_ok mbaG_k) hA Hs Ho HC with ⟨q_, hq, h', K_, G_⟩ | ⟨q_, hq, h', K_, G_⟩
  · cases hq
  · have e_ := List.mem_singleton.mp hq
    subst e_
    exact ⟨h', yfr_sm K_.2.2.2 hs K_.1 (ywa_r mbaG_w List.mem_cons_self), ⟨bpat_of (K_.2.1 _ List.mem_cons_self), fun a_ j_ n0_ => yfr_bp K_.2.2.2 (List.forall_mem_cons.mpr ⟨fun e_ => n0_ ⟨e_.1.symm, e_.2.symm⟩, fun q_ hq => absurd hq List.not_mem_nil⟩), G_⟩⟩
-- mbaH: 132 steps, 1 ends, 4 returns
def mbaH_L : List (Nat × Nat × Nat) := []
def mbaH_O : yO := [(338, .int 3, .index 341), (341, .int 1, .arg 400)]
def mbaH_A : yA := (yZ mbaH_L, [], [], [], [])
def mbaH_C : List xB := []
def mbaH_ss : List yS := [(110, [(13, .int 0), (12, .int (Int32.ofInt (-1))), (11, .int (Int32.ofInt (-1))), (10, .sub (.div (.arg 1) (.int 100)) (.int 20)), (9, .sub (.rem (.arg 1) (.int 100)) (.int 20)), (8, .sub (.rem (.arg 1) (.int 100)) (.int 20)), (7, .sub (.div (.arg 1) (.int 100)) (.int 20)), (6, .int 1), (0, .index 338), (1, .arg 1), (2, .arg 2), (3, .arg 3), (4, .arg 4), (5, .arg 5)], [], [(338, .int 3, .index 341), (341, .int 1, .arg 400)], [(.le, .arg 5, .int 3, true), (.lt, .arg 5, .int 0, false), (.le, .arg 4, .int 60, true), (.lt, .arg 4, .int 1, false)], [])]
def mbaH_rs : List yR := [(some (.int (Int32.ofInt (-1000001))), [(341, .int 1, .add (.arg 400) (.int 1)), (338, .int 3, .index 341)], [(.lt, .arg 4, .int 1, true)], [(341, .int 1)]),
  (some (.int (Int32.ofInt (-1000001))), [(341, .int 1, .add (.arg 400) (.int 1)), (338, .int 3, .index 341)], [(.le, .arg 4, .int 60, false), (.lt, .arg 4, .int 1, false)], [(341, .int 1)]),
  (some (.int (Int32.ofInt (-1000001))), [(341, .int 1, .add (.arg 400) (.int 1)), (338, .int 3, .index 341)], [(.lt, .arg 5, .int 0, true), (.le, .arg 4, .int 60, true), (.lt, .arg 4, .int 1, false)], [(341, .int 1)]),
  (some (.int (Int32.ofInt (-1000001))), [(341, .int 1, .add (.arg 400) (.int 1)), (338, .int 3, .index 341)], [(.le, .arg 5, .int 3, false), (.lt, .arg 5, .int 0, false), (.le, .arg 4, .int 60, true), (.lt, .arg 4, .int 1, false)], [(341, .int 1)])]
theorem mbaH_w : ywa mbaH_A mbaH_ss mbaH_rs = true := by decide +kernel
theorem mbaH_k : yis (yev mbaH_A 3000 60 216 [110] (33, [(0, .index 338), (1, .arg 1), (2, .arg 2), (3, .arg 3), (4, .arg 4), (5, .arg 5)], [.int 1], mbaH_O, mbaH_C, [])) mbaH_ss mbaH_rs = true := by decide +kernel
def mbaH_r (v1_ v2 v3 v4_ v5 v400 : Int32) (k_ : Nat) : Value := bif Nat.beq k_ 1 then .int v1_ else (bif Nat.beq k_ 2 then .int v2 else (bif Nat.beq k_ 3 then .int v3 else (bif Nat.beq k_ 4 then .int v4_ else (bif Nat.beq k_ 5 then .int v5 else (bif Nat.beq k_ 400 then .int v400 else (.int 0))))))
def mbaH_s (n_ : Nat) : Nat := 0
theorem mbaH {h_ : xH} {v1_ v2 v3 v4_ v5 v400 : Int32} (hs : sHp h_) (o0_ : bpat h_ 341 1 = some (.int v400)) : ∃ h', ysm h_ h' ∧ (((v5.toInt ≤ (3 : Int32).toInt) ∧ ((0 : Int32).toInt ≤ v5.toInt) ∧ (v4_.toInt ≤ (60 : Int32).toInt) ∧ ((1 : Int32).toInt ≤ v4_.toInt) ∧ (∀ a_ j_ : Nat, bpat h' a_ j_ = bpat h_ a_ j_) ∧ (bldD 60 216 33 [(0, .index 338), (1, .int v1_), (2, .int v2), (3, .int v3), (4, .int v4_), (5, .int v5)] [.int (1 : Int32)] h_ 110 [(13, .int (0 : Int32)), (12, .int (Int32.ofInt (-1))), (11, .int (Int32.ofInt (-1))), (10, .int ((v1_ / (100 : Int32)) - (20 : Int32))), (9, .int ((v1_ - v1_ / (100 : Int32) * (100 : Int32)) - (20 : Int32))), (8, .int ((v1_ - v1_ / (100 : Int32) * (100 : Int32)) - (20 : Int32))), (7, .int ((v1_ / (100 : Int32)) - (20 : Int32))), (6, .int (1 : Int32)), (0, .index 338), (1, .int v1_), (2, .int v2), (3, .int v3), (4, .int v4_), (5, .int v5)] [] h'))
  ∨ ((v4_.toInt < (1 : Int32).toInt) ∧ (bpat h' 341 1 = some (.int (v400 + (1 : Int32)))) ∧ (∀ a_ j_ : Nat, ¬ (a_ = 341 ∧ j_ = 1) → bpat h' a_ j_ = bpat h_ a_ j_) ∧ (∀ D_, 60 ≤ D_ → xrun D_ 216 33 [(0, .index 338), (1, .int v1_), (2, .int v2), (3, .int v3), (4, .int v4_), (5, .int v5)] [.int (1 : Int32)] h_ (some (.int (Int32.ofInt (-1000001))), h', [])))
  ∨ (((60 : Int32).toInt < v4_.toInt) ∧ ((1 : Int32).toInt ≤ v4_.toInt) ∧ (bpat h' 341 1 = some (.int (v400 + (1 : Int32)))) ∧ (∀ a_ j_ : Nat, ¬ (a_ = 341 ∧ j_ = 1) → bpat h' a_ j_ = bpat h_ a_ j_) ∧ (∀ D_, 60 ≤ D_ → xrun D_ 216 33 [(0, .index 338), (1, .int v1_), (2, .int v2), (3, .int v3), (4, .int v4_), (5, .int v5)] [.int (1 : Int32)] h_ (some (.int (Int32.ofInt (-1000001))), h', [])))
  ∨ ((v5.toInt < (0 : Int32).toInt) ∧ (v4_.toInt ≤ (60 : Int32).toInt) ∧ ((1 : Int32).toInt ≤ v4_.toInt) ∧ (bpat h' 341 1 = some (.int (v400 + (1 : Int32)))) ∧ (∀ a_ j_ : Nat, ¬ (a_ = 341 ∧ j_ = 1) → bpat h' a_ j_ = bpat h_ a_ j_) ∧ (∀ D_, 60 ≤ D_ → xrun D_ 216 33 [(0, .index 338), (1, .int v1_), (2, .int v2), (3, .int v3), (4, .int v4_), (5, .int v5)] [.int (1 : Int32)] h_ (some (.int (Int32.ofInt (-1000001))), h', [])))
  ∨ (((3 : Int32).toInt < v5.toInt) ∧ ((0 : Int32).toInt ≤ v5.toInt) ∧ (v4_.toInt ≤ (60 : Int32).toInt) ∧ ((1 : Int32).toInt ≤ v4_.toInt) ∧ (bpat h' 341 1 = some (.int (v400 + (1 : Int32)))) ∧ (∀ a_ j_ : Nat, ¬ (a_ = 341 ∧ j_ = 1) → bpat h' a_ j_ = bpat h_ a_ j_) ∧ (∀ D_, 60 ≤ D_ → xrun D_ 216 33 [(0, .index 338), (1, .int v1_), (2, .int v2), (3, .int v3), (4, .int v4_), (5, .int v5)] [.int (1 : Int32)] h_ (some (.int (Int32.ofInt (-1000001))), h', [])))) := by
  have hA : yas mbaH_A (mbaH_r v1_ v2 v3 v4_ v5 v400) (yg mbaH_s) := ⟨fun q_ hq => absurd hq List.not_mem_nil, fun q_ hq => absurd hq List.not_mem_nil, fun q_ hq => absurd hq List.not_mem_nil, fun n_ hn => yg_lo hn, fun q_ hq => absurd hq List.not_mem_nil⟩
  have Hs : ysh mbaH_A.1 (yg mbaH_s) h_ := ysh_of2 hs (fun q_ hq => absurd hq List.not_mem_nil)
  have Ho : ymem (mbaH_r v1_ v2 v3 v4_ v5 v400) (yg mbaH_s) mbaH_O h_ := List.forall_mem_cons.mpr ⟨bpat_some (fxr_at hs.2 (show fxk fxl 338 3 = some 341 by decide +kernel)), List.forall_mem_cons.mpr ⟨bpat_some o0_, fun q_ hq => absurd hq List.not_mem_nil⟩⟩
  have HC : ∀ q_ ∈ mbaH_C, xhold (mbaH_r v1_ v2 v3 v4_ v5 v400) q_ := fun q_ hq => absurd hq List.not_mem_nil
  rcases yrun (yis_ok mbaH_k) hA Hs Ho HC with ⟨q_, hq, h', K_, G_⟩ | ⟨q_, hq, h', K_, G_⟩
  · have e_ := List.mem_singleton.mp hq
    subst e_
    exact ⟨h', yfr_sm K_.2.2.2 hs K_.1 (ywa_s mbaH_w List.mem_cons_self), Or.inl (⟨xq_leT rfl rfl (K_.2.2.1 _ List.mem_cons_self), xq_ltF rfl rfl (K_.2.2.1 _ (List.mem_cons_of_mem _ List.mem_cons_self)), xq_leT rfl rfl (K_.2.2.1 _ (List.mem_cons_of_mem _ (List.mem_cons_of_mem _ List.mem_cons_self))), xq_ltF rfl rfl (K_.2.2.1 _ (List.mem_cons_of_mem _ (List.mem_cons_of_mem _ (List.mem_cons_of_mem _ List.mem_cons_self)))), fun a_ j_ => yfr_bp K_.2.2.2 (fun q_ hq => absurd hq List.not_mem_nil), G_⟩)⟩
  · rcases List.mem_cons.mp hq with e_ | hq
    · subst e_
      exact ⟨h', yfr_sm K_.2.2.2 hs K_.1 (ywa_r mbaH_w List.mem_cons_self), Or.inr (Or.inl (⟨xq_ltT rfl rfl (K_.2.2.1 _ List.mem_cons_self), bpat_of (K_.2.1 _ List.mem_cons_self), fun a_ j_ n0_ => yfr_bp K_.2.2.2 (List.forall_mem_cons.mpr ⟨fun e_ => n0_ ⟨e_.1.symm, e_.2.symm⟩, fun q_ hq => absurd hq List.not_mem_nil⟩), G_⟩))⟩
    rcases List.mem_cons.mp hq with e_ | hq
    · subst e_
      exact ⟨h', yfr_sm K_.2.2.2 hs K_.1 (ywa_r mbaH_w (List.mem_cons_of_mem _ List.mem_cons_self)), Or.inr (Or.inr (Or.inl (⟨xq_leF rfl rfl (K_.2.2.1 _ List.mem_cons_self), xq_ltF rfl rfl (K_.2.2.1 _ (List.mem_cons_of_mem _ List.mem_cons_self)), bpat_of (K_.2.1 _ List.mem_cons_self), fun a_ j_ n0_ => yfr_bp K_.2.2.2 (List.forall_mem_cons.mpr ⟨fun e_ => n0_ ⟨e_.1.symm, e_.2.symm⟩, fun q_ hq => absurd hq List.not_mem_nil⟩), G_⟩)))⟩
    rcases List.mem_cons.mp hq with e_ | hq
    · subst e_
      exact ⟨h', yfr_sm K_.2.2.2 hs K_.1 (ywa_r mbaH_w (List.mem_cons_of_mem _ (List.mem_cons_of_mem _ List.mem_cons_self))), Or.inr (Or.inr (Or.inr (Or.inl (⟨xq_ltT rfl rfl (K_.2.2.1 _ List.mem_cons_self), xq_leT rfl rfl (K_.2.2.1 _ (List.mem_cons_of_mem _ List.mem_cons_self)), xq_ltF rfl rfl (K_.2.2.1 _ (List.mem_cons_of_mem _ (List.mem_cons_of_mem _ List.mem_cons_self))), bpat_of (K_.2.1 _ List.mem_cons_self), fun a_ j_ n0_ => yfr_bp K_.2.2.2 (List.forall_mem_cons.mpr ⟨fun e_ => n0_ ⟨e_.1.symm, e_.2.symm⟩, fun q_ hq => absurd hq List.not_mem_nil⟩), G_⟩))))⟩
    have e_ := List.mem_singleton.mp hq
    subst e_
    exact ⟨h', yfr_sm K_.2.2.2 hs K_.1 (ywa_r mbaH_w (List.mem_cons_of_mem _ (List.mem_cons_of_mem _ (List.mem_cons_of_mem _ List.mem_cons_self)))), Or.inr (Or.inr (Or.inr (Or.inr (⟨xq_leF rfl rfl (K_.2.2.1 _ List.mem_cons_self), xq_ltF rfl rfl (K_.2.2.1 _ (List.mem_cons_of_mem _ List.mem_cons_self)), xq_leT rfl rfl (K_.2.2.1 _ (List.mem_cons_of_mem _ (List.mem_cons_of_mem _ List.mem_cons_self))), xq_ltF rfl rfl (K_.2.2.1 _ (List.mem_cons_of_mem _ (List.mem_cons_of_mem _ (List.mem_cons_of_mem _ List.mem_cons_self)))), bpat_of (K_.2.1 _ List.mem_cons_self), fun a_ j_ n0_ => yfr_bp K_.2.2.2 (List.forall_mem_cons.mpr ⟨fun e_ => n0_ ⟨e_.1.symm, e_.2.symm⟩, fun q_ hq => absurd hq List.not_mem_nil⟩), G_⟩))))⟩
-- mbaI: 21 steps, 0 ends, 1 returns
def mbaI_L : List (Nat × Nat × Nat) := []
def mbaI_O : yO := [(338, .int 3, .index 341), (341, .int 1, .arg 400)]
def mbaI_A : yA := (yZ mbaI_L, [], [], [], [])
def mbaI_C : List xB := []
def mbaI_ss : List yS := []
def mbaI_rs : List yR := [(some (.int (Int32.ofInt (-1000001))), [(341, .int 1, .add (.arg 400) (.int 1)), (338, .int 3, .index 341)], [], [(341, .int 1)])]
theorem mbaI_w : ywa mbaI_A mbaI_ss mbaI_rs = true := by decide +kernel
theorem mbaI_k : yis (yev mbaI_A 3000 60 216 [] (33, [(0, .index 338), (1, .arg 1), (2, .arg 2), (3, .arg 3), (4, .arg 4), (5, .arg 5)], [.int 0], mbaI_O, mbaI_C, [])) mbaI_ss mbaI_rs = true := by decide +kernel
def mbaI_r (v1_ v2 v3 v4_ v5 v400 : Int32) (k_ : Nat) : Value := bif Nat.beq k_ 1 then .int v1_ else (bif Nat.beq k_ 2 then .int v2 else (bif Nat.beq k_ 3 then .int v3 else (bif Nat.beq k_ 4 then .int v4_ else (bif Nat.beq k_ 5 then .int v5 else (bif Nat.beq k_ 400 then .int v400 else (.int 0))))))
def mbaI_s (n_ : Nat) : Nat := 0
theorem mbaI {h_ : xH} {v1_ v2 v3 v4_ v5 v400 : Int32} (hs : sHp h_) (o0_ : bpat h_ 341 1 = some (.int v400)) : ∃ h', ysm h_ h' ∧ (((bpat h' 341 1 = some (.int (v400 + (1 : Int32)))) ∧ (∀ a_ j_ : Nat, ¬ (a_ = 341 ∧ j_ = 1) → bpat h' a_ j_ = bpat h_ a_ j_) ∧ (∀ D_, 60 ≤ D_ → xrun D_ 216 33 [(0, .index 338), (1, .int v1_), (2, .int v2), (3, .int v3), (4, .int v4_), (5, .int v5)] [.int (0 : Int32)] h_ (some (.int (Int32.ofInt (-1000001))), h', [])))) := by
  have hA : yas mbaI_A (mbaI_r v1_ v2 v3 v4_ v5 v400) (yg mbaI_s) := ⟨fun q_ hq => absurd hq List.not_mem_nil, fun q_ hq => absurd hq List.not_mem_nil, fun q_ hq => absurd hq List.not_mem_nil, fun n_ hn => yg_lo hn, fun q_ hq => absurd hq List.not_mem_nil⟩
  have Hs : ysh mbaI_A.1 (yg mbaI_s) h_ := ysh_of2 hs (fun q_ hq => absurd hq List.not_mem_nil)
  have Ho : ymem (mbaI_r v1_ v2 v3 v4_ v5 v400) (yg mbaI_s) mbaI_O h_ := List.forall_mem_cons.mpr ⟨bpat_some (fxr_at hs.2 (show fxk fxl 338 3 = some 341 by decide +kernel)), List.forall_mem_cons.mpr ⟨bpat_some o0_, fun q_ hq => absurd hq List.not_mem_nil⟩⟩
  have HC : ∀ q_ ∈ mbaI_C, xhold (mbaI_r v1_ v2 v3 v4_ v5 v400) q_ := fun q_ hq => absurd hq List.not_mem_nil
  rcases yrun (yis_ok mbaI_k) hA Hs Ho HC with ⟨q_, hq, h', K_, G_⟩ | ⟨q_, hq, h', K_, G_⟩
  · cases hq
  · have e_ := List.mem_singleton.mp hq
    subst e_
    exact ⟨h', yfr_sm K_.2.2.2 hs K_.1 (ywa_r mbaI_w List.mem_cons_self), ⟨bpat_of (K_.2.1 _ List.mem_cons_self), fun a_ j_ n0_ => yfr_bp K_.2.2.2 (List.forall_mem_cons.mpr ⟨fun e_ => n0_ ⟨e_.1.symm, e_.2.symm⟩, fun q_ hq => absurd hq List.not_mem_nil⟩), G_⟩⟩
-- mbaTA: 10 steps, 1 ends, 0 returns
def mbaTA_L : List (Nat × Nat × Nat) := []
def mbaTA_O : yO := []
def mbaTA_A : yA := (yZ mbaTA_L, [], [], [], [])
def mbaTA_C : List xB := [(.eq, .arg 11, .int (Int32.ofInt (-1)), true), (.lt, .arg 13, .arg 4, true)]
def mbaTA_ss : List yS := [(129, [(13, .arg 13), (12, .arg 12), (11, .arg 11), (10, .arg 10), (9, .arg 9), (8, .arg 8), (7, .arg 7), (6, .int 1), (0, .index 338), (1, .arg 1), (2, .arg 2), (3, .arg 3), (4, .arg 4), (5, .arg 5)], [.arg 9, .arg 2, .arg 7, .index 338], [], [(.eq, .arg 11, .int (Int32.ofInt (-1)), true), (.lt, .arg 13, .arg 4, true)], [])]
def mbaTA_rs : List yR := []
theorem mbaTA_w : ywa mbaTA_A mbaTA_ss mbaTA_rs = true := by decide +kernel
theorem mbaTA_k : yis (yev mbaTA_A 3000 60 216 [129] (110, [(13, .arg 13), (12, .arg 12), (11, .arg 11), (10, .arg 10), (9, .arg 9), (8, .arg 8), (7, .arg 7), (6, .int 1), (0, .index 338), (1, .arg 1), (2, .arg 2), (3, .arg 3), (4, .arg 4), (5, .arg 5)], [], mbaTA_O, mbaTA_C, [])) mbaTA_ss mbaTA_rs = true := by decide +kernel
def mbaTA_r (v1_ v2 v3 v4_ v5 v7 v8 v9 v10 v11 v12 v13 : Int32) (k_ : Nat) : Value := bif Nat.beq k_ 1 then .int v1_ else (bif Nat.beq k_ 2 then .int v2 else (bif Nat.beq k_ 3 then .int v3 else (bif Nat.beq k_ 4 then .int v4_ else (bif Nat.beq k_ 5 then .int v5 else (bif Nat.beq k_ 7 then .int v7 else (bif Nat.beq k_ 8 then .int v8 else (bif Nat.beq k_ 9 then .int v9 else (bif Nat.beq k_ 10 then .int v10 else (bif Nat.beq k_ 11 then .int v11 else (bif Nat.beq k_ 12 then .int v12 else (bif Nat.beq k_ 13 then .int v13 else (.int 0))))))))))))
def mbaTA_s (n_ : Nat) : Nat := 0
theorem mbaTA {h_ : xH} {v1_ v2 v3 v4_ v5 v7 v8 v9 v10 v11 v12 v13 : Int32} (hs : sHp h_) (c0_ : v11 = (Int32.ofInt (-1))) (c1_ : v13.toInt < v4_.toInt) : ∃ h', ysm h_ h' ∧ (((∀ a_ j_ : Nat, bpat h' a_ j_ = bpat h_ a_ j_) ∧ (bldD 60 216 110 [(13, .int v13), (12, .int v12), (11, .int v11), (10, .int v10), (9, .int v9), (8, .int v8), (7, .int v7), (6, .int (1 : Int32)), (0, .index 338), (1, .int v1_), (2, .int v2), (3, .int v3), (4, .int v4_), (5, .int v5)] [] h_ 129 [(13, .int v13), (12, .int v12), (11, .int v11), (10, .int v10), (9, .int v9), (8, .int v8), (7, .int v7), (6, .int (1 : Int32)), (0, .index 338), (1, .int v1_), (2, .int v2), (3, .int v3), (4, .int v4_), (5, .int v5)] [.int v9, .int v2, .int v7, .index 338] h'))) := by
  have hA : yas mbaTA_A (mbaTA_r v1_ v2 v3 v4_ v5 v7 v8 v9 v10 v11 v12 v13) (yg mbaTA_s) := ⟨fun q_ hq => absurd hq List.not_mem_nil, fun q_ hq => absurd hq List.not_mem_nil, fun q_ hq => absurd hq List.not_mem_nil, fun n_ hn => yg_lo hn, fun q_ hq => absurd hq List.not_mem_nil⟩
  have Hs : ysh mbaTA_A.1 (yg mbaTA_s) h_ := ysh_of2 hs (fun q_ hq => absurd hq List.not_mem_nil)
  have Ho : ymem (mbaTA_r v1_ v2 v3 v4_ v5 v7 v8 v9 v10 v11 v12 v13) (yg mbaTA_s) mbaTA_O h_ := fun q_ hq => absurd hq List.not_mem_nil
  have HC : ∀ q_ ∈ mbaTA_C, xhold (mbaTA_r v1_ v2 v3 v4_ v5 v7 v8 v9 v10 v11 v12 v13) q_ := List.forall_mem_cons.mpr ⟨xh_eqT2 c0_, List.forall_mem_cons.mpr ⟨xh_ltT c1_, fun q_ hq => absurd hq List.not_mem_nil⟩⟩
  rcases yrun (yis_ok mbaTA_k) hA Hs Ho HC with ⟨q_, hq, h', K_, G_⟩ | ⟨q_, hq, h', K_, G_⟩
  · have e_ := List.mem_singleton.mp hq
    subst e_
    exact ⟨h', yfr_sm K_.2.2.2 hs K_.1 (ywa_s mbaTA_w List.mem_cons_self), ⟨fun a_ j_ => yfr_bp K_.2.2.2 (fun q_ hq => absurd hq List.not_mem_nil), G_⟩⟩
  · cases hq
-- mbaUA: 5 steps, 1 ends, 0 returns
def mbaUA_L : List (Nat × Nat × Nat) := []
def mbaUA_O : yO := []
def mbaUA_A : yA := (yZ mbaUA_L, [], [], [], [])
def mbaUA_C : List xB := []
def mbaUA_ss : List yS := [(140, [(9, .arg 20), (13, .arg 13), (12, .arg 12), (11, .arg 11), (10, .arg 10), (8, .arg 8), (7, .arg 7), (6, .int 1), (0, .index 338), (1, .arg 1), (2, .arg 2), (3, .arg 3), (4, .arg 4), (5, .arg 5)], [.arg 10, .arg 3, .arg 8, .index 338], [], [], [])]
def mbaUA_rs : List yR := []
theorem mbaUA_w : ywa mbaUA_A mbaUA_ss mbaUA_rs = true := by decide +kernel
theorem mbaUA_k : yis (yev mbaUA_A 3000 60 216 [140] (132, [(13, .arg 13), (12, .arg 12), (11, .arg 11), (10, .arg 10), (9, .arg 9), (8, .arg 8), (7, .arg 7), (6, .int 1), (0, .index 338), (1, .arg 1), (2, .arg 2), (3, .arg 3), (4, .arg 4), (5, .arg 5)], [.arg 20], mbaUA_O, mbaUA_C, [])) mbaUA_ss mbaUA_rs = true := by decide +kernel
def mbaUA_r (v1_ v2 v3 v4_ v5 v7 v8 v9 v10 v11 v12 v13 v20 : Int32) (k_ : Nat) : Value := bif Nat.beq k_ 1 then .int v1_ else (bif Nat.beq k_ 2 then .int v2 else (bif Nat.beq k_ 3 then .int v3 else (bif Nat.beq k_ 4 then .int v4_ else (bif Nat.beq k_ 5 then .int v5 else (bif Nat.beq k_ 7 then .int v7 else (bif Nat.beq k_ 8 then .int v8 else (bif Nat.beq k_ 9 then .int v9 else (bif Nat.beq k_ 10 then .int v10 else (bif Nat.beq k_ 11 then .int v11 else (bif Nat.beq k_ 12 then .int v12 else (bif Nat.beq k_ 13 then .int v13 else (bif Nat.beq k_ 20 then .int v20 else (.int 0)))))))))))))
def mbaUA_s (n_ : Nat) : Nat := 0
theorem mbaUA {h_ : xH} {v1_ v2 v3 v4_ v5 v7 v8 v9 v10 v11 v12 v13 v20 : Int32} (hs : sHp h_) : ∃ h', ysm h_ h' ∧ (((∀ a_ j_ : Nat, bpat h' a_ j_ = bpat h_ a_ j_) ∧ (bldD 60 216 132 [(13, .int v13), (12, .int v12), (11, .int v11), (10, .int v10), (9, .int v9), (8, .int v8), (7, .int v7), (6, .int (1 : Int32)), (0, .index 338), (1, .int v1_), (2, .int v2), (3, .int v3), (4, .int v4_), (5, .int v5)] [.int v20] h_ 140 [(9, .int v20), (13, .int v13), (12, .int v12), (11, .int v11), (10, .int v10), (8, .int v8), (7, .int v7), (6, .int (1 : Int32)), (0, .index 338), (1, .int v1_), (2, .int v2), (3, .int v3), (4, .int v4_), (5, .int v5)] [.int v10, .int v3, .int v8, .index 338] h'))) := by
  have hA : yas mbaUA_A (mbaUA_r v1_ v2 v3 v4_ v5 v7 v8 v9 v10 v11 v12 v13 v20) (yg mbaUA_s) := ⟨fun q_ hq => absurd hq List.not_mem_nil, fun q_ hq => absurd hq List.not_mem_nil, fun q_ hq => absurd hq List.not_mem_nil, fun n_ hn => yg_lo hn, fun q_ hq => absurd hq List.not_mem_nil⟩
  have Hs : ysh mbaUA_A.1 (yg mbaUA_s) h_ := ysh_of2 hs (fun q_ hq => absurd hq List.not_mem_nil)
  have Ho : ymem (mbaUA_r v1_ v2 v3 v4_ v5 v7 v8 v9 v10 v11 v12 v13 v20) (yg mbaUA_s) mbaUA_O h_ := fun q_ hq => absurd hq List.not_mem_nil
  have HC : ∀ q_ ∈ mbaUA_C, xhold (mbaUA_r v1_ v2 v3 v4_ v5 v7 v8 v9 v10 v11 v12 v13 v20) q_ := fun q_ hq => absurd hq List.not_mem_nil
  rcases yrun (yis_ok mbaUA_k) hA Hs Ho HC with ⟨q_, hq, h', K_, G_⟩ | ⟨q_, hq, h', K_, G_⟩
  · have e_ := List.mem_singleton.mp hq
    subst e_
    exact ⟨h', yfr_sm K_.2.2.2 hs K_.1 (ywa_s mbaUA_w List.mem_cons_self), ⟨fun a_ j_ => yfr_bp K_.2.2.2 (fun q_ hq => absurd hq List.not_mem_nil), G_⟩⟩
  · cases hq
-- mbaXA: 3 steps, 1 ends, 0 returns
def mbaXA_L : List (Nat × Nat × Nat) := []
def mbaXA_O : yO := []
def mbaXA_A : yA := (yZ mbaXA_L, [], [], [], [])
def mbaXA_C : List xB := [(.lt, .arg 13, .arg 4, false)]
def mbaXA_ss : List yS := [(248, [(13, .arg 13), (12, .arg 12), (11, .arg 11), (10, .arg 10), (9, .arg 9), (8, .arg 8), (7, .arg 7), (6, .int 1), (0, .index 338), (1, .arg 1), (2, .arg 2), (3, .arg 3), (4, .arg 4), (5, .arg 5)], [], [], [(.lt, .arg 13, .arg 4, false)], [])]
def mbaXA_rs : List yR := []
theorem mbaXA_w : ywa mbaXA_A mbaXA_ss mbaXA_rs = true := by decide +kernel
theorem mbaXA_k : yis (yev mbaXA_A 3000 60 216 [248] (110, [(13, .arg 13), (12, .arg 12), (11, .arg 11), (10, .arg 10), (9, .arg 9), (8, .arg 8), (7, .arg 7), (6, .int 1), (0, .index 338), (1, .arg 1), (2, .arg 2), (3, .arg 3), (4, .arg 4), (5, .arg 5)], [], mbaXA_O, mbaXA_C, [])) mbaXA_ss mbaXA_rs = true := by decide +kernel
def mbaXA_r (v1_ v2 v3 v4_ v5 v7 v8 v9 v10 v11 v12 v13 : Int32) (k_ : Nat) : Value := bif Nat.beq k_ 1 then .int v1_ else (bif Nat.beq k_ 2 then .int v2 else (bif Nat.beq k_ 3 then .int v3 else (bif Nat.beq k_ 4 then .int v4_ else (bif Nat.beq k_ 5 then .int v5 else (bif Nat.beq k_ 7 then .int v7 else (bif Nat.beq k_ 8 then .int v8 else (bif Nat.beq k_ 9 then .int v9 else (bif Nat.beq k_ 10 then .int v10 else (bif Nat.beq k_ 11 then .int v11 else (bif Nat.beq k_ 12 then .int v12 else (bif Nat.beq k_ 13 then .int v13 else (.int 0))))))))))))
def mbaXA_s (n_ : Nat) : Nat := 0
theorem mbaXA {h_ : xH} {v1_ v2 v3 v4_ v5 v7 v8 v9 v10 v11 v12 v13 : Int32} (hs : sHp h_) (c0_ : v4_.toInt ≤ v13.toInt) : ∃ h', ysm h_ h' ∧ (((∀ a_ j_ : Nat, bpat h' a_ j_ = bpat h_ a_ j_) ∧ (bldD 60 216 110 [(13, .int v13), (12, .int v12), (11, .int v11), (10, .int v10), (9, .int v9), (8, .int v8), (7, .int v7), (6, .int (1 : Int32)), (0, .index 338), (1, .int v1_), (2, .int v2), (3, .int v3), (4, .int v4_), (5, .int v5)] [] h_ 248 [(13, .int v13), (12, .int v12), (11, .int v11), (10, .int v10), (9, .int v9), (8, .int v8), (7, .int v7), (6, .int (1 : Int32)), (0, .index 338), (1, .int v1_), (2, .int v2), (3, .int v3), (4, .int v4_), (5, .int v5)] [] h'))) := by
  have hA : yas mbaXA_A (mbaXA_r v1_ v2 v3 v4_ v5 v7 v8 v9 v10 v11 v12 v13) (yg mbaXA_s) := ⟨fun q_ hq => absurd hq List.not_mem_nil, fun q_ hq => absurd hq List.not_mem_nil, fun q_ hq => absurd hq List.not_mem_nil, fun n_ hn => yg_lo hn, fun q_ hq => absurd hq List.not_mem_nil⟩
  have Hs : ysh mbaXA_A.1 (yg mbaXA_s) h_ := ysh_of2 hs (fun q_ hq => absurd hq List.not_mem_nil)
  have Ho : ymem (mbaXA_r v1_ v2 v3 v4_ v5 v7 v8 v9 v10 v11 v12 v13) (yg mbaXA_s) mbaXA_O h_ := fun q_ hq => absurd hq List.not_mem_nil
  have HC : ∀ q_ ∈ mbaXA_C, xhold (mbaXA_r v1_ v2 v3 v4_ v5 v7 v8 v9 v10 v11 v12 v13) q_ := List.forall_mem_cons.mpr ⟨xh_ltF c0_, fun q_ hq => absurd hq List.not_mem_nil⟩
  rcases yrun (yis_ok mbaXA_k) hA Hs Ho HC with ⟨q_, hq, h', K_, G_⟩ | ⟨q_, hq, h', K_, G_⟩
  · have e_ := List.mem_singleton.mp hq
    subst e_
    exact ⟨h', yfr_sm K_.2.2.2 hs K_.1 (ywa_s mbaXA_w List.mem_cons_self), ⟨fun a_ j_ => yfr_bp K_.2.2.2 (fun q_ hq => absurd hq List.not_mem_nil), G_⟩⟩
  · cases hq
-- mbaV0A: 26 steps, 1 ends, 0 returns
def mbaV0A_L : List (Nat × Nat × Nat) := []
def mbaV0A_O : yO := []
def mbaV0A_A : yA := (yZ mbaV0A_L, [], [], [], [])
def mbaV0A_C : List xB := [(.eq, .arg 12, .int (Int32.ofInt (-1)), true), (.lt, .arg 20, .arg 7, true), (.lt, .arg 8, .arg 9, true)]
def mbaV0A_ss : List yS := [(220, [(12, .arg 12), (15, .int 0), (14, .int 0), (10, .arg 20), (9, .arg 9), (13, .arg 13), (11, .arg 11), (8, .arg 8), (7, .arg 7), (6, .int 1), (0, .index 338), (1, .arg 1), (2, .arg 2), (3, .arg 3), (4, .arg 4), (5, .arg 5)], [.arg 13, .int 0, .arg 20, .arg 7, .index 338], [], [(.eq, .arg 12, .int (Int32.ofInt (-1)), true), (.lt, .arg 20, .arg 7, true), (.lt, .arg 8, .arg 9, true)], [])]
def mbaV0A_rs : List yR := []
theorem mbaV0A_w : ywa mbaV0A_A mbaV0A_ss mbaV0A_rs = true := by decide +kernel
theorem mbaV0A_k : yis (yev mbaV0A_A 3000 60 216 [220, 110] (143, [(9, .arg 9), (13, .arg 13), (12, .arg 12), (11, .arg 11), (10, .arg 10), (8, .arg 8), (7, .arg 7), (6, .int 1), (0, .index 338), (1, .arg 1), (2, .arg 2), (3, .arg 3), (4, .arg 4), (5, .arg 5)], [.arg 20], mbaV0A_O, mbaV0A_C, [])) mbaV0A_ss mbaV0A_rs = true := by decide +kernel
def mbaV0A_r (v1_ v2 v3 v4_ v5 v7 v8 v9 v10 v11 v12 v13 v20 : Int32) (k_ : Nat) : Value := bif Nat.beq k_ 1 then .int v1_ else (bif Nat.beq k_ 2 then .int v2 else (bif Nat.beq k_ 3 then .int v3 else (bif Nat.beq k_ 4 then .int v4_ else (bif Nat.beq k_ 5 then .int v5 else (bif Nat.beq k_ 7 then .int v7 else (bif Nat.beq k_ 8 then .int v8 else (bif Nat.beq k_ 9 then .int v9 else (bif Nat.beq k_ 10 then .int v10 else (bif Nat.beq k_ 11 then .int v11 else (bif Nat.beq k_ 12 then .int v12 else (bif Nat.beq k_ 13 then .int v13 else (bif Nat.beq k_ 20 then .int v20 else (.int 0)))))))))))))
def mbaV0A_s (n_ : Nat) : Nat := 0
theorem mbaV0A {h_ : xH} {v1_ v2 v3 v4_ v5 v7 v8 v9 v10 v11 v12 v13 v20 : Int32} (hs : sHp h_) (c0_ : v12 = (Int32.ofInt (-1))) (c1_ : v20.toInt < v7.toInt) (c2_ : v8.toInt < v9.toInt) : ∃ h', ysm h_ h' ∧ (((∀ a_ j_ : Nat, bpat h' a_ j_ = bpat h_ a_ j_) ∧ (bldD 60 216 143 [(9, .int v9), (13, .int v13), (12, .int v12), (11, .int v11), (10, .int v10), (8, .int v8), (7, .int v7), (6, .int (1 : Int32)), (0, .index 338), (1, .int v1_), (2, .int v2), (3, .int v3), (4, .int v4_), (5, .int v5)] [.int v20] h_ 220 [(12, .int v12), (15, .int (0 : Int32)), (14, .int (0 : Int32)), (10, .int v20), (9, .int v9), (13, .int v13), (11, .int v11), (8, .int v8), (7, .int v7), (6, .int (1 : Int32)), (0, .index 338), (1, .int v1_), (2, .int v2), (3, .int v3), (4, .int v4_), (5, .int v5)] [.int v13, .int (0 : Int32), .int v20, .int v7, .index 338] h'))) := by
  have hA : yas mbaV0A_A (mbaV0A_r v1_ v2 v3 v4_ v5 v7 v8 v9 v10 v11 v12 v13 v20) (yg mbaV0A_s) := ⟨fun q_ hq => absurd hq List.not_mem_nil, fun q_ hq => absurd hq List.not_mem_nil, fun q_ hq => absurd hq List.not_mem_nil, fun n_ hn => yg_lo hn, fun q_ hq => absurd hq List.not_mem_nil⟩
  have Hs : ysh mbaV0A_A.1 (yg mbaV0A_s) h_ := ysh_of2 hs (fun q_ hq => absurd hq List.not_mem_nil)
  have Ho : ymem (mbaV0A_r v1_ v2 v3 v4_ v5 v7 v8 v9 v10 v11 v12 v13 v20) (yg mbaV0A_s) mbaV0A_O h_ := fun q_ hq => absurd hq List.not_mem_nil
  have HC : ∀ q_ ∈ mbaV0A_C, xhold (mbaV0A_r v1_ v2 v3 v4_ v5 v7 v8 v9 v10 v11 v12 v13 v20) q_ := List.forall_mem_cons.mpr ⟨xh_eqT2 c0_, List.forall_mem_cons.mpr ⟨xh_ltT c1_, List.forall_mem_cons.mpr ⟨xh_ltT c2_, fun q_ hq => absurd hq List.not_mem_nil⟩⟩⟩
  rcases yrun (yis_ok mbaV0A_k) hA Hs Ho HC with ⟨q_, hq, h', K_, G_⟩ | ⟨q_, hq, h', K_, G_⟩
  · have e_ := List.mem_singleton.mp hq
    subst e_
    exact ⟨h', yfr_sm K_.2.2.2 hs K_.1 (ywa_s mbaV0A_w List.mem_cons_self), ⟨fun a_ j_ => yfr_bp K_.2.2.2 (fun q_ hq => absurd hq List.not_mem_nil), G_⟩⟩
  · cases hq
-- mbaV0nA: 23 steps, 1 ends, 0 returns
def mbaV0nA_L : List (Nat × Nat × Nat) := []
def mbaV0nA_O : yO := []
def mbaV0nA_A : yA := (yZ mbaV0nA_L, [], [], [], [])
def mbaV0nA_C : List xB := [(.eq, .arg 12, .int (Int32.ofInt (-1)), false), (.lt, .arg 20, .arg 7, true), (.lt, .arg 8, .arg 9, true)]
def mbaV0nA_ss : List yS := [(220, [(12, .arg 12), (15, .int 0), (14, .int 0), (10, .arg 20), (9, .arg 9), (13, .arg 13), (11, .arg 11), (8, .arg 8), (7, .arg 7), (6, .int 1), (0, .index 338), (1, .arg 1), (2, .arg 2), (3, .arg 3), (4, .arg 4), (5, .arg 5)], [.arg 13, .int 0, .arg 20, .arg 7, .index 338], [], [(.eq, .arg 12, .int (Int32.ofInt (-1)), false), (.lt, .arg 20, .arg 7, true), (.lt, .arg 8, .arg 9, true)], [])]
def mbaV0nA_rs : List yR := []
theorem mbaV0nA_w : ywa mbaV0nA_A mbaV0nA_ss mbaV0nA_rs = true := by decide +kernel
theorem mbaV0nA_k : yis (yev mbaV0nA_A 3000 60 216 [220, 110] (143, [(9, .arg 9), (13, .arg 13), (12, .arg 12), (11, .arg 11), (10, .arg 10), (8, .arg 8), (7, .arg 7), (6, .int 1), (0, .index 338), (1, .arg 1), (2, .arg 2), (3, .arg 3), (4, .arg 4), (5, .arg 5)], [.arg 20], mbaV0nA_O, mbaV0nA_C, [])) mbaV0nA_ss mbaV0nA_rs = true := by decide +kernel
def mbaV0nA_r (v1_ v2 v3 v4_ v5 v7 v8 v9 v10 v11 v12 v13 v20 : Int32) (k_ : Nat) : Value := bif Nat.beq k_ 1 then .int v1_ else (bif Nat.beq k_ 2 then .int v2 else (bif Nat.beq k_ 3 then .int v3 else (bif Nat.beq k_ 4 then .int v4_ else (bif Nat.beq k_ 5 then .int v5 else (bif Nat.beq k_ 7 then .int v7 else (bif Nat.beq k_ 8 then .int v8 else (bif Nat.beq k_ 9 then .int v9 else (bif Nat.beq k_ 10 then .int v10 else (bif Nat.beq k_ 11 then .int v11 else (bif Nat.beq k_ 12 then .int v12 else (bif Nat.beq k_ 13 then .int v13 else (bif Nat.beq k_ 20 then .int v20 else (.int 0)))))))))))))
def mbaV0nA_s (n_ : Nat) : Nat := 0
theorem mbaV0nA {h_ : xH} {v1_ v2 v3 v4_ v5 v7 v8 v9 v10 v11 v12 v13 v20 : Int32} (hs : sHp h_) (c0_ : ¬ v12 = (Int32.ofInt (-1))) (c1_ : v20.toInt < v7.toInt) (c2_ : v8.toInt < v9.toInt) : ∃ h', ysm h_ h' ∧ (((∀ a_ j_ : Nat, bpat h' a_ j_ = bpat h_ a_ j_) ∧ (bldD 60 216 143 [(9, .int v9), (13, .int v13), (12, .int v12), (11, .int v11), (10, .int v10), (8, .int v8), (7, .int v7), (6, .int (1 : Int32)), (0, .index 338), (1, .int v1_), (2, .int v2), (3, .int v3), (4, .int v4_), (5, .int v5)] [.int v20] h_ 220 [(12, .int v12), (15, .int (0 : Int32)), (14, .int (0 : Int32)), (10, .int v20), (9, .int v9), (13, .int v13), (11, .int v11), (8, .int v8), (7, .int v7), (6, .int (1 : Int32)), (0, .index 338), (1, .int v1_), (2, .int v2), (3, .int v3), (4, .int v4_), (5, .int v5)] [.int v13, .int (0 : Int32), .int v20, .int v7, .index 338] h'))) := by
  have hA : yas mbaV0nA_A (mbaV0nA_r v1_ v2 v3 v4_ v5 v7 v8 v9 v10 v11 v12 v13 v20) (yg mbaV0nA_s) := ⟨fun q_ hq => absurd hq List.not_mem_nil, fun q_ hq => absurd hq List.not_mem_nil, fun q_ hq => absurd hq List.not_mem_nil, fun n_ hn => yg_lo hn, fun q_ hq => absurd hq List.not_mem_nil⟩
  have Hs : ysh mbaV0nA_A.1 (yg mbaV0nA_s) h_ := ysh_of2 hs (fun q_ hq => absurd hq List.not_mem_nil)
  have Ho : ymem (mbaV0nA_r v1_ v2 v3 v4_ v5 v7 v8 v9 v10 v11 v12 v13 v20) (yg mbaV0nA_s) mbaV0nA_O h_ := fun q_ hq => absurd hq List.not_mem_nil
  have HC : ∀ q_ ∈ mbaV0nA_C, xhold (mbaV0nA_r v1_ v2 v3 v4_ v5 v7 v8 v9 v10 v11 v12 v13 v20) q_ := List.forall_mem_cons.mpr ⟨xh_eqF2 c0_, List.forall_mem_cons.mpr ⟨xh_ltT c1_, List.forall_mem_cons.mpr ⟨xh_ltT c2_, fun q_ hq => absurd hq List.not_mem_nil⟩⟩⟩
  rcases yrun (yis_ok mbaV0nA_k) hA Hs Ho HC with ⟨q_, hq, h', K_, G_⟩ | ⟨q_, hq, h', K_, G_⟩
  · have e_ := List.mem_singleton.mp hq
    subst e_
    exact ⟨h', yfr_sm K_.2.2.2 hs K_.1 (ywa_s mbaV0nA_w List.mem_cons_self), ⟨fun a_ j_ => yfr_bp K_.2.2.2 (fun q_ hq => absurd hq List.not_mem_nil), G_⟩⟩
  · cases hq
-- mbaV1A: 28 steps, 1 ends, 0 returns
def mbaV1A_L : List (Nat × Nat × Nat) := []
def mbaV1A_O : yO := []
def mbaV1A_A : yA := (yZ mbaV1A_L, [], [], [], [])
def mbaV1A_C : List xB := [(.eq, .arg 12, .int (Int32.ofInt (-1)), true), (.lt, .arg 20, .arg 7, false), (.lt, .arg 8, .arg 9, true)]
def mbaV1A_ss : List yS := [(220, [(12, .arg 13), (15, .int 1), (14, .int 0), (10, .arg 20), (9, .arg 9), (13, .arg 13), (11, .arg 11), (8, .arg 8), (7, .arg 7), (6, .int 1), (0, .index 338), (1, .arg 1), (2, .arg 2), (3, .arg 3), (4, .arg 4), (5, .arg 5)], [.arg 13, .int 0, .arg 20, .arg 7, .index 338], [], [(.eq, .arg 12, .int (Int32.ofInt (-1)), true), (.lt, .arg 20, .arg 7, false), (.lt, .arg 8, .arg 9, true)], [])]
def mbaV1A_rs : List yR := []
theorem mbaV1A_w : ywa mbaV1A_A mbaV1A_ss mbaV1A_rs = true := by decide +kernel
theorem mbaV1A_k : yis (yev mbaV1A_A 3000 60 216 [220, 110] (143, [(9, .arg 9), (13, .arg 13), (12, .arg 12), (11, .arg 11), (10, .arg 10), (8, .arg 8), (7, .arg 7), (6, .int 1), (0, .index 338), (1, .arg 1), (2, .arg 2), (3, .arg 3), (4, .arg 4), (5, .arg 5)], [.arg 20], mbaV1A_O, mbaV1A_C, [])) mbaV1A_ss mbaV1A_rs = true := by decide +kernel
def mbaV1A_r (v1_ v2 v3 v4_ v5 v7 v8 v9 v10 v11 v12 v13 v20 : Int32) (k_ : Nat) : Value := bif Nat.beq k_ 1 then .int v1_ else (bif Nat.beq k_ 2 then .int v2 else (bif Nat.beq k_ 3 then .int v3 else (bif Nat.beq k_ 4 then .int v4_ else (bif Nat.beq k_ 5 then .int v5 else (bif Nat.beq k_ 7 then .int v7 else (bif Nat.beq k_ 8 then .int v8 else (bif Nat.beq k_ 9 then .int v9 else (bif Nat.beq k_ 10 then .int v10 else (bif Nat.beq k_ 11 then .int v11 else (bif Nat.beq k_ 12 then .int v12 else (bif Nat.beq k_ 13 then .int v13 else (bif Nat.beq k_ 20 then .int v20 else (.int 0)))))))))))))
def mbaV1A_s (n_ : Nat) : Nat := 0
theorem mbaV1A {h_ : xH} {v1_ v2 v3 v4_ v5 v7 v8 v9 v10 v11 v12 v13 v20 : Int32} (hs : sHp h_) (c0_ : v12 = (Int32.ofInt (-1))) (c1_ : v7.toInt ≤ v20.toInt) (c2_ : v8.toInt < v9.toInt) : ∃ h', ysm h_ h' ∧ (((∀ a_ j_ : Nat, bpat h' a_ j_ = bpat h_ a_ j_) ∧ (bldD 60 216 143 [(9, .int v9), (13, .int v13), (12, .int v12), (11, .int v11), (10, .int v10), (8, .int v8), (7, .int v7), (6, .int (1 : Int32)), (0, .index 338), (1, .int v1_), (2, .int v2), (3, .int v3), (4, .int v4_), (5, .int v5)] [.int v20] h_ 220 [(12, .int v13), (15, .int (1 : Int32)), (14, .int (0 : Int32)), (10, .int v20), (9, .int v9), (13, .int v13), (11, .int v11), (8, .int v8), (7, .int v7), (6, .int (1 : Int32)), (0, .index 338), (1, .int v1_), (2, .int v2), (3, .int v3), (4, .int v4_), (5, .int v5)] [.int v13, .int (0 : Int32), .int v20, .int v7, .index 338] h'))) := by
  have hA : yas mbaV1A_A (mbaV1A_r v1_ v2 v3 v4_ v5 v7 v8 v9 v10 v11 v12 v13 v20) (yg mbaV1A_s) := ⟨fun q_ hq => absurd hq List.not_mem_nil, fun q_ hq => absurd hq List.not_mem_nil, fun q_ hq => absurd hq List.not_mem_nil, fun n_ hn => yg_lo hn, fun q_ hq => absurd hq List.not_mem_nil⟩
  have Hs : ysh mbaV1A_A.1 (yg mbaV1A_s) h_ := ysh_of2 hs (fun q_ hq => absurd hq List.not_mem_nil)
  have Ho : ymem (mbaV1A_r v1_ v2 v3 v4_ v5 v7 v8 v9 v10 v11 v12 v13 v20) (yg mbaV1A_s) mbaV1A_O h_ := fun q_ hq => absurd hq List.not_mem_nil
  have HC : ∀ q_ ∈ mbaV1A_C, xhold (mbaV1A_r v1_ v2 v3 v4_ v5 v7 v8 v9 v10 v11 v12 v13 v20) q_ := List.forall_mem_cons.mpr ⟨xh_eqT2 c0_, List.forall_mem_cons.mpr ⟨xh_ltF c1_, List.forall_mem_cons.mpr ⟨xh_ltT c2_, fun q_ hq => absurd hq List.not_mem_nil⟩⟩⟩
  rcases yrun (yis_ok mbaV1A_k) hA Hs Ho HC with ⟨q_, hq, h', K_, G_⟩ | ⟨q_, hq, h', K_, G_⟩
  · have e_ := List.mem_singleton.mp hq
    subst e_
    exact ⟨h', yfr_sm K_.2.2.2 hs K_.1 (ywa_s mbaV1A_w List.mem_cons_self), ⟨fun a_ j_ => yfr_bp K_.2.2.2 (fun q_ hq => absurd hq List.not_mem_nil), G_⟩⟩
  · cases hq
-- mbaV2A: 24 steps, 1 ends, 0 returns
def mbaV2A_L : List (Nat × Nat × Nat) := []
def mbaV2A_O : yO := []
def mbaV2A_A : yA := (yZ mbaV2A_L, [], [], [], [])
def mbaV2A_C : List xB := [(.eq, .arg 12, .int (Int32.ofInt (-1)), false), (.lt, .arg 20, .arg 7, false), (.lt, .arg 8, .arg 9, true)]
def mbaV2A_ss : List yS := [(220, [(12, .arg 12), (15, .int 1), (14, .int 0), (10, .arg 20), (9, .arg 9), (13, .arg 13), (11, .arg 11), (8, .arg 8), (7, .arg 7), (6, .int 1), (0, .index 338), (1, .arg 1), (2, .arg 2), (3, .arg 3), (4, .arg 4), (5, .arg 5)], [.arg 13, .int 0, .arg 20, .arg 7, .index 338], [], [(.eq, .arg 12, .int (Int32.ofInt (-1)), false), (.lt, .arg 20, .arg 7, false), (.lt, .arg 8, .arg 9, true)], [])]
def mbaV2A_rs : List yR := []
theorem mbaV2A_w : ywa mbaV2A_A mbaV2A_ss mbaV2A_rs = true := by decide +kernel
theorem mbaV2A_k : yis (yev mbaV2A_A 3000 60 216 [220, 110] (143, [(9, .arg 9), (13, .arg 13), (12, .arg 12), (11, .arg 11), (10, .arg 10), (8, .arg 8), (7, .arg 7), (6, .int 1), (0, .index 338), (1, .arg 1), (2, .arg 2), (3, .arg 3), (4, .arg 4), (5, .arg 5)], [.arg 20], mbaV2A_O, mbaV2A_C, [])) mbaV2A_ss mbaV2A_rs = true := by decide +kernel
def mbaV2A_r (v1_ v2 v3 v4_ v5 v7 v8 v9 v10 v11 v12 v13 v20 : Int32) (k_ : Nat) : Value := bif Nat.beq k_ 1 then .int v1_ else (bif Nat.beq k_ 2 then .int v2 else (bif Nat.beq k_ 3 then .int v3 else (bif Nat.beq k_ 4 then .int v4_ else (bif Nat.beq k_ 5 then .int v5 else (bif Nat.beq k_ 7 then .int v7 else (bif Nat.beq k_ 8 then .int v8 else (bif Nat.beq k_ 9 then .int v9 else (bif Nat.beq k_ 10 then .int v10 else (bif Nat.beq k_ 11 then .int v11 else (bif Nat.beq k_ 12 then .int v12 else (bif Nat.beq k_ 13 then .int v13 else (bif Nat.beq k_ 20 then .int v20 else (.int 0)))))))))))))
def mbaV2A_s (n_ : Nat) : Nat := 0
theorem mbaV2A {h_ : xH} {v1_ v2 v3 v4_ v5 v7 v8 v9 v10 v11 v12 v13 v20 : Int32} (hs : sHp h_) (c0_ : ¬ v12 = (Int32.ofInt (-1))) (c1_ : v7.toInt ≤ v20.toInt) (c2_ : v8.toInt < v9.toInt) : ∃ h', ysm h_ h' ∧ (((∀ a_ j_ : Nat, bpat h' a_ j_ = bpat h_ a_ j_) ∧ (bldD 60 216 143 [(9, .int v9), (13, .int v13), (12, .int v12), (11, .int v11), (10, .int v10), (8, .int v8), (7, .int v7), (6, .int (1 : Int32)), (0, .index 338), (1, .int v1_), (2, .int v2), (3, .int v3), (4, .int v4_), (5, .int v5)] [.int v20] h_ 220 [(12, .int v12), (15, .int (1 : Int32)), (14, .int (0 : Int32)), (10, .int v20), (9, .int v9), (13, .int v13), (11, .int v11), (8, .int v8), (7, .int v7), (6, .int (1 : Int32)), (0, .index 338), (1, .int v1_), (2, .int v2), (3, .int v3), (4, .int v4_), (5, .int v5)] [.int v13, .int (0 : Int32), .int v20, .int v7, .index 338] h'))) := by
  have hA : yas mbaV2A_A (mbaV2A_r v1_ v2 v3 v4_ v5 v7 v8 v9 v10 v11 v12 v13 v20) (yg mbaV2A_s) := ⟨fun q_ hq => absurd hq List.not_mem_nil, fun q_ hq => absurd hq List.not_mem_nil, fun q_ hq => absurd hq List.not_mem_nil, fun n_ hn => yg_lo hn, fun q_ hq => absurd hq List.not_mem_nil⟩
  have Hs : ysh mbaV2A_A.1 (yg mbaV2A_s) h_ := ysh_of2 hs (fun q_ hq => absurd hq List.not_mem_nil)
  have Ho : ymem (mbaV2A_r v1_ v2 v3 v4_ v5 v7 v8 v9 v10 v11 v12 v13 v20) (yg mbaV2A_s) mbaV2A_O h_ := fun q_ hq => absurd hq List.not_mem_nil
  have HC : ∀ q_ ∈ mbaV2A_C, xhold (mbaV2A_r v1_ v2 v3 v4_ v5 v7 v8 v9 v10 v11 v12 v13 v20) q_ := List.forall_mem_cons.mpr ⟨xh_eqF2 c0_, List.forall_mem_cons.mpr ⟨xh_ltF c1_, List.forall_mem_cons.mpr ⟨xh_ltT c2_, fun q_ hq => absurd hq List.not_mem_nil⟩⟩⟩
  rcases yrun (yis_ok mbaV2A_k) hA Hs Ho HC with ⟨q_, hq, h', K_, G_⟩ | ⟨q_, hq, h', K_, G_⟩
  · have e_ := List.mem_singleton.mp hq
    subst e_
    exact ⟨h', yfr_sm K_.2.2.2 hs K_.1 (ywa_s mbaV2A_w List.mem_cons_self), ⟨fun a_ j_ => yfr_bp K_.2.2.2 (fun q_ hq => absurd hq List.not_mem_nil), G_⟩⟩
  · cases hq
-- mbaV3A: 30 steps, 1 ends, 0 returns
def mbaV3A_L : List (Nat × Nat × Nat) := []
def mbaV3A_O : yO := []
def mbaV3A_A : yA := (yZ mbaV3A_L, [], [], [], [])
def mbaV3A_C : List xB := [(.eq, .arg 12, .int (Int32.ofInt (-1)), true), (.lt, .arg 20, .arg 7, true), (.lt, .arg 8, .arg 9, false)]
def mbaV3A_ss : List yS := [(220, [(12, .arg 13), (15, .int 0), (14, .int 1), (10, .arg 20), (9, .arg 9), (13, .arg 13), (11, .arg 11), (8, .arg 8), (7, .arg 7), (6, .int 1), (0, .index 338), (1, .arg 1), (2, .arg 2), (3, .arg 3), (4, .arg 4), (5, .arg 5)], [.arg 13, .int 0, .arg 20, .arg 7, .index 338], [], [(.eq, .arg 12, .int (Int32.ofInt (-1)), true), (.lt, .arg 20, .arg 7, true), (.lt, .arg 8, .arg 9, false)], [])]
def mbaV3A_rs : List yR := []
theorem mbaV3A_w : ywa mbaV3A_A mbaV3A_ss mbaV3A_rs = true := by decide +kernel
theorem mbaV3A_k : yis (yev mbaV3A_A 3000 60 216 [220, 110] (143, [(9, .arg 9), (13, .arg 13), (12, .arg 12), (11, .arg 11), (10, .arg 10), (8, .arg 8), (7, .arg 7), (6, .int 1), (0, .index 338), (1, .arg 1), (2, .arg 2), (3, .arg 3), (4, .arg 4), (5, .arg 5)], [.arg 20], mbaV3A_O, mbaV3A_C, [])) mbaV3A_ss mbaV3A_rs = true := by decide +kernel
def mbaV3A_r (v1_ v2 v3 v4_ v5 v7 v8 v9 v10 v11 v12 v13 v20 : Int32) (k_ : Nat) : Value := bif Nat.beq k_ 1 then .int v1_ else (bif Nat.beq k_ 2 then .int v2 else (bif Nat.beq k_ 3 then .int v3 else (bif Nat.beq k_ 4 then .int v4_ else (bif Nat.beq k_ 5 then .int v5 else (bif Nat.beq k_ 7 then .int v7 else (bif Nat.beq k_ 8 then .int v8 else (bif Nat.beq k_ 9 then .int v9 else (bif Nat.beq k_ 10 then .int v10 else (bif Nat.beq k_ 11 then .int v11 else (bif Nat.beq k_ 12 then .int v12 else (bif Nat.beq k_ 13 then .int v13 else (bif Nat.beq k_ 20 then .int v20 else (.int 0)))))))))))))
def mbaV3A_s (n_ : Nat) : Nat := 0
theorem mbaV3A {h_ : xH} {v1_ v2 v3 v4_ v5 v7 v8 v9 v10 v11 v12 v13 v20 : Int32} (hs : sHp h_) (c0_ : v12 = (Int32.ofInt (-1))) (c1_ : v20.toInt < v7.toInt) (c2_ : v9.toInt ≤ v8.toInt) : ∃ h', ysm h_ h' ∧ (((∀ a_ j_ : Nat, bpat h' a_ j_ = bpat h_ a_ j_) ∧ (bldD 60 216 143 [(9, .int v9), (13, .int v13), (12, .int v12), (11, .int v11), (10, .int v10), (8, .int v8), (7, .int v7), (6, .int (1 : Int32)), (0, .index 338), (1, .int v1_), (2, .int v2), (3, .int v3), (4, .int v4_), (5, .int v5)] [.int v20] h_ 220 [(12, .int v13), (15, .int (0 : Int32)), (14, .int (1 : Int32)), (10, .int v20), (9, .int v9), (13, .int v13), (11, .int v11), (8, .int v8), (7, .int v7), (6, .int (1 : Int32)), (0, .index 338), (1, .int v1_), (2, .int v2), (3, .int v3), (4, .int v4_), (5, .int v5)] [.int v13, .int (0 : Int32), .int v20, .int v7, .index 338] h'))) := by
  have hA : yas mbaV3A_A (mbaV3A_r v1_ v2 v3 v4_ v5 v7 v8 v9 v10 v11 v12 v13 v20) (yg mbaV3A_s) := ⟨fun q_ hq => absurd hq List.not_mem_nil, fun q_ hq => absurd hq List.not_mem_nil, fun q_ hq => absurd hq List.not_mem_nil, fun n_ hn => yg_lo hn, fun q_ hq => absurd hq List.not_mem_nil⟩
  have Hs : ysh mbaV3A_A.1 (yg mbaV3A_s) h_ := ysh_of2 hs (fun q_ hq => absurd hq List.not_mem_nil)
  have Ho : ymem (mbaV3A_r v1_ v2 v3 v4_ v5 v7 v8 v9 v10 v11 v12 v13 v20) (yg mbaV3A_s) mbaV3A_O h_ := fun q_ hq => absurd hq List.not_mem_nil
  have HC : ∀ q_ ∈ mbaV3A_C, xhold (mbaV3A_r v1_ v2 v3 v4_ v5 v7 v8 v9 v10 v11 v12 v13 v20) q_ := List.forall_mem_cons.mpr ⟨xh_eqT2 c0_, List.forall_mem_cons.mpr ⟨xh_ltT c1_, List.forall_mem_cons.mpr ⟨xh_ltF c2_, fun q_ hq => absurd hq List.not_mem_nil⟩⟩⟩
  rcases yrun (yis_ok mbaV3A_k) hA Hs Ho HC with ⟨q_, hq, h', K_, G_⟩ | ⟨q_, hq, h', K_, G_⟩
  · have e_ := List.mem_singleton.mp hq
    subst e_
    exact ⟨h', yfr_sm K_.2.2.2 hs K_.1 (ywa_s mbaV3A_w List.mem_cons_self), ⟨fun a_ j_ => yfr_bp K_.2.2.2 (fun q_ hq => absurd hq List.not_mem_nil), G_⟩⟩
  · cases hq
-- mbaV4A: 26 steps, 1 ends, 0 returns
def mbaV4A_L : List (Nat × Nat × Nat) := []
def mbaV4A_O : yO := []
def mbaV4A_A : yA := (yZ mbaV4A_L, [], [], [], [])
def mbaV4A_C : List xB := [(.eq, .arg 12, .int (Int32.ofInt (-1)), false), (.lt, .arg 20, .arg 7, true), (.lt, .arg 8, .arg 9, false)]
def mbaV4A_ss : List yS := [(220, [(12, .arg 12), (15, .int 0), (14, .int 1), (10, .arg 20), (9, .arg 9), (13, .arg 13), (11, .arg 11), (8, .arg 8), (7, .arg 7), (6, .int 1), (0, .index 338), (1, .arg 1), (2, .arg 2), (3, .arg 3), (4, .arg 4), (5, .arg 5)], [.arg 13, .int 0, .arg 20, .arg 7, .index 338], [], [(.eq, .arg 12, .int (Int32.ofInt (-1)), false), (.lt, .arg 20, .arg 7, true), (.lt, .arg 8, .arg 9, false)], [])]
def mbaV4A_rs : List yR := []
theorem mbaV4A_w : ywa mbaV4A_A mbaV4A_ss mbaV4A_rs = true := by decide +kernel
theorem mbaV4A_k : yis (yev mbaV4A_A 3000 60 216 [220, 110] (143, [(9, .arg 9), (13, .arg 13), (12, .arg 12), (11, .arg 11), (10, .arg 10), (8, .arg 8), (7, .arg 7), (6, .int 1), (0, .index 338), (1, .arg 1), (2, .arg 2), (3, .arg 3), (4, .arg 4), (5, .arg 5)], [.arg 20], mbaV4A_O, mbaV4A_C, [])) mbaV4A_ss mbaV4A_rs = true := by decide +kernel
def mbaV4A_r (v1_ v2 v3 v4_ v5 v7 v8 v9 v10 v11 v12 v13 v20 : Int32) (k_ : Nat) : Value := bif Nat.beq k_ 1 then .int v1_ else (bif Nat.beq k_ 2 then .int v2 else (bif Nat.beq k_ 3 then .int v3 else (bif Nat.beq k_ 4 then .int v4_ else (bif Nat.beq k_ 5 then .int v5 else (bif Nat.beq k_ 7 then .int v7 else (bif Nat.beq k_ 8 then .int v8 else (bif Nat.beq k_ 9 then .int v9 else (bif Nat.beq k_ 10 then .int v10 else (bif Nat.beq k_ 11 then .int v11 else (bif Nat.beq k_ 12 then .int v12 else (bif Nat.beq k_ 13 then .int v13 else (bif Nat.beq k_ 20 then .int v20 else (.int 0)))))))))))))
def mbaV4A_s (n_ : Nat) : Nat := 0
theorem mbaV4A {h_ : xH} {v1_ v2 v3 v4_ v5 v7 v8 v9 v10 v11 v12 v13 v20 : Int32} (hs : sHp h_) (c0_ : ¬ v12 = (Int32.ofInt (-1))) (c1_ : v20.toInt < v7.toInt) (c2_ : v9.toInt ≤ v8.toInt) : ∃ h', ysm h_ h' ∧ (((∀ a_ j_ : Nat, bpat h' a_ j_ = bpat h_ a_ j_) ∧ (bldD 60 216 143 [(9, .int v9), (13, .int v13), (12, .int v12), (11, .int v11), (10, .int v10), (8, .int v8), (7, .int v7), (6, .int (1 : Int32)), (0, .index 338), (1, .int v1_), (2, .int v2), (3, .int v3), (4, .int v4_), (5, .int v5)] [.int v20] h_ 220 [(12, .int v12), (15, .int (0 : Int32)), (14, .int (1 : Int32)), (10, .int v20), (9, .int v9), (13, .int v13), (11, .int v11), (8, .int v8), (7, .int v7), (6, .int (1 : Int32)), (0, .index 338), (1, .int v1_), (2, .int v2), (3, .int v3), (4, .int v4_), (5, .int v5)] [.int v13, .int (0 : Int32), .int v20, .int v7, .index 338] h'))) := by
  have hA : yas mbaV4A_A (mbaV4A_r v1_ v2 v3 v4_ v5 v7 v8 v9 v10 v11 v12 v13 v20) (yg mbaV4A_s) := ⟨fun q_ hq => absurd hq List.not_mem_nil, fun q_ hq => absurd hq List.not_mem_nil, fun q_ hq => absurd hq List.not_mem_nil, fun n_ hn => yg_lo hn, fun q_ hq => absurd hq List.not_mem_nil⟩
  have Hs : ysh mbaV4A_A.1 (yg mbaV4A_s) h_ := ysh_of2 hs (fun q_ hq => absurd hq List.not_mem_nil)
  have Ho : ymem (mbaV4A_r v1_ v2 v3 v4_ v5 v7 v8 v9 v10 v11 v12 v13 v20) (yg mbaV4A_s) mbaV4A_O h_ := fun q_ hq => absurd hq List.not_mem_nil
  have HC : ∀ q_ ∈ mbaV4A_C, xhold (mbaV4A_r v1_ v2 v3 v4_ v5 v7 v8 v9 v10 v11 v12 v13 v20) q_ := List.forall_mem_cons.mpr ⟨xh_eqF2 c0_, List.forall_mem_cons.mpr ⟨xh_ltT c1_, List.forall_mem_cons.mpr ⟨xh_ltF c2_, fun q_ hq => absurd hq List.not_mem_nil⟩⟩⟩
  rcases yrun (yis_ok mbaV4A_k) hA Hs Ho HC with ⟨q_, hq, h', K_, G_⟩ | ⟨q_, hq, h', K_, G_⟩
  · have e_ := List.mem_singleton.mp hq
    subst e_
    exact ⟨h', yfr_sm K_.2.2.2 hs K_.1 (ywa_s mbaV4A_w List.mem_cons_self), ⟨fun a_ j_ => yfr_bp K_.2.2.2 (fun q_ hq => absurd hq List.not_mem_nil), G_⟩⟩
  · cases hq
-- mbaV5A: 30 steps, 1 ends, 0 returns
def mbaV5A_L : List (Nat × Nat × Nat) := []
def mbaV5A_O : yO := []
def mbaV5A_A : yA := (yZ mbaV5A_L, [], [], [], [])
def mbaV5A_C : List xB := [(.eq, .arg 12, .int (Int32.ofInt (-1)), true), (.lt, .arg 20, .arg 7, false), (.lt, .arg 8, .arg 9, false)]
def mbaV5A_ss : List yS := [(110, [(13, .add (.arg 13) (.int 1)), (11, .arg 13), (12, .arg 12), (15, .int 1), (14, .int 1), (10, .arg 20), (9, .arg 9), (8, .arg 8), (7, .arg 7), (6, .int 1), (0, .index 338), (1, .arg 1), (2, .arg 2), (3, .arg 3), (4, .arg 4), (5, .arg 5)], [], [], [(.eq, .arg 12, .int (Int32.ofInt (-1)), true), (.lt, .arg 20, .arg 7, false), (.lt, .arg 8, .arg 9, false)], [])]
def mbaV5A_rs : List yR := []
theorem mbaV5A_w : ywa mbaV5A_A mbaV5A_ss mbaV5A_rs = true := by decide +kernel
theorem mbaV5A_k : yis (yev mbaV5A_A 3000 60 216 [220, 110] (143, [(9, .arg 9), (13, .arg 13), (12, .arg 12), (11, .arg 11), (10, .arg 10), (8, .arg 8), (7, .arg 7), (6, .int 1), (0, .index 338), (1, .arg 1), (2, .arg 2), (3, .arg 3), (4, .arg 4), (5, .arg 5)], [.arg 20], mbaV5A_O, mbaV5A_C, [])) mbaV5A_ss mbaV5A_rs = true := by decide +kernel
def mbaV5A_r (v1_ v2 v3 v4_ v5 v7 v8 v9 v10 v11 v12 v13 v20 : Int32) (k_ : Nat) : Value := bif Nat.beq k_ 1 then .int v1_ else (bif Nat.beq k_ 2 then .int v2 else (bif Nat.beq k_ 3 then .int v3 else (bif Nat.beq k_ 4 then .int v4_ else (bif Nat.beq k_ 5 then .int v5 else (bif Nat.beq k_ 7 then .int v7 else (bif Nat.beq k_ 8 then .int v8 else (bif Nat.beq k_ 9 then .int v9 else (bif Nat.beq k_ 10 then .int v10 else (bif Nat.beq k_ 11 then .int v11 else (bif Nat.beq k_ 12 then .int v12 else (bif Nat.beq k_ 13 then .int v13 else (bif Nat.beq k_ 20 then .int v20 else (.int 0)))))))))))))
def mbaV5A_s (n_ : Nat) : Nat := 0
theorem mbaV5A {h_ : xH} {v1_ v2 v3 v4_ v5 v7 v8 v9 v10 v11 v12 v13 v20 : Int32} (hs : sHp h_) (c0_ : v12 = (Int32.ofInt (-1))) (c1_ : v7.toInt ≤ v20.toInt) (c2_ : v9.toInt ≤ v8.toInt) : ∃ h', ysm h_ h' ∧ (((∀ a_ j_ : Nat, bpat h' a_ j_ = bpat h_ a_ j_) ∧ (bldD 60 216 143 [(9, .int v9), (13, .int v13), (12, .int v12), (11, .int v11), (10, .int v10), (8, .int v8), (7, .int v7), (6, .int (1 : Int32)), (0, .index 338), (1, .int v1_), (2, .int v2), (3, .int v3), (4, .int v4_), (5, .int v5)] [.int v20] h_ 110 [(13, .int (v13 + (1 : Int32))), (11, .int v13), (12, .int v12), (15, .int (1 : Int32)), (14, .int (1 : Int32)), (10, .int v20), (9, .int v9), (8, .int v8), (7, .int v7), (6, .int (1 : Int32)), (0, .index 338), (1, .int v1_), (2, .int v2), (3, .int v3), (4, .int v4_), (5, .int v5)] [] h'))) := by
  have hA : yas mbaV5A_A (mbaV5A_r v1_ v2 v3 v4_ v5 v7 v8 v9 v10 v11 v12 v13 v20) (yg mbaV5A_s) := ⟨fun q_ hq => absurd hq List.not_mem_nil, fun q_ hq => absurd hq List.not_mem_nil, fun q_ hq => absurd hq List.not_mem_nil, fun n_ hn => yg_lo hn, fun q_ hq => absurd hq List.not_mem_nil⟩
  have Hs : ysh mbaV5A_A.1 (yg mbaV5A_s) h_ := ysh_of2 hs (fun q_ hq => absurd hq List.not_mem_nil)
  have Ho : ymem (mbaV5A_r v1_ v2 v3 v4_ v5 v7 v8 v9 v10 v11 v12 v13 v20) (yg mbaV5A_s) mbaV5A_O h_ := fun q_ hq => absurd hq List.not_mem_nil
  have HC : ∀ q_ ∈ mbaV5A_C, xhold (mbaV5A_r v1_ v2 v3 v4_ v5 v7 v8 v9 v10 v11 v12 v13 v20) q_ := List.forall_mem_cons.mpr ⟨xh_eqT2 c0_, List.forall_mem_cons.mpr ⟨xh_ltF c1_, List.forall_mem_cons.mpr ⟨xh_ltF c2_, fun q_ hq => absurd hq List.not_mem_nil⟩⟩⟩
  rcases yrun (yis_ok mbaV5A_k) hA Hs Ho HC with ⟨q_, hq, h', K_, G_⟩ | ⟨q_, hq, h', K_, G_⟩
  · have e_ := List.mem_singleton.mp hq
    subst e_
    exact ⟨h', yfr_sm K_.2.2.2 hs K_.1 (ywa_s mbaV5A_w List.mem_cons_self), ⟨fun a_ j_ => yfr_bp K_.2.2.2 (fun q_ hq => absurd hq List.not_mem_nil), G_⟩⟩
  · cases hq
-- mbaV5nA: 27 steps, 1 ends, 0 returns
def mbaV5nA_L : List (Nat × Nat × Nat) := []
def mbaV5nA_O : yO := []
def mbaV5nA_A : yA := (yZ mbaV5nA_L, [], [], [], [])
def mbaV5nA_C : List xB := [(.eq, .arg 12, .int (Int32.ofInt (-1)), false), (.lt, .arg 20, .arg 7, false), (.lt, .arg 8, .arg 9, false)]
def mbaV5nA_ss : List yS := [(110, [(13, .add (.arg 13) (.int 1)), (11, .arg 13), (12, .arg 12), (15, .int 1), (14, .int 1), (10, .arg 20), (9, .arg 9), (8, .arg 8), (7, .arg 7), (6, .int 1), (0, .index 338), (1, .arg 1), (2, .arg 2), (3, .arg 3), (4, .arg 4), (5, .arg 5)], [], [], [(.eq, .arg 12, .int (Int32.ofInt (-1)), false), (.lt, .arg 20, .arg 7, false), (.lt, .arg 8, .arg 9, false)], [])]
def mbaV5nA_rs : List yR := []
theorem mbaV5nA_w : ywa mbaV5nA_A mbaV5nA_ss mbaV5nA_rs = true := by decide +kernel
theorem mbaV5nA_k : yis (yev mbaV5nA_A 3000 60 216 [220, 110] (143, [(9, .arg 9), (13, .arg 13), (12, .arg 12), (11, .arg 11), (10, .arg 10), (8, .arg 8), (7, .arg 7), (6, .int 1), (0, .index 338), (1, .arg 1), (2, .arg 2), (3, .arg 3), (4, .arg 4), (5, .arg 5)], [.arg 20], mbaV5nA_O, mbaV5nA_C, [])) mbaV5nA_ss mbaV5nA_rs = true := by decide +kernel
def mbaV5nA_r (v1_ v2 v3 v4_ v5 v7 v8 v9 v10 v11 v12 v13 v20 : Int32) (k_ : Nat) : Value := bif Nat.beq k_ 1 then .int v1_ else (bif Nat.beq k_ 2 then .int v2 else (bif Nat.beq k_ 3 then .int v3 else (bif Nat.beq k_ 4 then .int v4_ else (bif Nat.beq k_ 5 then .int v5 else (bif Nat.beq k_ 7 then .int v7 else (bif Nat.beq k_ 8 then .int v8 else (bif Nat.beq k_ 9 then .int v9 else (bif Nat.beq k_ 10 then .int v10 else (bif Nat.beq k_ 11 then .int v11 else (bif Nat.beq k_ 12 then .int v12 else (bif Nat.beq k_ 13 then .int v13 else (bif Nat.beq k_ 20 then .int v20 else (.int 0)))))))))))))
def mbaV5nA_s (n_ : Nat) : Nat := 0
theorem mbaV5nA {h_ : xH} {v1_ v2 v3 v4_ v5 v7 v8 v9 v10 v11 v12 v13 v20 : Int32} (hs : sHp h_) (c0_ : ¬ v12 = (Int32.ofInt (-1))) (c1_ : v7.toInt ≤ v20.toInt) (c2_ : v9.toInt ≤ v8.toInt) : ∃ h', ysm h_ h' ∧ (((∀ a_ j_ : Nat, bpat h' a_ j_ = bpat h_ a_ j_) ∧ (bldD 60 216 143 [(9, .int v9), (13, .int v13), (12, .int v12), (11, .int v11), (10, .int v10), (8, .int v8), (7, .int v7), (6, .int (1 : Int32)), (0, .index 338), (1, .int v1_), (2, .int v2), (3, .int v3), (4, .int v4_), (5, .int v5)] [.int v20] h_ 110 [(13, .int (v13 + (1 : Int32))), (11, .int v13), (12, .int v12), (15, .int (1 : Int32)), (14, .int (1 : Int32)), (10, .int v20), (9, .int v9), (8, .int v8), (7, .int v7), (6, .int (1 : Int32)), (0, .index 338), (1, .int v1_), (2, .int v2), (3, .int v3), (4, .int v4_), (5, .int v5)] [] h'))) := by
  have hA : yas mbaV5nA_A (mbaV5nA_r v1_ v2 v3 v4_ v5 v7 v8 v9 v10 v11 v12 v13 v20) (yg mbaV5nA_s) := ⟨fun q_ hq => absurd hq List.not_mem_nil, fun q_ hq => absurd hq List.not_mem_nil, fun q_ hq => absurd hq List.not_mem_nil, fun n_ hn => yg_lo hn, fun q_ hq => absurd hq List.not_mem_nil⟩
  have Hs : ysh mbaV5nA_A.1 (yg mbaV5nA_s) h_ := ysh_of2 hs (fun q_ hq => absurd hq List.not_mem_nil)
  have Ho : ymem (mbaV5nA_r v1_ v2 v3 v4_ v5 v7 v8 v9 v10 v11 v12 v13 v20) (yg mbaV5nA_s) mbaV5nA_O h_ := fun q_ hq => absurd hq List.not_mem_nil
  have HC : ∀ q_ ∈ mbaV5nA_C, xhold (mbaV5nA_r v1_ v2 v3 v4_ v5 v7 v8 v9 v10 v11 v12 v13 v20) q_ := List.forall_mem_cons.mpr ⟨xh_eqF2 c0_, List.forall_mem_cons.mpr ⟨xh_ltF c1_, List.forall_mem_cons.mpr ⟨xh_ltF c2_, fun q_ hq => absurd hq List.not_mem_nil⟩⟩⟩
  rcases yrun (yis_ok mbaV5nA_k) hA Hs Ho HC with ⟨q_, hq, h', K_, G_⟩ | ⟨q_, hq, h', K_, G_⟩
  · have e_ := List.mem_singleton.mp hq
    subst e_
    exact ⟨h', yfr_sm K_.2.2.2 hs K_.1 (ywa_s mbaV5nA_w List.mem_cons_self), ⟨fun a_ j_ => yfr_bp K_.2.2.2 (fun q_ hq => absurd hq List.not_mem_nil), G_⟩⟩
  · cases hq
-- mbaTB: 10 steps, 1 ends, 0 returns
def mbaTB_L : List (Nat × Nat × Nat) := []
def mbaTB_O : yO := []
def mbaTB_A : yA := (yZ mbaTB_L, [], [], [], [])
def mbaTB_C : List xB := [(.eq, .arg 11, .int (Int32.ofInt (-1)), true), (.lt, .arg 13, .arg 4, true)]
def mbaTB_ss : List yS := [(129, [(13, .arg 13), (7, .arg 7), (8, .arg 8), (16, .arg 16), (12, .arg 12), (15, .arg 15), (14, .arg 14), (10, .arg 10), (9, .arg 9), (11, .arg 11), (6, .int 1), (0, .index 338), (1, .arg 1), (2, .arg 2), (3, .arg 3), (4, .arg 4), (5, .arg 5)], [.arg 9, .arg 2, .arg 7, .index 338], [], [(.eq, .arg 11, .int (Int32.ofInt (-1)), true), (.lt, .arg 13, .arg 4, true)], [])]
def mbaTB_rs : List yR := []
theorem mbaTB_w : ywa mbaTB_A mbaTB_ss mbaTB_rs = true := by decide +kernel
theorem mbaTB_k : yis (yev mbaTB_A 3000 60 216 [129] (110, [(13, .arg 13), (7, .arg 7), (8, .arg 8), (16, .arg 16), (12, .arg 12), (15, .arg 15), (14, .arg 14), (10, .arg 10), (9, .arg 9), (11, .arg 11), (6, .int 1), (0, .index 338), (1, .arg 1), (2, .arg 2), (3, .arg 3), (4, .arg 4), (5, .arg 5)], [], mbaTB_O, mbaTB_C, [])) mbaTB_ss mbaTB_rs = true := by decide +kernel
def mbaTB_r (v1_ v2 v3 v4_ v5 v7 v8 v9 v10 v11 v12 v13 v14 v15 v16 : Int32) (k_ : Nat) : Value := bif Nat.beq k_ 1 then .int v1_ else (bif Nat.beq k_ 2 then .int v2 else (bif Nat.beq k_ 3 then .int v3 else (bif Nat.beq k_ 4 then .int v4_ else (bif Nat.beq k_ 5 then .int v5 else (bif Nat.beq k_ 7 then .int v7 else (bif Nat.beq k_ 8 then .int v8 else (bif Nat.beq k_ 9 then .int v9 else (bif Nat.beq k_ 10 then .int v10 else (bif Nat.beq k_ 11 then .int v11 else (bif Nat.beq k_ 12 then .int v12 else (bif Nat.beq k_ 13 then .int v13 else (bif Nat.beq k_ 14 then .int v14 else (bif Nat.beq k_ 15 then .int v15 else (bif Nat.beq k_ 16 then .int v16 else (.int 0)))))))))))))))
def mbaTB_s (n_ : Nat) : Nat := 0
theorem mbaTB {h_ : xH} {v1_ v2 v3 v4_ v5 v7 v8 v9 v10 v11 v12 v13 v14 v15 v16 : Int32} (hs : sHp h_) (c0_ : v11 = (Int32.ofInt (-1))) (c1_ : v13.toInt < v4_.toInt) : ∃ h', ysm h_ h' ∧ (((∀ a_ j_ : Nat, bpat h' a_ j_ = bpat h_ a_ j_) ∧ (bldD 60 216 110 [(13, .int v13), (7, .int v7), (8, .int v8), (16, .int v16), (12, .int v12), (15, .int v15), (14, .int v14), (10, .int v10), (9, .int v9), (11, .int v11), (6, .int (1 : Int32)), (0, .index 338), (1, .int v1_), (2, .int v2), (3, .int v3), (4, .int v4_), (5, .int v5)] [] h_ 129 [(13, .int v13), (7, .int v7), (8, .int v8), (16, .int v16), (12, .int v12), (15, .int v15), (14, .int v14), (10, .int v10), (9, .int v9), (11, .int v11), (6, .int (1 : Int32)), (0, .index 338), (1, .int v1_), (2, .int v2), (3, .int v3), (4, .int v4_), (5, .int v5)] [.int v9, .int v2, .int v7, .index 338] h'))) := by
  have hA : yas mbaTB_A (mbaTB_r v1_ v2 v3 v4_ v5 v7 v8 v9 v10 v11 v12 v13 v14 v15 v16) (yg mbaTB_s) := ⟨fun q_ hq => absurd hq List.not_mem_nil, fun q_ hq => absurd hq List.not_mem_nil, fun q_ hq => absurd hq List.not_mem_nil, fun n_ hn => yg_lo hn, fun q_ hq => absurd hq List.not_mem_nil⟩
  have Hs : ysh mbaTB_A.1 (yg mbaTB_s) h_ := ysh_of2 hs (fun q_ hq => absurd hq List.not_mem_nil)
  have Ho : ymem (mbaTB_r v1_ v2 v3 v4_ v5 v7 v8 v9 v10 v11 v12 v13 v14 v15 v16) (yg mbaTB_s) mbaTB_O h_ := fun q_ hq => absurd hq List.not_mem_nil
  have HC : ∀ q_ ∈ mbaTB_C, xhold (mbaTB_r v1_ v2 v3 v4_ v5 v7 v8 v9 v10 v11 v12 v13 v14 v15 v16) q_ := List.forall_mem_cons.mpr ⟨xh_eqT2 c0_, List.forall_mem_cons.mpr ⟨xh_ltT c1_, fun q_ hq => absurd hq List.not_mem_nil⟩⟩
  rcases yrun (yis_ok mbaTB_k) hA Hs Ho HC with ⟨q_, hq, h', K_, G_⟩ | ⟨q_, hq, h', K_, G_⟩
  · have e_ := List.mem_singleton.mp hq
    subst e_
    exact ⟨h', yfr_sm K_.2.2.2 hs K_.1 (ywa_s mbaTB_w List.mem_cons_self), ⟨fun a_ j_ => yfr_bp K_.2.2.2 (fun q_ hq => absurd hq List.not_mem_nil), G_⟩⟩
  · cases hq
-- mbaUB: 5 steps, 1 ends, 0 returns
def mbaUB_L : List (Nat × Nat × Nat) := []
def mbaUB_O : yO := []
def mbaUB_A : yA := (yZ mbaUB_L, [], [], [], [])
def mbaUB_C : List xB := []
def mbaUB_ss : List yS := [(140, [(9, .arg 20), (13, .arg 13), (7, .arg 7), (8, .arg 8), (16, .arg 16), (12, .arg 12), (15, .arg 15), (14, .arg 14), (10, .arg 10), (11, .arg 11), (6, .int 1), (0, .index 338), (1, .arg 1), (2, .arg 2), (3, .arg 3), (4, .arg 4), (5, .arg 5)], [.arg 10, .arg 3, .arg 8, .index 338], [], [], [])]
def mbaUB_rs : List yR := []
theorem mbaUB_w : ywa mbaUB_A mbaUB_ss mbaUB_rs = true := by decide +kernel
theorem mbaUB_k : yis (yev mbaUB_A 3000 60 216 [140] (132, [(13, .arg 13), (7, .arg 7), (8, .arg 8), (16, .arg 16), (12, .arg 12), (15, .arg 15), (14, .arg 14), (10, .arg 10), (9, .arg 9), (11, .arg 11), (6, .int 1), (0, .index 338), (1, .arg 1), (2, .arg 2), (3, .arg 3), (4, .arg 4), (5, .arg 5)], [.arg 20], mbaUB_O, mbaUB_C, [])) mbaUB_ss mbaUB_rs = true := by decide +kernel
def mbaUB_r (v1_ v2 v3 v4_ v5 v7 v8 v9 v10 v11 v12 v13 v14 v15 v16 v20 : Int32) (k_ : Nat) : Value := bif Nat.beq k_ 1 then .int v1_ else (bif Nat.beq k_ 2 then .int v2 else (bif Nat.beq k_ 3 then .int v3 else (bif Nat.beq k_ 4 then .int v4_ else (bif Nat.beq k_ 5 then .int v5 else (bif Nat.beq k_ 7 then .int v7 else (bif Nat.beq k_ 8 then .int v8 else (bif Nat.beq k_ 9 then .int v9 else (bif Nat.beq k_ 10 then .int v10 else (bif Nat.beq k_ 11 then .int v11 else (bif Nat.beq k_ 12 then .int v12 else (bif Nat.beq k_ 13 then .int v13 else (bif Nat.beq k_ 14 then .int v14 else (bif Nat.beq k_ 15 then .int v15 else (bif Nat.beq k_ 16 then .int v16 else (bif Nat.beq k_ 20 then .int v20 else (.int 0))))))))))))))))
def mbaUB_s (n_ : Nat) : Nat := 0
theorem mbaUB {h_ : xH} {v1_ v2 v3 v4_ v5 v7 v8 v9 v10 v11 v12 v13 v14 v15 v16 v20 : Int32} (hs : sHp h_) : ∃ h', ysm h_ h' ∧ (((∀ a_ j_ : Nat, bpat h' a_ j_ = bpat h_ a_ j_) ∧ (bldD 60 216 132 [(13, .int v13), (7, .int v7), (8, .int v8), (16, .int v16), (12, .int v12), (15, .int v15), (14, .int v14), (10, .int v10), (9, .int v9), (11, .int v11), (6, .int (1 : Int32)), (0, .index 338), (1, .int v1_), (2, .int v2), (3, .int v3), (4, .int v4_), (5, .int v5)] [.int v20] h_ 140 [(9, .int v20), (13, .int v13), (7, .int v7), (8, .int v8), (16, .int v16), (12, .int v12), (15, .int v15), (14, .int v14), (10, .int v10), (11, .int v11), (6, .int (1 : Int32)), (0, .index 338), (1, .int v1_), (2, .int v2), (3, .int v3), (4, .int v4_), (5, .int v5)] [.int v10, .int v3, .int v8, .index 338] h'))) := by
  have hA : yas mbaUB_A (mbaUB_r v1_ v2 v3 v4_ v5 v7 v8 v9 v10 v11 v12 v13 v14 v15 v16 v20) (yg mbaUB_s) := ⟨fun q_ hq => absurd hq List.not_mem_nil, fun q_ hq => absurd hq List.not_mem_nil, fun q_ hq => absurd hq List.not_mem_nil, fun n_ hn => yg_lo hn, fun q_ hq => absurd hq List.not_mem_nil⟩
  have Hs : ysh mbaUB_A.1 (yg mbaUB_s) h_ := ysh_of2 hs (fun q_ hq => absurd hq List.not_mem_nil)
  have Ho : ymem (mbaUB_r v1_ v2 v3 v4_ v5 v7 v8 v9 v10 v11 v12 v13 v14 v15 v16 v20) (yg mbaUB_s) mbaUB_O h_ := fun q_ hq => absurd hq List.not_mem_nil
  have HC : ∀ q_ ∈ mbaUB_C, xhold (mbaUB_r v1_ v2 v3 v4_ v5 v7 v8 v9 v10 v11 v12 v13 v14 v15 v16 v20) q_ := fun q_ hq => absurd hq List.not_mem_nil
  rcases yrun (yis_ok mbaUB_k) hA Hs Ho HC with ⟨q_, hq, h', K_, G_⟩ | ⟨q_, hq, h', K_, G_⟩
  · have e_ := List.mem_singleton.mp hq
    subst e_
    exact ⟨h', yfr_sm K_.2.2.2 hs K_.1 (ywa_s mbaUB_w List.mem_cons_self), ⟨fun a_ j_ => yfr_bp K_.2.2.2 (fun q_ hq => absurd hq List.not_mem_nil), G_⟩⟩
  · cases hq
-- mbaXB: 3 steps, 1 ends, 0 returns
def mbaXB_L : List (Nat × Nat × Nat) := []
def mbaXB_O : yO := []
def mbaXB_A : yA := (yZ mbaXB_L, [], [], [], [])
def mbaXB_C : List xB := [(.lt, .arg 13, .arg 4, false)]
def mbaXB_ss : List yS := [(248, [(13, .arg 13), (7, .arg 7), (8, .arg 8), (16, .arg 16), (12, .arg 12), (15, .arg 15), (14, .arg 14), (10, .arg 10), (9, .arg 9), (11, .arg 11), (6, .int 1), (0, .index 338), (1, .arg 1), (2, .arg 2), (3, .arg 3), (4, .arg 4), (5, .arg 5)], [], [], [(.lt, .arg 13, .arg 4, false)], [])]
def mbaXB_rs : List yR := []
theorem mbaXB_w : ywa mbaXB_A mbaXB_ss mbaXB_rs = true := by decide +kernel
theorem mbaXB_k : yis (yev mbaXB_A 3000 60 216 [248] (110, [(13, .arg 13), (7, .arg 7), (8, .arg 8), (16, .arg 16), (12, .arg 12), (15, .arg 15), (14, .arg 14), (10, .arg 10), (9, .arg 9), (11, .arg 11), (6, .int 1), (0, .index 338), (1, .arg 1), (2, .arg 2), (3, .arg 3), (4, .arg 4), (5, .arg 5)], [], mbaXB_O, mbaXB_C, [])) mbaXB_ss mbaXB_rs = true := by decide +kernel
def mbaXB_r (v1_ v2 v3 v4_ v5 v7 v8 v9 v10 v11 v12 v13 v14 v15 v16 : Int32) (k_ : Nat) : Value := bif Nat.beq k_ 1 then .int v1_ else (bif Nat.beq k_ 2 then .int v2 else (bif Nat.beq k_ 3 then .int v3 else (bif Nat.beq k_ 4 then .int v4_ else (bif Nat.beq k_ 5 then .int v5 else (bif Nat.beq k_ 7 then .int v7 else (bif Nat.beq k_ 8 then .int v8 else (bif Nat.beq k_ 9 then .int v9 else (bif Nat.beq k_ 10 then .int v10 else (bif Nat.beq k_ 11 then .int v11 else (bif Nat.beq k_ 12 then .int v12 else (bif Nat.beq k_ 13 then .int v13 else (bif Nat.beq k_ 14 then .int v14 else (bif Nat.beq k_ 15 then .int v15 else (bif Nat.beq k_ 16 then .int v16 else (.int 0)))))))))))))))
def mbaXB_s (n_ : Nat) : Nat := 0
theorem mbaXB {h_ : xH} {v1_ v2 v3 v4_ v5 v7 v8 v9 v10 v11 v12 v13 v14 v15 v16 : Int32} (hs : sHp h_) (c0_ : v4_.toInt ≤ v13.toInt) : ∃ h', ysm h_ h' ∧ (((∀ a_ j_ : Nat, bpat h' a_ j_ = bpat h_ a_ j_) ∧ (bldD 60 216 110 [(13, .int v13), (7, .int v7), (8, .int v8), (16, .int v16), (12, .int v12), (15, .int v15), (14, .int v14), (10, .int v10), (9, .int v9), (11, .int v11), (6, .int (1 : Int32)), (0, .index 338), (1, .int v1_), (2, .int v2), (3, .int v3), (4, .int v4_), (5, .int v5)] [] h_ 248 [(13, .int v13), (7, .int v7), (8, .int v8), (16, .int v16), (12, .int v12), (15, .int v15), (14, .int v14), (10, .int v10), (9, .int v9), (11, .int v11), (6, .int (1 : Int32)), (0, .index 338), (1, .int v1_), (2, .int v2), (3, .int v3), (4, .int v4_), (5, .int v5)] [] h'))) := by
  have hA : yas mbaXB_A (mbaXB_r v1_ v2 v3 v4_ v5 v7 v8 v9 v10 v11 v12 v13 v14 v15 v16) (yg mbaXB_s) := ⟨fun q_ hq => absurd hq List.not_mem_nil, fun q_ hq => absurd hq List.not_mem_nil, fun q_ hq => absurd hq List.not_mem_nil, fun n_ hn => yg_lo hn, fun q_ hq => absurd hq List.not_mem_nil⟩
  have Hs : ysh mbaXB_A.1 (yg mbaXB_s) h_ := ysh_of2 hs (fun q_ hq => absurd hq List.not_mem_nil)
  have Ho : ymem (mbaXB_r v1_ v2 v3 v4_ v5 v7 v8 v9 v10 v11 v12 v13 v14 v15 v16) (yg mbaXB_s) mbaXB_O h_ := fun q_ hq => absurd hq List.not_mem_nil
  have HC : ∀ q_ ∈ mbaXB_C, xhold (mbaXB_r v1_ v2 v3 v4_ v5 v7 v8 v9 v10 v11 v12 v13 v14 v15 v16) q_ := List.forall_mem_cons.mpr ⟨xh_ltF c0_, fun q_ hq => absurd hq List.not_mem_nil⟩
  rcases yrun (yis_ok mbaXB_k) hA Hs Ho HC with ⟨q_, hq, h', K_, G_⟩ | ⟨q_, hq, h', K_, G_⟩
  · have e_ := List.mem_singleton.mp hq
    subst e_
    exact ⟨h', yfr_sm K_.2.2.2 hs K_.1 (ywa_s mbaXB_w List.mem_cons_self), ⟨fun a_ j_ => yfr_bp K_.2.2.2 (fun q_ hq => absurd hq List.not_mem_nil), G_⟩⟩
  · cases hq
-- mbaV0B: 26 steps, 1 ends, 0 returns
def mbaV0B_L : List (Nat × Nat × Nat) := []
def mbaV0B_O : yO := []
def mbaV0B_A : yA := (yZ mbaV0B_L, [], [], [], [])
def mbaV0B_C : List xB := [(.eq, .arg 12, .int (Int32.ofInt (-1)), true), (.lt, .arg 20, .arg 7, true), (.lt, .arg 8, .arg 9, true)]
def mbaV0B_ss : List yS := [(220, [(12, .arg 12), (15, .int 0), (14, .int 0), (10, .arg 20), (9, .arg 9), (13, .arg 13), (7, .arg 7), (8, .arg 8), (16, .arg 16), (11, .arg 11), (6, .int 1), (0, .index 338), (1, .arg 1), (2, .arg 2), (3, .arg 3), (4, .arg 4), (5, .arg 5)], [.arg 13, .int 0, .arg 20, .arg 7, .index 338], [], [(.eq, .arg 12, .int (Int32.ofInt (-1)), true), (.lt, .arg 20, .arg 7, true), (.lt, .arg 8, .arg 9, true)], [])]
def mbaV0B_rs : List yR := []
theorem mbaV0B_w : ywa mbaV0B_A mbaV0B_ss mbaV0B_rs = true := by decide +kernel
theorem mbaV0B_k : yis (yev mbaV0B_A 3000 60 216 [220, 110] (143, [(9, .arg 9), (13, .arg 13), (7, .arg 7), (8, .arg 8), (16, .arg 16), (12, .arg 12), (15, .arg 15), (14, .arg 14), (10, .arg 10), (11, .arg 11), (6, .int 1), (0, .index 338), (1, .arg 1), (2, .arg 2), (3, .arg 3), (4, .arg 4), (5, .arg 5)], [.arg 20], mbaV0B_O, mbaV0B_C, [])) mbaV0B_ss mbaV0B_rs = true := by decide +kernel
def mbaV0B_r (v1_ v2 v3 v4_ v5 v7 v8 v9 v10 v11 v12 v13 v14 v15 v16 v20 : Int32) (k_ : Nat) : Value := bif Nat.beq k_ 1 then .int v1_ else (bif Nat.beq k_ 2 then .int v2 else (bif Nat.beq k_ 3 then .int v3 else (bif Nat.beq k_ 4 then .int v4_ else (bif Nat.beq k_ 5 then .int v5 else (bif Nat.beq k_ 7 then .int v7 else (bif Nat.beq k_ 8 then .int v8 else (bif Nat.beq k_ 9 then .int v9 else (bif Nat.beq k_ 10 then .int v10 else (bif Nat.beq k_ 11 then .int v11 else (bif Nat.beq k_ 12 then .int v12 else (bif Nat.beq k_ 13 then .int v13 else (bif Nat.beq k_ 14 then .int v14 else (bif Nat.beq k_ 15 then .int v15 else (bif Nat.beq k_ 16 then .int v16 else (bif Nat.beq k_ 20 then .int v20 else (.int 0))))))))))))))))
def mbaV0B_s (n_ : Nat) : Nat := 0
theorem mbaV0B {h_ : xH} {v1_ v2 v3 v4_ v5 v7 v8 v9 v10 v11 v12 v13 v14 v15 v16 v20 : Int32} (hs : sHp h_) (c0_ : v12 = (Int32.ofInt (-1))) (c1_ : v20.toInt < v7.toInt) (c2_ : v8.toInt < v9.toInt) : ∃ h', ysm h_ h' ∧ (((∀ a_ j_ : Nat, bpat h' a_ j_ = bpat h_ a_ j_) ∧ (bldD 60 216 143 [(9, .int v9), (13, .int v13), (7, .int v7), (8, .int v8), (16, .int v16), (12, .int v12), (15, .int v15), (14, .int v14), (10, .int v10), (11, .int v11), (6, .int (1 : Int32)), (0, .index 338), (1, .int v1_), (2, .int v2), (3, .int v3), (4, .int v4_), (5, .int v5)] [.int v20] h_ 220 [(12, .int v12), (15, .int (0 : Int32)), (14, .int (0 : Int32)), (10, .int v20), (9, .int v9), (13, .int v13), (7, .int v7), (8, .int v8), (16, .int v16), (11, .int v11), (6, .int (1 : Int32)), (0, .index 338), (1, .int v1_), (2, .int v2), (3, .int v3), (4, .int v4_), (5, .int v5)] [.int v13, .int (0 : Int32), .int v20, .int v7, .index 338] h'))) := by
  have hA : yas mbaV0B_A (mbaV0B_r v1_ v2 v3 v4_ v5 v7 v8 v9 v10 v11 v12 v13 v14 v15 v16 v20) (yg mbaV0B_s) := ⟨fun q_ hq => absurd hq List.not_mem_nil, fun q_ hq => absurd hq List.not_mem_nil, fun q_ hq => absurd hq List.not_mem_nil, fun n_ hn => yg_lo hn, fun q_ hq => absurd hq List.not_mem_nil⟩
  have Hs : ysh mbaV0B_A.1 (yg mbaV0B_s) h_ := ysh_of2 hs (fun q_ hq => absurd hq List.not_mem_nil)
  have Ho : ymem (mbaV0B_r v1_ v2 v3 v4_ v5 v7 v8 v9 v10 v11 v12 v13 v14 v15 v16 v20) (yg mbaV0B_s) mbaV0B_O h_ := fun q_ hq => absurd hq List.not_mem_nil
  have HC : ∀ q_ ∈ mbaV0B_C, xhold (mbaV0B_r v1_ v2 v3 v4_ v5 v7 v8 v9 v10 v11 v12 v13 v14 v15 v16 v20) q_ := List.forall_mem_cons.mpr ⟨xh_eqT2 c0_, List.forall_mem_cons.mpr ⟨xh_ltT c1_, List.forall_mem_cons.mpr ⟨xh_ltT c2_, fun q_ hq => absurd hq List.not_mem_nil⟩⟩⟩
  rcases yrun (yis_ok mbaV0B_k) hA Hs Ho HC with ⟨q_, hq, h', K_, G_⟩ | ⟨q_, hq, h', K_, G_⟩
  · have e_ := List.mem_singleton.mp hq
    subst e_
    exact ⟨h', yfr_sm K_.2.2.2 hs K_.1 (ywa_s mbaV0B_w List.mem_cons_self), ⟨fun a_ j_ => yfr_bp K_.2.2.2 (fun q_ hq => absurd hq List.not_mem_nil), G_⟩⟩
  · cases hq
-- mbaV0nB: 23 steps, 1 ends, 0 returns
def mbaV0nB_L : List (Nat × Nat × Nat) := []
def mbaV0nB_O : yO := []
def mbaV0nB_A : yA := (yZ mbaV0nB_L, [], [], [], [])
def mbaV0nB_C : List xB := [(.eq, .arg 12, .int (Int32.ofInt (-1)), false), (.lt, .arg 20, .arg 7, true), (.lt, .arg 8, .arg 9, true)]
def mbaV0nB_ss : List yS := [(220, [(12, .arg 12), (15, .int 0), (14, .int 0), (10, .arg 20), (9, .arg 9), (13, .arg 13), (7, .arg 7), (8, .arg 8), (16, .arg 16), (11, .arg 11), (6, .int 1), (0, .index 338), (1, .arg 1), (2, .arg 2), (3, .arg 3), (4, .arg 4), (5, .arg 5)], [.arg 13, .int 0, .arg 20, .arg 7, .index 338], [], [(.eq, .arg 12, .int (Int32.ofInt (-1)), false), (.lt, .arg 20, .arg 7, true), (.lt, .arg 8, .arg 9, true)], [])]
def mbaV0nB_rs : List yR := []
theorem mbaV0nB_w : ywa mbaV0nB_A mbaV0nB_ss mbaV0nB_rs = true := by decide +kernel
theorem mbaV0nB_k : yis (yev mbaV0nB_A 3000 60 216 [220, 110] (143, [(9, .arg 9), (13, .arg 13), (7, .arg 7), (8, .arg 8), (16, .arg 16), (12, .arg 12), (15, .arg 15), (14, .arg 14), (10, .arg 10), (11, .arg 11), (6, .int 1), (0, .index 338), (1, .arg 1), (2, .arg 2), (3, .arg 3), (4, .arg 4), (5, .arg 5)], [.arg 20], mbaV0nB_O, mbaV0nB_C, [])) mbaV0nB_ss mbaV0nB_rs = true := by decide +kernel
def mbaV0nB_r (v1_ v2 v3 v4_ v5 v7 v8 v9 v10 v11 v12 v13 v14 v15 v16 v20 : Int32) (k_ : Nat) : Value := bif Nat.beq k_ 1 then .int v1_ else (bif Nat.beq k_ 2 then .int v2 else (bif Nat.beq k_ 3 then .int v3 else (bif Nat.beq k_ 4 then .int v4_ else (bif Nat.beq k_ 5 then .int v5 else (bif Nat.beq k_ 7 then .int v7 else (bif Nat.beq k_ 8 then .int v8 else (bif Nat.beq k_ 9 then .int v9 else (bif Nat.beq k_ 10 then .int v10 else (bif Nat.beq k_ 11 then .int v11 else (bif Nat.beq k_ 12 then .int v12 else (bif Nat.beq k_ 13 then .int v13 else (bif Nat.beq k_ 14 then .int v14 else (bif Nat.beq k_ 15 then .int v15 else (bif Nat.beq k_ 16 then .int v16 else (bif Nat.beq k_ 20 then .int v20 else (.int 0))))))))))))))))
def mbaV0nB_s (n_ : Nat) : Nat := 0
theorem mbaV0nB {h_ : xH} {v1_ v2 v3 v4_ v5 v7 v8 v9 v10 v11 v12 v13 v14 v15 v16 v20 : Int32} (hs : sHp h_) (c0_ : ¬ v12 = (Int32.ofInt (-1))) (c1_ : v20.toInt < v7.toInt) (c2_ : v8.toInt < v9.toInt) : ∃ h', ysm h_ h' ∧ (((∀ a_ j_ : Nat, bpat h' a_ j_ = bpat h_ a_ j_) ∧ (bldD 60 216 143 [(9, .int v9), (13, .int v13), (7, .int v7), (8, .int v8), (16, .int v16), (12, .int v12), (15, .int v15), (14, .int v14), (10, .int v10), (11, .int v11), (6, .int (1 : Int32)), (0, .index 338), (1, .int v1_), (2, .int v2), (3, .int v3), (4, .int v4_), (5, .int v5)] [.int v20] h_ 220 [(12, .int v12), (15, .int (0 : Int32)), (14, .int (0 : Int32)), (10, .int v20), (9, .int v9), (13, .int v13), (7, .int v7), (8, .int v8), (16, .int v16), (11, .int v11), (6, .int (1 : Int32)), (0, .index 338), (1, .int v1_), (2, .int v2), (3, .int v3), (4, .int v4_), (5, .int v5)] [.int v13, .int (0 : Int32), .int v20, .int v7, .index 338] h'))) := by
  have hA : yas mbaV0nB_A (mbaV0nB_r v1_ v2 v3 v4_ v5 v7 v8 v9 v10 v11 v12 v13 v14 v15 v16 v20) (yg mbaV0nB_s) := ⟨fun q_ hq => absurd hq List.not_mem_nil, fun q_ hq => absurd hq List.not_mem_nil, fun q_ hq => absurd hq List.not_mem_nil, fun n_ hn => yg_lo hn, fun q_ hq => absurd hq List.not_mem_nil⟩
  have Hs : ysh mbaV0nB_A.1 (yg mbaV0nB_s) h_ := ysh_of2 hs (fun q_ hq => absurd hq List.not_mem_nil)
  have Ho : ymem (mbaV0nB_r v1_ v2 v3 v4_ v5 v7 v8 v9 v10 v11 v12 v13 v14 v15 v16 v20) (yg mbaV0nB_s) mbaV0nB_O h_ := fun q_ hq => absurd hq List.not_mem_nil
  have HC : ∀ q_ ∈ mbaV0nB_C, xhold (mbaV0nB_r v1_ v2 v3 v4_ v5 v7 v8 v9 v10 v11 v12 v13 v14 v15 v16 v20) q_ := List.forall_mem_cons.mpr ⟨xh_eqF2 c0_, List.forall_mem_cons.mpr ⟨xh_ltT c1_, List.forall_mem_cons.mpr ⟨xh_ltT c2_, fun q_ hq => absurd hq List.not_mem_nil⟩⟩⟩
  rcases yrun (yis_ok mbaV0nB_k) hA Hs Ho HC with ⟨q_, hq, h', K_, G_⟩ | ⟨q_, hq, h', K_, G_⟩
  · have e_ := List.mem_singleton.mp hq
    subst e_
    exact ⟨h', yfr_sm K_.2.2.2 hs K_.1 (ywa_s mbaV0nB_w List.mem_cons_self), ⟨fun a_ j_ => yfr_bp K_.2.2.2 (fun q_ hq => absurd hq List.not_mem_nil), G_⟩⟩
  · cases hq
-- mbaV1B: 28 steps, 1 ends, 0 returns
def mbaV1B_L : List (Nat × Nat × Nat) := []
def mbaV1B_O : yO := []
def mbaV1B_A : yA := (yZ mbaV1B_L, [], [], [], [])
def mbaV1B_C : List xB := [(.eq, .arg 12, .int (Int32.ofInt (-1)), true), (.lt, .arg 20, .arg 7, false), (.lt, .arg 8, .arg 9, true)]
def mbaV1B_ss : List yS := [(220, [(12, .arg 13), (15, .int 1), (14, .int 0), (10, .arg 20), (9, .arg 9), (13, .arg 13), (7, .arg 7), (8, .arg 8), (16, .arg 16), (11, .arg 11), (6, .int 1), (0, .index 338), (1, .arg 1), (2, .arg 2), (3, .arg 3), (4, .arg 4), (5, .arg 5)], [.arg 13, .int 0, .arg 20, .arg 7, .index 338], [], [(.eq, .arg 12, .int (Int32.ofInt (-1)), true), (.lt, .arg 20, .arg 7, false), (.lt, .arg 8, .arg 9, true)], [])]
def mbaV1B_rs : List yR := []
theorem mbaV1B_w : ywa mbaV1B_A mbaV1B_ss mbaV1B_rs = true := by decide +kernel
theorem mbaV1B_k : yis (yev mbaV1B_A 3000 60 216 [220, 110] (143, [(9, .arg 9), (13, .arg 13), (7, .arg 7), (8, .arg 8), (16, .arg 16), (12, .arg 12), (15, .arg 15), (14, .arg 14), (10, .arg 10), (11, .arg 11), (6, .int 1), (0, .index 338), (1, .arg 1), (2, .arg 2), (3, .arg 3), (4, .arg 4), (5, .arg 5)], [.arg 20], mbaV1B_O, mbaV1B_C, [])) mbaV1B_ss mbaV1B_rs = true := by decide +kernel
def mbaV1B_r (v1_ v2 v3 v4_ v5 v7 v8 v9 v10 v11 v12 v13 v14 v15 v16 v20 : Int32) (k_ : Nat) : Value := bif Nat.beq k_ 1 then .int v1_ else (bif Nat.beq k_ 2 then .int v2 else (bif Nat.beq k_ 3 then .int v3 else (bif Nat.beq k_ 4 then .int v4_ else (bif Nat.beq k_ 5 then .int v5 else (bif Nat.beq k_ 7 then .int v7 else (bif Nat.beq k_ 8 then .int v8 else (bif Nat.beq k_ 9 then .int v9 else (bif Nat.beq k_ 10 then .int v10 else (bif Nat.beq k_ 11 then .int v11 else (bif Nat.beq k_ 12 then .int v12 else (bif Nat.beq k_ 13 then .int v13 else (bif Nat.beq k_ 14 then .int v14 else (bif Nat.beq k_ 15 then .int v15 else (bif Nat.beq k_ 16 then .int v16 else (bif Nat.beq k_ 20 then .int v20 else (.int 0))))))))))))))))
def mbaV1B_s (n_ : Nat) : Nat := 0
theorem mbaV1B {h_ : xH} {v1_ v2 v3 v4_ v5 v7 v8 v9 v10 v11 v12 v13 v14 v15 v16 v20 : Int32} (hs : sHp h_) (c0_ : v12 = (Int32.ofInt (-1))) (c1_ : v7.toInt ≤ v20.toInt) (c2_ : v8.toInt < v9.toInt) : ∃ h', ysm h_ h' ∧ (((∀ a_ j_ : Nat, bpat h' a_ j_ = bpat h_ a_ j_) ∧ (bldD 60 216 143 [(9, .int v9), (13, .int v13), (7, .int v7), (8, .int v8), (16, .int v16), (12, .int v12), (15, .int v15), (14, .int v14), (10, .int v10), (11, .int v11), (6, .int (1 : Int32)), (0, .index 338), (1, .int v1_), (2, .int v2), (3, .int v3), (4, .int v4_), (5, .int v5)] [.int v20] h_ 220 [(12, .int v13), (15, .int (1 : Int32)), (14, .int (0 : Int32)), (10, .int v20), (9, .int v9), (13, .int v13), (7, .int v7), (8, .int v8), (16, .int v16), (11, .int v11), (6, .int (1 : Int32)), (0, .index 338), (1, .int v1_), (2, .int v2), (3, .int v3), (4, .int v4_), (5, .int v5)] [.int v13, .int (0 : Int32), .int v20, .int v7, .index 338] h'))) := by
  have hA : yas mbaV1B_A (mbaV1B_r v1_ v2 v3 v4_ v5 v7 v8 v9 v10 v11 v12 v13 v14 v15 v16 v20) (yg mbaV1B_s) := ⟨fun q_ hq => absurd hq List.not_mem_nil, fun q_ hq => absurd hq List.not_mem_nil, fun q_ hq => absurd hq List.not_mem_nil, fun n_ hn => yg_lo hn, fun q_ hq => absurd hq List.not_mem_nil⟩
  have Hs : ysh mbaV1B_A.1 (yg mbaV1B_s) h_ := ysh_of2 hs (fun q_ hq => absurd hq List.not_mem_nil)
  have Ho : ymem (mbaV1B_r v1_ v2 v3 v4_ v5 v7 v8 v9 v10 v11 v12 v13 v14 v15 v16 v20) (yg mbaV1B_s) mbaV1B_O h_ := fun q_ hq => absurd hq List.not_mem_nil
  have HC : ∀ q_ ∈ mbaV1B_C, xhold (mbaV1B_r v1_ v2 v3 v4_ v5 v7 v8 v9 v10 v11 v12 v13 v14 v15 v16 v20) q_ := List.forall_mem_cons.mpr ⟨xh_eqT2 c0_, List.forall_mem_cons.mpr ⟨xh_ltF c1_, List.forall_mem_cons.mpr ⟨xh_ltT c2_, fun q_ hq => absurd hq List.not_mem_nil⟩⟩⟩
  rcases yrun (yis_ok mbaV1B_k) hA Hs Ho HC with ⟨q_, hq, h', K_, G_⟩ | ⟨q_, hq, h', K_, G_⟩
  · have e_ := List.mem_singleton.mp hq
    subst e_
    exact ⟨h', yfr_sm K_.2.2.2 hs K_.1 (ywa_s mbaV1B_w List.mem_cons_self), ⟨fun a_ j_ => yfr_bp K_.2.2.2 (fun q_ hq => absurd hq List.not_mem_nil), G_⟩⟩
  · cases hq
-- mbaV2B: 24 steps, 1 ends, 0 returns
def mbaV2B_L : List (Nat × Nat × Nat) := []
def mbaV2B_O : yO := []
def mbaV2B_A : yA := (yZ mbaV2B_L, [], [], [], [])
def mbaV2B_C : List xB := [(.eq, .arg 12, .int (Int32.ofInt (-1)), false), (.lt, .arg 20, .arg 7, false), (.lt, .arg 8, .arg 9, true)]
def mbaV2B_ss : List yS := [(220, [(12, .arg 12), (15, .int 1), (14, .int 0), (10, .arg 20), (9, .arg 9), (13, .arg 13), (7, .arg 7), (8, .arg 8), (16, .arg 16), (11, .arg 11), (6, .int 1), (0, .index 338), (1, .arg 1), (2, .arg 2), (3, .arg 3), (4, .arg 4), (5, .arg 5)], [.arg 13, .int 0, .arg 20, .arg 7, .index 338], [], [(.eq, .arg 12, .int (Int32.ofInt (-1)), false), (.lt, .arg 20, .arg 7, false), (.lt, .arg 8, .arg 9, true)], [])]
def mbaV2B_rs : List yR := []
theorem mbaV2B_w : ywa mbaV2B_A mbaV2B_ss mbaV2B_rs = true := by decide +kernel
theorem mbaV2B_k : yis (yev mbaV2B_A 3000 60 216 [220, 110] (143, [(9, .arg 9), (13, .arg 13), (7, .arg 7), (8, .arg 8), (16, .arg 16), (12, .arg 12), (15, .arg 15), (14, .arg 14), (10, .arg 10), (11, .arg 11), (6, .int 1), (0, .index 338), (1, .arg 1), (2, .arg 2), (3, .arg 3), (4, .arg 4), (5, .arg 5)], [.arg 20], mbaV2B_O, mbaV2B_C, [])) mbaV2B_ss mbaV2B_rs = true := by decide +kernel
def mbaV2B_r (v1_ v2 v3 v4_ v5 v7 v8 v9 v10 v11 v12 v13 v14 v15 v16 v20 : Int32) (k_ : Nat) : Value := bif Nat.beq k_ 1 then .int v1_ else (bif Nat.beq k_ 2 then .int v2 else (bif Nat.beq k_ 3 then .int v3 else (bif Nat.beq k_ 4 then .int v4_ else (bif Nat.beq k_ 5 then .int v5 else (bif Nat.beq k_ 7 then .int v7 else (bif Nat.beq k_ 8 then .int v8 else (bif Nat.beq k_ 9 then .int v9 else (bif Nat.beq k_ 10 then .int v10 else (bif Nat.beq k_ 11 then .int v11 else (bif Nat.beq k_ 12 then .int v12 else (bif Nat.beq k_ 13 then .int v13 else (bif Nat.beq k_ 14 then .int v14 else (bif Nat.beq k_ 15 then .int v15 else (bif Nat.beq k_ 16 then .int v16 else (bif Nat.beq k_ 20 then .int v20 else (.int 0))))))))))))))))
def mbaV2B_s (n_ : Nat) : Nat := 0
theorem mbaV2B {h_ : xH} {v1_ v2 v3 v4_ v5 v7 v8 v9 v10 v11 v12 v13 v14 v15 v16 v20 : Int32} (hs : sHp h_) (c0_ : ¬ v12 = (Int32.ofInt (-1))) (c1_ : v7.toInt ≤ v20.toInt) (c2_ : v8.toInt < v9.toInt) : ∃ h', ysm h_ h' ∧ (((∀ a_ j_ : Nat, bpat h' a_ j_ = bpat h_ a_ j_) ∧ (bldD 60 216 143 [(9, .int v9), (13, .int v13), (7, .int v7), (8, .int v8), (16, .int v16), (12, .int v12), (15, .int v15), (14, .int v14), (10, .int v10), (11, .int v11), (6, .int (1 : Int32)), (0, .index 338), (1, .int v1_), (2, .int v2), (3, .int v3), (4, .int v4_), (5, .int v5)] [.int v20] h_ 220 [(12, .int v12), (15, .int (1 : Int32)), (14, .int (0 : Int32)), (10, .int v20), (9, .int v9), (13, .int v13), (7, .int v7), (8, .int v8), (16, .int v16), (11, .int v11), (6, .int (1 : Int32)), (0, .index 338), (1, .int v1_), (2, .int v2), (3, .int v3), (4, .int v4_), (5, .int v5)] [.int v13, .int (0 : Int32), .int v20, .int v7, .index 338] h'))) := by
  have hA : yas mbaV2B_A (mbaV2B_r v1_ v2 v3 v4_ v5 v7 v8 v9 v10 v11 v12 v13 v14 v15 v16 v20) (yg mbaV2B_s) := ⟨fun q_ hq => absurd hq List.not_mem_nil, fun q_ hq => absurd hq List.not_mem_nil, fun q_ hq => absurd hq List.not_mem_nil, fun n_ hn => yg_lo hn, fun q_ hq => absurd hq List.not_mem_nil⟩
  have Hs : ysh mbaV2B_A.1 (yg mbaV2B_s) h_ := ysh_of2 hs (fun q_ hq => absurd hq List.not_mem_nil)
  have Ho : ymem (mbaV2B_r v1_ v2 v3 v4_ v5 v7 v8 v9 v10 v11 v12 v13 v14 v15 v16 v20) (yg mbaV2B_s) mbaV2B_O h_ := fun q_ hq => absurd hq List.not_mem_nil
  have HC : ∀ q_ ∈ mbaV2B_C, xhold (mbaV2B_r v1_ v2 v3 v4_ v5 v7 v8 v9 v10 v11 v12 v13 v14 v15 v16 v20) q_ := List.forall_mem_cons.mpr ⟨xh_eqF2 c0_, List.forall_mem_cons.mpr ⟨xh_ltF c1_, List.forall_mem_cons.mpr ⟨xh_ltT c2_, fun q_ hq => absurd hq List.not_mem_nil⟩⟩⟩
  rcases yrun (yis_ok mbaV2B_k) hA Hs Ho HC with ⟨q_, hq, h', K_, G_⟩ | ⟨q_, hq, h', K_, G_⟩
  · have e_ := List.mem_singleton.mp hq
    subst e_
    exact ⟨h', yfr_sm K_.2.2.2 hs K_.1 (ywa_s mbaV2B_w List.mem_cons_self), ⟨fun a_ j_ => yfr_bp K_.2.2.2 (fun q_ hq => absurd hq List.not_mem_nil), G_⟩⟩
  · cases hq
-- mbaV3B: 30 steps, 1 ends, 0 returns
def mbaV3B_L : List (Nat × Nat × Nat) := []
def mbaV3B_O : yO := []
def mbaV3B_A : yA := (yZ mbaV3B_L, [], [], [], [])
def mbaV3B_C : List xB := [(.eq, .arg 12, .int (Int32.ofInt (-1)), true), (.lt, .arg 20, .arg 7, true), (.lt, .arg 8, .arg 9, false)]
def mbaV3B_ss : List yS := [(220, [(12, .arg 13), (15, .int 0), (14, .int 1), (10, .arg 20), (9, .arg 9), (13, .arg 13), (7, .arg 7), (8, .arg 8), (16, .arg 16), (11, .arg 11), (6, .int 1), (0, .index 338), (1, .arg 1), (2, .arg 2), (3, .arg 3), (4, .arg 4), (5, .arg 5)], [.arg 13, .int 0, .arg 20, .arg 7, .index 338], [], [(.eq, .arg 12, .int (Int32.ofInt (-1)), true), (.lt, .arg 20, .arg 7, true), (.lt, .arg 8, .arg 9, false)], [])]
def mbaV3B_rs : List yR := []
theorem mbaV3B_w : ywa mbaV3B_A mbaV3B_ss mbaV3B_rs = true := by decide +kernel
theorem mbaV3B_k : yis (yev mbaV3B_A 3000 60 216 [220, 110] (143, [(9, .arg 9), (13, .arg 13), (7, .arg 7), (8, .arg 8), (16, .arg 16), (12, .arg 12), (15, .arg 15), (14, .arg 14), (10, .arg 10), (11, .arg 11), (6, .int 1), (0, .index 338), (1, .arg 1), (2, .arg 2), (3, .arg 3), (4, .arg 4), (5, .arg 5)], [.arg 20], mbaV3B_O, mbaV3B_C, [])) mbaV3B_ss mbaV3B_rs = true := by decide +kernel
def mbaV3B_r (v1_ v2 v3 v4_ v5 v7 v8 v9 v10 v11 v12 v13 v14 v15 v16 v20 : Int32) (k_ : Nat) : Value := bif Nat.beq k_ 1 then .int v1_ else (bif Nat.beq k_ 2 then .int v2 else (bif Nat.beq k_ 3 then .int v3 else (bif Nat.beq k_ 4 then .int v4_ else (bif Nat.beq k_ 5 then .int v5 else (bif Nat.beq k_ 7 then .int v7 else (bif Nat.beq k_ 8 then .int v8 else (bif Nat.beq k_ 9 then .int v9 else (bif Nat.beq k_ 10 then .int v10 else (bif Nat.beq k_ 11 then .int v11 else (bif Nat.beq k_ 12 then .int v12 else (bif Nat.beq k_ 13 then .int v13 else (bif Nat.beq k_ 14 then .int v14 else (bif Nat.beq k_ 15 then .int v15 else (bif Nat.beq k_ 16 then .int v16 else (bif Nat.beq k_ 20 then .int v20 else (.int 0))))))))))))))))
def mbaV3B_s (n_ : Nat) : Nat := 0
theorem mbaV3B {h_ : xH} {v1_ v2 v3 v4_ v5 v7 v8 v9 v10 v11 v12 v13 v14 v15 v16 v20 : Int32} (hs : sHp h_) (c0_ : v12 = (Int32.ofInt (-1))) (c1_ : v20.toInt < v7.toInt) (c2_ : v9.toInt ≤ v8.toInt) : ∃ h', ysm h_ h' ∧ (((∀ a_ j_ : Nat, bpat h' a_ j_ = bpat h_ a_ j_) ∧ (bldD 60 216 143 [(9, .int v9), (13, .int v13), (7, .int v7), (8, .int v8), (16, .int v16), (12, .int v12), (15, .int v15), (14, .int v14), (10, .int v10), (11, .int v11), (6, .int (1 : Int32)), (0, .index 338), (1, .int v1_), (2, .int v2), (3, .int v3), (4, .int v4_), (5, .int v5)] [.int v20] h_ 220 [(12, .int v13), (15, .int (0 : Int32)), (14, .int (1 : Int32)), (10, .int v20), (9, .int v9), (13, .int v13), (7, .int v7), (8, .int v8), (16, .int v16), (11, .int v11), (6, .int (1 : Int32)), (0, .index 338), (1, .int v1_), (2, .int v2), (3, .int v3), (4, .int v4_), (5, .int v5)] [.int v13, .int (0 : Int32), .int v20, .int v7, .index 338] h'))) := by
  have hA : yas mbaV3B_A (mbaV3B_r v1_ v2 v3 v4_ v5 v7 v8 v9 v10 v11 v12 v13 v14 v15 v16 v20) (yg mbaV3B_s) := ⟨fun q_ hq => absurd hq List.not_mem_nil, fun q_ hq => absurd hq List.not_mem_nil, fun q_ hq => absurd hq List.not_mem_nil, fun n_ hn => yg_lo hn, fun q_ hq => absurd hq List.not_mem_nil⟩
  have Hs : ysh mbaV3B_A.1 (yg mbaV3B_s) h_ := ysh_of2 hs (fun q_ hq => absurd hq List.not_mem_nil)
  have Ho : ymem (mbaV3B_r v1_ v2 v3 v4_ v5 v7 v8 v9 v10 v11 v12 v13 v14 v15 v16 v20) (yg mbaV3B_s) mbaV3B_O h_ := fun q_ hq => absurd hq List.not_mem_nil
  have HC : ∀ q_ ∈ mbaV3B_C, xhold (mbaV3B_r v1_ v2 v3 v4_ v5 v7 v8 v9 v10 v11 v12 v13 v14 v15 v16 v20) q_ := List.forall_mem_cons.mpr ⟨xh_eqT2 c0_, List.forall_mem_cons.mpr ⟨xh_ltT c1_, List.forall_mem_cons.mpr ⟨xh_ltF c2_, fun q_ hq => absurd hq List.not_mem_nil⟩⟩⟩
  rcases yrun (yis_ok mbaV3B_k) hA Hs Ho HC with ⟨q_, hq, h', K_, G_⟩ | ⟨q_, hq, h', K_, G_⟩
  · have e_ := List.mem_singleton.mp hq
    subst e_
    exact ⟨h', yfr_sm K_.2.2.2 hs K_.1 (ywa_s mbaV3B_w List.mem_cons_self), ⟨fun a_ j_ => yfr_bp K_.2.2.2 (fun q_ hq => absurd hq List.not_mem_nil), G_⟩⟩
  · cases hq
-- mbaV4B: 26 steps, 1 ends, 0 returns
def mbaV4B_L : List (Nat × Nat × Nat) := []
def mbaV4B_O : yO := []
def mbaV4B_A : yA := (yZ mbaV4B_L, [], [], [], [])
def mbaV4B_C : List xB := [(.eq, .arg 12, .int (Int32.ofInt (-1)), false), (.lt, .arg 20, .arg 7, true), (.lt, .arg 8, .arg 9, false)]
def mbaV4B_ss : List yS := [(220, [(12, .arg 12), (15, .int 0), (14, .int 1), (10, .arg 20), (9, .arg 9), (13, .arg 13), (7, .arg 7), (8, .arg 8), (16, .arg 16), (11, .arg 11), (6, .int 1), (0, .index 338), (1, .arg 1), (2, .arg 2), (3, .arg 3), (4, .arg 4), (5, .arg 5)], [.arg 13, .int 0, .arg 20, .arg 7, .index 338], [], [(.eq, .arg 12, .int (Int32.ofInt (-1)), false), (.lt, .arg 20, .arg 7, true), (.lt, .arg 8, .arg 9, false)], [])]
def mbaV4B_rs : List yR := []
theorem mbaV4B_w : ywa mbaV4B_A mbaV4B_ss mbaV4B_rs = true := by decide +kernel
theorem mbaV4B_k : yis (yev mbaV4B_A 3000 60 216 [220, 110] (143, [(9, .arg 9), (13, .arg 13), (7, .arg 7), (8, .arg 8), (16, .arg 16), (12, .arg 12), (15, .arg 15), (14, .arg 14), (10, .arg 10), (11, .arg 11), (6, .int 1), (0, .index 338), (1, .arg 1), (2, .arg 2), (3, .arg 3), (4, .arg 4), (5, .arg 5)], [.arg 20], mbaV4B_O, mbaV4B_C, [])) mbaV4B_ss mbaV4B_rs = true := by decide +kernel
def mbaV4B_r (v1_ v2 v3 v4_ v5 v7 v8 v9 v10 v11 v12 v13 v14 v15 v16 v20 : Int32) (k_ : Nat) : Value := bif Nat.beq k_ 1 then .int v1_ else (bif Nat.beq k_ 2 then .int v2 else (bif Nat.beq k_ 3 then .int v3 else (bif Nat.beq k_ 4 then .int v4_ else (bif Nat.beq k_ 5 then .int v5 else (bif Nat.beq k_ 7 then .int v7 else (bif Nat.beq k_ 8 then .int v8 else (bif Nat.beq k_ 9 then .int v9 else (bif Nat.beq k_ 10 then .int v10 else (bif Nat.beq k_ 11 then .int v11 else (bif Nat.beq k_ 12 then .int v12 else (bif Nat.beq k_ 13 then .int v13 else (bif Nat.beq k_ 14 then .int v14 else (bif Nat.beq k_ 15 then .int v15 else (bif Nat.beq k_ 16 then .int v16 else (bif Nat.beq k_ 20 then .int v20 else (.int 0))))))))))))))))
def mbaV4B_s (n_ : Nat) : Nat := 0
theorem mbaV4B {h_ : xH} {v1_ v2 v3 v4_ v5 v7 v8 v9 v10 v11 v12 v13 v14 v15 v16 v20 : Int32} (hs : sHp h_) (c0_ : ¬ v12 = (Int32.ofInt (-1))) (c1_ : v20.toInt < v7.toInt) (c2_ : v9.toInt ≤ v8.toInt) : ∃ h', ysm h_ h' ∧ (((∀ a_ j_ : Nat, bpat h' a_ j_ = bpat h_ a_ j_) ∧ (bldD 60 216 143 [(9, .int v9), (13, .int v13), (7, .int v7), (8, .int v8), (16, .int v16), (12, .int v12), (15, .int v15), (14, .int v14), (10, .int v10), (11, .int v11), (6, .int (1 : Int32)), (0, .index 338), (1, .int v1_), (2, .int v2), (3, .int v3), (4, .int v4_), (5, .int v5)] [.int v20] h_ 220 [(12, .int v12), (15, .int (0 : Int32)), (14, .int (1 : Int32)), (10, .int v20), (9, .int v9), (13, .int v13), (7, .int v7), (8, .int v8), (16, .int v16), (11, .int v11), (6, .int (1 : Int32)), (0, .index 338), (1, .int v1_), (2, .int v2), (3, .int v3), (4, .int v4_), (5, .int v5)] [.int v13, .int (0 : Int32), .int v20, .int v7, .index 338] h'))) := by
  have hA : yas mbaV4B_A (mbaV4B_r v1_ v2 v3 v4_ v5 v7 v8 v9 v10 v11 v12 v13 v14 v15 v16 v20) (yg mbaV4B_s) := ⟨fun q_ hq => absurd hq List.not_mem_nil, fun q_ hq => absurd hq List.not_mem_nil, fun q_ hq => absurd hq List.not_mem_nil, fun n_ hn => yg_lo hn, fun q_ hq => absurd hq List.not_mem_nil⟩
  have Hs : ysh mbaV4B_A.1 (yg mbaV4B_s) h_ := ysh_of2 hs (fun q_ hq => absurd hq List.not_mem_nil)
  have Ho : ymem (mbaV4B_r v1_ v2 v3 v4_ v5 v7 v8 v9 v10 v11 v12 v13 v14 v15 v16 v20) (yg mbaV4B_s) mbaV4B_O h_ := fun q_ hq => absurd hq List.not_mem_nil
  have HC : ∀ q_ ∈ mbaV4B_C, xhold (mbaV4B_r v1_ v2 v3 v4_ v5 v7 v8 v9 v10 v11 v12 v13 v14 v15 v16 v20) q_ := List.forall_mem_cons.mpr ⟨xh_eqF2 c0_, List.forall_mem_cons.mpr ⟨xh_ltT c1_, List.forall_mem_cons.mpr ⟨xh_ltF c2_, fun q_ hq => absurd hq List.not_mem_nil⟩⟩⟩
  rcases yrun (yis_ok mbaV4B_k) hA Hs Ho HC with ⟨q_, hq, h', K_, G_⟩ | ⟨q_, hq, h', K_, G_⟩
  · have e_ := List.mem_singleton.mp hq
    subst e_
    exact ⟨h', yfr_sm K_.2.2.2 hs K_.1 (ywa_s mbaV4B_w List.mem_cons_self), ⟨fun a_ j_ => yfr_bp K_.2.2.2 (fun q_ hq => absurd hq List.not_mem_nil), G_⟩⟩
  · cases hq
-- mbaV5B: 30 steps, 1 ends, 0 returns
def mbaV5B_L : List (Nat × Nat × Nat) := []
def mbaV5B_O : yO := []
def mbaV5B_A : yA := (yZ mbaV5B_L, [], [], [], [])
def mbaV5B_C : List xB := [(.eq, .arg 12, .int (Int32.ofInt (-1)), true), (.lt, .arg 20, .arg 7, false), (.lt, .arg 8, .arg 9, false)]
def mbaV5B_ss : List yS := [(110, [(13, .add (.arg 13) (.int 1)), (11, .arg 13), (12, .arg 12), (15, .int 1), (14, .int 1), (10, .arg 20), (9, .arg 9), (7, .arg 7), (8, .arg 8), (16, .arg 16), (6, .int 1), (0, .index 338), (1, .arg 1), (2, .arg 2), (3, .arg 3), (4, .arg 4), (5, .arg 5)], [], [], [(.eq, .arg 12, .int (Int32.ofInt (-1)), true), (.lt, .arg 20, .arg 7, false), (.lt, .arg 8, .arg 9, false)], [])]
def mbaV5B_rs : List yR := []
theorem mbaV5B_w : ywa mbaV5B_A mbaV5B_ss mbaV5B_rs = true := by decide +kernel
theorem mbaV5B_k : yis (yev mbaV5B_A 3000 60 216 [220, 110] (143, [(9, .arg 9), (13, .arg 13), (7, .arg 7), (8, .arg 8), (16, .arg 16), (12, .arg 12), (15, .arg 15), (14, .arg 14), (10, .arg 10), (11, .arg 11), (6, .int 1), (0, .index 338), (1, .arg 1), (2, .arg 2), (3, .arg 3), (4, .arg 4), (5, .arg 5)], [.arg 20], mbaV5B_O, mbaV5B_C, [])) mbaV5B_ss mbaV5B_rs = true := by decide +kernel
def mbaV5B_r (v1_ v2 v3 v4_ v5 v7 v8 v9 v10 v11 v12 v13 v14 v15 v16 v20 : Int32) (k_ : Nat) : Value := bif Nat.beq k_ 1 then .int v1_ else (bif Nat.beq k_ 2 then .int v2 else (bif Nat.beq k_ 3 then .int v3 else (bif Nat.beq k_ 4 then .int v4_ else (bif Nat.beq k_ 5 then .int v5 else (bif Nat.beq k_ 7 then .int v7 else (bif Nat.beq k_ 8 then .int v8 else (bif Nat.beq k_ 9 then .int v9 else (bif Nat.beq k_ 10 then .int v10 else (bif Nat.beq k_ 11 then .int v11 else (bif Nat.beq k_ 12 then .int v12 else (bif Nat.beq k_ 13 then .int v13 else (bif Nat.beq k_ 14 then .int v14 else (bif Nat.beq k_ 15 then .int v15 else (bif Nat.beq k_ 16 then .int v16 else (bif Nat.beq k_ 20 then .int v20 else (.int 0))))))))))))))))
def mbaV5B_s (n_ : Nat) : Nat := 0
theorem mbaV5B {h_ : xH} {v1_ v2 v3 v4_ v5 v7 v8 v9 v10 v11 v12 v13 v14 v15 v16 v20 : Int32} (hs : sHp h_) (c0_ : v12 = (Int32.ofInt (-1))) (c1_ : v7.toInt ≤ v20.toInt) (c2_ : v9.toInt ≤ v8.toInt) : ∃ h', ysm h_ h' ∧ (((∀ a_ j_ : Nat, bpat h' a_ j_ = bpat h_ a_ j_) ∧ (bldD 60 216 143 [(9, .int v9), (13, .int v13), (7, .int v7), (8, .int v8), (16, .int v16), (12, .int v12), (15, .int v15), (14, .int v14), (10, .int v10), (11, .int v11), (6, .int (1 : Int32)), (0, .index 338), (1, .int v1_), (2, .int v2), (3, .int v3), (4, .int v4_), (5, .int v5)] [.int v20] h_ 110 [(13, .int (v13 + (1 : Int32))), (11, .int v13), (12, .int v12), (15, .int (1 : Int32)), (14, .int (1 : Int32)), (10, .int v20), (9, .int v9), (7, .int v7), (8, .int v8), (16, .int v16), (6, .int (1 : Int32)), (0, .index 338), (1, .int v1_), (2, .int v2), (3, .int v3), (4, .int v4_), (5, .int v5)] [] h'))) := by
  have hA : yas mbaV5B_A (mbaV5B_r v1_ v2 v3 v4_ v5 v7 v8 v9 v10 v11 v12 v13 v14 v15 v16 v20) (yg mbaV5B_s) := ⟨fun q_ hq => absurd hq List.not_mem_nil, fun q_ hq => absurd hq List.not_mem_nil, fun q_ hq => absurd hq List.not_mem_nil, fun n_ hn => yg_lo hn, fun q_ hq => absurd hq List.not_mem_nil⟩
  have Hs : ysh mbaV5B_A.1 (yg mbaV5B_s) h_ := ysh_of2 hs (fun q_ hq => absurd hq List.not_mem_nil)
  have Ho : ymem (mbaV5B_r v1_ v2 v3 v4_ v5 v7 v8 v9 v10 v11 v12 v13 v14 v15 v16 v20) (yg mbaV5B_s) mbaV5B_O h_ := fun q_ hq => absurd hq List.not_mem_nil
  have HC : ∀ q_ ∈ mbaV5B_C, xhold (mbaV5B_r v1_ v2 v3 v4_ v5 v7 v8 v9 v10 v11 v12 v13 v14 v15 v16 v20) q_ := List.forall_mem_cons.mpr ⟨xh_eqT2 c0_, List.forall_mem_cons.mpr ⟨xh_ltF c1_, List.forall_mem_cons.mpr ⟨xh_ltF c2_, fun q_ hq => absurd hq List.not_mem_nil⟩⟩⟩
  rcases yrun (yis_ok mbaV5B_k) hA Hs Ho HC with ⟨q_, hq, h', K_, G_⟩ | ⟨q_, hq, h', K_, G_⟩
  · have e_ := List.mem_singleton.mp hq
    subst e_
    exact ⟨h', yfr_sm K_.2.2.2 hs K_.1 (ywa_s mbaV5B_w List.mem_cons_self), ⟨fun a_ j_ => yfr_bp K_.2.2.2 (fun q_ hq => absurd hq List.not_mem_nil), G_⟩⟩
  · cases hq
-- mbaV5nB: 27 steps, 1 ends, 0 returns
def mbaV5nB_L : List (Nat × Nat × Nat) := []
def mbaV5nB_O : yO := []
def mbaV5nB_A : yA := (yZ mbaV5nB_L, [], [], [], [])
def mbaV5nB_C : List xB := [(.eq, .arg 12, .int (Int32.ofInt (-1)), false), (.lt, .arg 20, .arg 7, false), (.lt, .arg 8, .arg 9, false)]
def mbaV5nB_ss : List yS := [(110, [(13, .add (.arg 13) (.int 1)), (11, .arg 13), (12, .arg 12), (15, .int 1), (14, .int 1), (10, .arg 20), (9, .arg 9), (7, .arg 7), (8, .arg 8), (16, .arg 16), (6, .int 1), (0, .index 338), (1, .arg 1), (2, .arg 2), (3, .arg 3), (4, .arg 4), (5, .arg 5)], [], [], [(.eq, .arg 12, .int (Int32.ofInt (-1)), false), (.lt, .arg 20, .arg 7, false), (.lt, .arg 8, .arg 9, false)], [])]
def mbaV5nB_rs : List yR := []
theorem mbaV5nB_w : ywa mbaV5nB_A mbaV5nB_ss mbaV5nB_rs = true := by decide +kernel
theorem mbaV5nB_k : yis (yev mbaV5nB_A 3000 60 216 [220, 110] (143, [(9, .arg 9), (13, .arg 13), (7, .arg 7), (8, .arg 8), (16, .arg 16), (12, .arg 12), (15, .arg 15), (14, .arg 14), (10, .arg 10), (11, .arg 11), (6, .int 1), (0, .index 338), (1, .arg 1), (2, .arg 2), (3, .arg 3), (4, .arg 4), (5, .arg 5)], [.arg 20], mbaV5nB_O, mbaV5nB_C, [])) mbaV5nB_ss mbaV5nB_rs = true := by decide +kernel
def mbaV5nB_r (v1_ v2 v3 v4_ v5 v7 v8 v9 v10 v11 v12 v13 v14 v15 v16 v20 : Int32) (k_ : Nat) : Value := bif Nat.beq k_ 1 then .int v1_ else (bif Nat.beq k_ 2 then .int v2 else (bif Nat.beq k_ 3 then .int v3 else (bif Nat.beq k_ 4 then .int v4_ else (bif Nat.beq k_ 5 then .int v5 else (bif Nat.beq k_ 7 then .int v7 else (bif Nat.beq k_ 8 then .int v8 else (bif Nat.beq k_ 9 then .int v9 else (bif Nat.beq k_ 10 then .int v10 else (bif Nat.beq k_ 11 then .int v11 else (bif Nat.beq k_ 12 then .int v12 else (bif Nat.beq k_ 13 then .int v13 else (bif Nat.beq k_ 14 then .int v14 else (bif Nat.beq k_ 15 then .int v15 else (bif Nat.beq k_ 16 then .int v16 else (bif Nat.beq k_ 20 then .int v20 else (.int 0))))))))))))))))
def mbaV5nB_s (n_ : Nat) : Nat := 0
theorem mbaV5nB {h_ : xH} {v1_ v2 v3 v4_ v5 v7 v8 v9 v10 v11 v12 v13 v14 v15 v16 v20 : Int32} (hs : sHp h_) (c0_ : ¬ v12 = (Int32.ofInt (-1))) (c1_ : v7.toInt ≤ v20.toInt) (c2_ : v9.toInt ≤ v8.toInt) : ∃ h', ysm h_ h' ∧ (((∀ a_ j_ : Nat, bpat h' a_ j_ = bpat h_ a_ j_) ∧ (bldD 60 216 143 [(9, .int v9), (13, .int v13), (7, .int v7), (8, .int v8), (16, .int v16), (12, .int v12), (15, .int v15), (14, .int v14), (10, .int v10), (11, .int v11), (6, .int (1 : Int32)), (0, .index 338), (1, .int v1_), (2, .int v2), (3, .int v3), (4, .int v4_), (5, .int v5)] [.int v20] h_ 110 [(13, .int (v13 + (1 : Int32))), (11, .int v13), (12, .int v12), (15, .int (1 : Int32)), (14, .int (1 : Int32)), (10, .int v20), (9, .int v9), (7, .int v7), (8, .int v8), (16, .int v16), (6, .int (1 : Int32)), (0, .index 338), (1, .int v1_), (2, .int v2), (3, .int v3), (4, .int v4_), (5, .int v5)] [] h'))) := by
  have hA : yas mbaV5nB_A (mbaV5nB_r v1_ v2 v3 v4_ v5 v7 v8 v9 v10 v11 v12 v13 v14 v15 v16 v20) (yg mbaV5nB_s) := ⟨fun q_ hq => absurd hq List.not_mem_nil, fun q_ hq => absurd hq List.not_mem_nil, fun q_ hq => absurd hq List.not_mem_nil, fun n_ hn => yg_lo hn, fun q_ hq => absurd hq List.not_mem_nil⟩
  have Hs : ysh mbaV5nB_A.1 (yg mbaV5nB_s) h_ := ysh_of2 hs (fun q_ hq => absurd hq List.not_mem_nil)
  have Ho : ymem (mbaV5nB_r v1_ v2 v3 v4_ v5 v7 v8 v9 v10 v11 v12 v13 v14 v15 v16 v20) (yg mbaV5nB_s) mbaV5nB_O h_ := fun q_ hq => absurd hq List.not_mem_nil
  have HC : ∀ q_ ∈ mbaV5nB_C, xhold (mbaV5nB_r v1_ v2 v3 v4_ v5 v7 v8 v9 v10 v11 v12 v13 v14 v15 v16 v20) q_ := List.forall_mem_cons.mpr ⟨xh_eqF2 c0_, List.forall_mem_cons.mpr ⟨xh_ltF c1_, List.forall_mem_cons.mpr ⟨xh_ltF c2_, fun q_ hq => absurd hq List.not_mem_nil⟩⟩⟩
  rcases yrun (yis_ok mbaV5nB_k) hA Hs Ho HC with ⟨q_, hq, h', K_, G_⟩ | ⟨q_, hq, h', K_, G_⟩
  · have e_ := List.mem_singleton.mp hq
    subst e_
    exact ⟨h', yfr_sm K_.2.2.2 hs K_.1 (ywa_s mbaV5nB_w List.mem_cons_self), ⟨fun a_ j_ => yfr_bp K_.2.2.2 (fun q_ hq => absurd hq List.not_mem_nil), G_⟩⟩
  · cases hq
-- mbaWA: 6 steps, 1 ends, 0 returns
def mbaWA_L : List (Nat × Nat × Nat) := []
def mbaWA_O : yO := []
def mbaWA_A : yA := (yZ mbaWA_L, [], [], [], [])
def mbaWA_C : List xB := []
def mbaWA_ss : List yS := [(233, [(16, .arg 21), (12, .arg 12), (15, .arg 15), (14, .arg 14), (10, .arg 10), (9, .arg 9), (13, .arg 13), (11, .arg 11), (8, .arg 8), (7, .arg 7), (6, .int 1), (0, .index 338), (1, .arg 1), (2, .arg 2), (3, .arg 3), (4, .arg 4), (5, .arg 5)], [.arg 13, .int 1, .arg 9, .arg 8, .index 338], [], [], [])]
def mbaWA_rs : List yR := []
theorem mbaWA_w : ywa mbaWA_A mbaWA_ss mbaWA_rs = true := by decide +kernel
theorem mbaWA_k : yis (yev mbaWA_A 3000 60 216 [233] (223, [(12, .arg 12), (15, .arg 15), (14, .arg 14), (10, .arg 10), (9, .arg 9), (13, .arg 13), (11, .arg 11), (8, .arg 8), (7, .arg 7), (6, .int 1), (0, .index 338), (1, .arg 1), (2, .arg 2), (3, .arg 3), (4, .arg 4), (5, .arg 5)], [.arg 21], mbaWA_O, mbaWA_C, [])) mbaWA_ss mbaWA_rs = true := by decide +kernel
def mbaWA_r (v1_ v2 v3 v4_ v5 v7 v8 v9 v10 v11 v12 v13 v14 v15 v21 : Int32) (k_ : Nat) : Value := bif Nat.beq k_ 1 then .int v1_ else (bif Nat.beq k_ 2 then .int v2 else (bif Nat.beq k_ 3 then .int v3 else (bif Nat.beq k_ 4 then .int v4_ else (bif Nat.beq k_ 5 then .int v5 else (bif Nat.beq k_ 7 then .int v7 else (bif Nat.beq k_ 8 then .int v8 else (bif Nat.beq k_ 9 then .int v9 else (bif Nat.beq k_ 10 then .int v10 else (bif Nat.beq k_ 11 then .int v11 else (bif Nat.beq k_ 12 then .int v12 else (bif Nat.beq k_ 13 then .int v13 else (bif Nat.beq k_ 14 then .int v14 else (bif Nat.beq k_ 15 then .int v15 else (bif Nat.beq k_ 21 then .int v21 else (.int 0)))))))))))))))
def mbaWA_s (n_ : Nat) : Nat := 0
theorem mbaWA {h_ : xH} {v1_ v2 v3 v4_ v5 v7 v8 v9 v10 v11 v12 v13 v14 v15 v21 : Int32} (hs : sHp h_) : ∃ h', ysm h_ h' ∧ (((∀ a_ j_ : Nat, bpat h' a_ j_ = bpat h_ a_ j_) ∧ (bldD 60 216 223 [(12, .int v12), (15, .int v15), (14, .int v14), (10, .int v10), (9, .int v9), (13, .int v13), (11, .int v11), (8, .int v8), (7, .int v7), (6, .int (1 : Int32)), (0, .index 338), (1, .int v1_), (2, .int v2), (3, .int v3), (4, .int v4_), (5, .int v5)] [.int v21] h_ 233 [(16, .int v21), (12, .int v12), (15, .int v15), (14, .int v14), (10, .int v10), (9, .int v9), (13, .int v13), (11, .int v11), (8, .int v8), (7, .int v7), (6, .int (1 : Int32)), (0, .index 338), (1, .int v1_), (2, .int v2), (3, .int v3), (4, .int v4_), (5, .int v5)] [.int v13, .int (1 : Int32), .int v9, .int v8, .index 338] h'))) := by
  have hA : yas mbaWA_A (mbaWA_r v1_ v2 v3 v4_ v5 v7 v8 v9 v10 v11 v12 v13 v14 v15 v21) (yg mbaWA_s) := ⟨fun q_ hq => absurd hq List.not_mem_nil, fun q_ hq => absurd hq List.not_mem_nil, fun q_ hq => absurd hq List.not_mem_nil, fun n_ hn => yg_lo hn, fun q_ hq => absurd hq List.not_mem_nil⟩
  have Hs : ysh mbaWA_A.1 (yg mbaWA_s) h_ := ysh_of2 hs (fun q_ hq => absurd hq List.not_mem_nil)
  have Ho : ymem (mbaWA_r v1_ v2 v3 v4_ v5 v7 v8 v9 v10 v11 v12 v13 v14 v15 v21) (yg mbaWA_s) mbaWA_O h_ := fun q_ hq => absurd hq List.not_mem_nil
  have HC : ∀ q_ ∈ mbaWA_C, xhold (mbaWA_r v1_ v2 v3 v4_ v5 v7 v8 v9 v10 v11 v12 v13 v14 v15 v21) q_ := fun q_ hq => absurd hq List.not_mem_nil
  rcases yrun (yis_ok mbaWA_k) hA Hs Ho HC with ⟨q_, hq, h', K_, G_⟩ | ⟨q_, hq, h', K_, G_⟩
  · have e_ := List.mem_singleton.mp hq
    subst e_
    exact ⟨h', yfr_sm K_.2.2.2 hs K_.1 (ywa_s mbaWA_w List.mem_cons_self), ⟨fun a_ j_ => yfr_bp K_.2.2.2 (fun q_ hq => absurd hq List.not_mem_nil), G_⟩⟩
  · cases hq
-- mbaZA: 5 steps, 1 ends, 0 returns
def mbaZA_L : List (Nat × Nat × Nat) := []
def mbaZA_O : yO := []
def mbaZA_A : yA := (yZ mbaZA_L, [], [], [], [])
def mbaZA_C : List xB := []
def mbaZA_ss : List yS := [(110, [(13, .add (.arg 13) (.int 1)), (7, .arg 16), (8, .arg 22), (16, .arg 16), (12, .arg 12), (15, .arg 15), (14, .arg 14), (10, .arg 10), (9, .arg 9), (11, .arg 11), (6, .int 1), (0, .index 338), (1, .arg 1), (2, .arg 2), (3, .arg 3), (4, .arg 4), (5, .arg 5)], [], [], [], [])]
def mbaZA_rs : List yR := []
theorem mbaZA_w : ywa mbaZA_A mbaZA_ss mbaZA_rs = true := by decide +kernel
theorem mbaZA_k : yis (yev mbaZA_A 3000 60 216 [110] (236, [(16, .arg 16), (12, .arg 12), (15, .arg 15), (14, .arg 14), (10, .arg 10), (9, .arg 9), (13, .arg 13), (11, .arg 11), (8, .arg 8), (7, .arg 7), (6, .int 1), (0, .index 338), (1, .arg 1), (2, .arg 2), (3, .arg 3), (4, .arg 4), (5, .arg 5)], [.arg 22], mbaZA_O, mbaZA_C, [])) mbaZA_ss mbaZA_rs = true := by decide +kernel
def mbaZA_r (v1_ v2 v3 v4_ v5 v7 v8 v9 v10 v11 v12 v13 v14 v15 v16 v22 : Int32) (k_ : Nat) : Value := bif Nat.beq k_ 1 then .int v1_ else (bif Nat.beq k_ 2 then .int v2 else (bif Nat.beq k_ 3 then .int v3 else (bif Nat.beq k_ 4 then .int v4_ else (bif Nat.beq k_ 5 then .int v5 else (bif Nat.beq k_ 7 then .int v7 else (bif Nat.beq k_ 8 then .int v8 else (bif Nat.beq k_ 9 then .int v9 else (bif Nat.beq k_ 10 then .int v10 else (bif Nat.beq k_ 11 then .int v11 else (bif Nat.beq k_ 12 then .int v12 else (bif Nat.beq k_ 13 then .int v13 else (bif Nat.beq k_ 14 then .int v14 else (bif Nat.beq k_ 15 then .int v15 else (bif Nat.beq k_ 16 then .int v16 else (bif Nat.beq k_ 22 then .int v22 else (.int 0))))))))))))))))
def mbaZA_s (n_ : Nat) : Nat := 0
theorem mbaZA {h_ : xH} {v1_ v2 v3 v4_ v5 v7 v8 v9 v10 v11 v12 v13 v14 v15 v16 v22 : Int32} (hs : sHp h_) : ∃ h', ysm h_ h' ∧ (((∀ a_ j_ : Nat, bpat h' a_ j_ = bpat h_ a_ j_) ∧ (bldD 60 216 236 [(16, .int v16), (12, .int v12), (15, .int v15), (14, .int v14), (10, .int v10), (9, .int v9), (13, .int v13), (11, .int v11), (8, .int v8), (7, .int v7), (6, .int (1 : Int32)), (0, .index 338), (1, .int v1_), (2, .int v2), (3, .int v3), (4, .int v4_), (5, .int v5)] [.int v22] h_ 110 [(13, .int (v13 + (1 : Int32))), (7, .int v16), (8, .int v22), (16, .int v16), (12, .int v12), (15, .int v15), (14, .int v14), (10, .int v10), (9, .int v9), (11, .int v11), (6, .int (1 : Int32)), (0, .index 338), (1, .int v1_), (2, .int v2), (3, .int v3), (4, .int v4_), (5, .int v5)] [] h'))) := by
  have hA : yas mbaZA_A (mbaZA_r v1_ v2 v3 v4_ v5 v7 v8 v9 v10 v11 v12 v13 v14 v15 v16 v22) (yg mbaZA_s) := ⟨fun q_ hq => absurd hq List.not_mem_nil, fun q_ hq => absurd hq List.not_mem_nil, fun q_ hq => absurd hq List.not_mem_nil, fun n_ hn => yg_lo hn, fun q_ hq => absurd hq List.not_mem_nil⟩
  have Hs : ysh mbaZA_A.1 (yg mbaZA_s) h_ := ysh_of2 hs (fun q_ hq => absurd hq List.not_mem_nil)
  have Ho : ymem (mbaZA_r v1_ v2 v3 v4_ v5 v7 v8 v9 v10 v11 v12 v13 v14 v15 v16 v22) (yg mbaZA_s) mbaZA_O h_ := fun q_ hq => absurd hq List.not_mem_nil
  have HC : ∀ q_ ∈ mbaZA_C, xhold (mbaZA_r v1_ v2 v3 v4_ v5 v7 v8 v9 v10 v11 v12 v13 v14 v15 v16 v22) q_ := fun q_ hq => absurd hq List.not_mem_nil
  rcases yrun (yis_ok mbaZA_k) hA Hs Ho HC with ⟨q_, hq, h', K_, G_⟩ | ⟨q_, hq, h', K_, G_⟩
  · have e_ := List.mem_singleton.mp hq
    subst e_
    exact ⟨h', yfr_sm K_.2.2.2 hs K_.1 (ywa_s mbaZA_w List.mem_cons_self), ⟨fun a_ j_ => yfr_bp K_.2.2.2 (fun q_ hq => absurd hq List.not_mem_nil), G_⟩⟩
  · cases hq
-- mbaYA: 6 steps, 1 ends, 0 returns
def mbaYA_L : List (Nat × Nat × Nat) := []
def mbaYA_O : yO := []
def mbaYA_A : yA := (yZ mbaYA_L, [], [], [], [])
def mbaYA_C : List xB := [(.eq, .arg 11, .int (Int32.ofInt (-1)), false), (.lt, .arg 13, .arg 4, true)]
def mbaYA_ss : List yS := [(248, [(13, .arg 13), (11, .arg 11), (12, .arg 12), (15, .arg 15), (14, .arg 14), (10, .arg 10), (9, .arg 9), (8, .arg 8), (7, .arg 7), (6, .int 1), (0, .index 338), (1, .arg 1), (2, .arg 2), (3, .arg 3), (4, .arg 4), (5, .arg 5)], [], [], [(.eq, .arg 11, .int (Int32.ofInt (-1)), false), (.lt, .arg 13, .arg 4, true)], [])]
def mbaYA_rs : List yR := []
theorem mbaYA_w : ywa mbaYA_A mbaYA_ss mbaYA_rs = true := by decide +kernel
theorem mbaYA_k : yis (yev mbaYA_A 3000 60 216 [248] (110, [(13, .arg 13), (11, .arg 11), (12, .arg 12), (15, .arg 15), (14, .arg 14), (10, .arg 10), (9, .arg 9), (8, .arg 8), (7, .arg 7), (6, .int 1), (0, .index 338), (1, .arg 1), (2, .arg 2), (3, .arg 3), (4, .arg 4), (5, .arg 5)], [], mbaYA_O, mbaYA_C, [])) mbaYA_ss mbaYA_rs = true := by decide +kernel
def mbaYA_r (v1_ v2 v3 v4_ v5 v7 v8 v9 v10 v11 v12 v13 v14 v15 : Int32) (k_ : Nat) : Value := bif Nat.beq k_ 1 then .int v1_ else (bif Nat.beq k_ 2 then .int v2 else (bif Nat.beq k_ 3 then .int v3 else (bif Nat.beq k_ 4 then .int v4_ else (bif Nat.beq k_ 5 then .int v5 else (bif Nat.beq k_ 7 then .int v7 else (bif Nat.beq k_ 8 then .int v8 else (bif Nat.beq k_ 9 then .int v9 else (bif Nat.beq k_ 10 then .int v10 else (bif Nat.beq k_ 11 then .int v11 else (bif Nat.beq k_ 12 then .int v12 else (bif Nat.beq k_ 13 then .int v13 else (bif Nat.beq k_ 14 then .int v14 else (bif Nat.beq k_ 15 then .int v15 else (.int 0))))))))))))))
def mbaYA_s (n_ : Nat) : Nat := 0
theorem mbaYA {h_ : xH} {v1_ v2 v3 v4_ v5 v7 v8 v9 v10 v11 v12 v13 v14 v15 : Int32} (hs : sHp h_) (c0_ : ¬ v11 = (Int32.ofInt (-1))) (c1_ : v13.toInt < v4_.toInt) : ∃ h', ysm h_ h' ∧ (((∀ a_ j_ : Nat, bpat h' a_ j_ = bpat h_ a_ j_) ∧ (bldD 60 216 110 [(13, .int v13), (11, .int v11), (12, .int v12), (15, .int v15), (14, .int v14), (10, .int v10), (9, .int v9), (8, .int v8), (7, .int v7), (6, .int (1 : Int32)), (0, .index 338), (1, .int v1_), (2, .int v2), (3, .int v3), (4, .int v4_), (5, .int v5)] [] h_ 248 [(13, .int v13), (11, .int v11), (12, .int v12), (15, .int v15), (14, .int v14), (10, .int v10), (9, .int v9), (8, .int v8), (7, .int v7), (6, .int (1 : Int32)), (0, .index 338), (1, .int v1_), (2, .int v2), (3, .int v3), (4, .int v4_), (5, .int v5)] [] h'))) := by
  have hA : yas mbaYA_A (mbaYA_r v1_ v2 v3 v4_ v5 v7 v8 v9 v10 v11 v12 v13 v14 v15) (yg mbaYA_s) := ⟨fun q_ hq => absurd hq List.not_mem_nil, fun q_ hq => absurd hq List.not_mem_nil, fun q_ hq => absurd hq List.not_mem_nil, fun n_ hn => yg_lo hn, fun q_ hq => absurd hq List.not_mem_nil⟩
  have Hs : ysh mbaYA_A.1 (yg mbaYA_s) h_ := ysh_of2 hs (fun q_ hq => absurd hq List.not_mem_nil)
  have Ho : ymem (mbaYA_r v1_ v2 v3 v4_ v5 v7 v8 v9 v10 v11 v12 v13 v14 v15) (yg mbaYA_s) mbaYA_O h_ := fun q_ hq => absurd hq List.not_mem_nil
  have HC : ∀ q_ ∈ mbaYA_C, xhold (mbaYA_r v1_ v2 v3 v4_ v5 v7 v8 v9 v10 v11 v12 v13 v14 v15) q_ := List.forall_mem_cons.mpr ⟨xh_eqF2 c0_, List.forall_mem_cons.mpr ⟨xh_ltT c1_, fun q_ hq => absurd hq List.not_mem_nil⟩⟩
  rcases yrun (yis_ok mbaYA_k) hA Hs Ho HC with ⟨q_, hq, h', K_, G_⟩ | ⟨q_, hq, h', K_, G_⟩
  · have e_ := List.mem_singleton.mp hq
    subst e_
    exact ⟨h', yfr_sm K_.2.2.2 hs K_.1 (ywa_s mbaYA_w List.mem_cons_self), ⟨fun a_ j_ => yfr_bp K_.2.2.2 (fun q_ hq => absurd hq List.not_mem_nil), G_⟩⟩
  · cases hq
-- mbaY2A: 3 steps, 1 ends, 0 returns
def mbaY2A_L : List (Nat × Nat × Nat) := []
def mbaY2A_O : yO := []
def mbaY2A_A : yA := (yZ mbaY2A_L, [], [], [], [])
def mbaY2A_C : List xB := [(.lt, .arg 13, .arg 4, false)]
def mbaY2A_ss : List yS := [(248, [(13, .arg 13), (11, .arg 11), (12, .arg 12), (15, .arg 15), (14, .arg 14), (10, .arg 10), (9, .arg 9), (8, .arg 8), (7, .arg 7), (6, .int 1), (0, .index 338), (1, .arg 1), (2, .arg 2), (3, .arg 3), (4, .arg 4), (5, .arg 5)], [], [], [(.lt, .arg 13, .arg 4, false)], [])]
def mbaY2A_rs : List yR := []
theorem mbaY2A_w : ywa mbaY2A_A mbaY2A_ss mbaY2A_rs = true := by decide +kernel
theorem mbaY2A_k : yis (yev mbaY2A_A 3000 60 216 [248] (110, [(13, .arg 13), (11, .arg 11), (12, .arg 12), (15, .arg 15), (14, .arg 14), (10, .arg 10), (9, .arg 9), (8, .arg 8), (7, .arg 7), (6, .int 1), (0, .index 338), (1, .arg 1), (2, .arg 2), (3, .arg 3), (4, .arg 4), (5, .arg 5)], [], mbaY2A_O, mbaY2A_C, [])) mbaY2A_ss mbaY2A_rs = true := by decide +kernel
def mbaY2A_r (v1_ v2 v3 v4_ v5 v7 v8 v9 v10 v11 v12 v13 v14 v15 : Int32) (k_ : Nat) : Value := bif Nat.beq k_ 1 then .int v1_ else (bif Nat.beq k_ 2 then .int v2 else (bif Nat.beq k_ 3 then .int v3 else (bif Nat.beq k_ 4 then .int v4_ else (bif Nat.beq k_ 5 then .int v5 else (bif Nat.beq k_ 7 then .int v7 else (bif Nat.beq k_ 8 then .int v8 else (bif Nat.beq k_ 9 then .int v9 else (bif Nat.beq k_ 10 then .int v10 else (bif Nat.beq k_ 11 then .int v11 else (bif Nat.beq k_ 12 then .int v12 else (bif Nat.beq k_ 13 then .int v13 else (bif Nat.beq k_ 14 then .int v14 else (bif Nat.beq k_ 15 then .int v15 else (.int 0))))))))))))))
def mbaY2A_s (n_ : Nat) : Nat := 0
theorem mbaY2A {h_ : xH} {v1_ v2 v3 v4_ v5 v7 v8 v9 v10 v11 v12 v13 v14 v15 : Int32} (hs : sHp h_) (c0_ : v4_.toInt ≤ v13.toInt) : ∃ h', ysm h_ h' ∧ (((∀ a_ j_ : Nat, bpat h' a_ j_ = bpat h_ a_ j_) ∧ (bldD 60 216 110 [(13, .int v13), (11, .int v11), (12, .int v12), (15, .int v15), (14, .int v14), (10, .int v10), (9, .int v9), (8, .int v8), (7, .int v7), (6, .int (1 : Int32)), (0, .index 338), (1, .int v1_), (2, .int v2), (3, .int v3), (4, .int v4_), (5, .int v5)] [] h_ 248 [(13, .int v13), (11, .int v11), (12, .int v12), (15, .int v15), (14, .int v14), (10, .int v10), (9, .int v9), (8, .int v8), (7, .int v7), (6, .int (1 : Int32)), (0, .index 338), (1, .int v1_), (2, .int v2), (3, .int v3), (4, .int v4_), (5, .int v5)] [] h'))) := by
  have hA : yas mbaY2A_A (mbaY2A_r v1_ v2 v3 v4_ v5 v7 v8 v9 v10 v11 v12 v13 v14 v15) (yg mbaY2A_s) := ⟨fun q_ hq => absurd hq List.not_mem_nil, fun q_ hq => absurd hq List.not_mem_nil, fun q_ hq => absurd hq List.not_mem_nil, fun n_ hn => yg_lo hn, fun q_ hq => absurd hq List.not_mem_nil⟩
  have Hs : ysh mbaY2A_A.1 (yg mbaY2A_s) h_ := ysh_of2 hs (fun q_ hq => absurd hq List.not_mem_nil)
  have Ho : ymem (mbaY2A_r v1_ v2 v3 v4_ v5 v7 v8 v9 v10 v11 v12 v13 v14 v15) (yg mbaY2A_s) mbaY2A_O h_ := fun q_ hq => absurd hq List.not_mem_nil
  have HC : ∀ q_ ∈ mbaY2A_C, xhold (mbaY2A_r v1_ v2 v3 v4_ v5 v7 v8 v9 v10 v11 v12 v13 v14 v15) q_ := List.forall_mem_cons.mpr ⟨xh_ltF c0_, fun q_ hq => absurd hq List.not_mem_nil⟩
  rcases yrun (yis_ok mbaY2A_k) hA Hs Ho HC with ⟨q_, hq, h', K_, G_⟩ | ⟨q_, hq, h', K_, G_⟩
  · have e_ := List.mem_singleton.mp hq
    subst e_
    exact ⟨h', yfr_sm K_.2.2.2 hs K_.1 (ywa_s mbaY2A_w List.mem_cons_self), ⟨fun a_ j_ => yfr_bp K_.2.2.2 (fun q_ hq => absurd hq List.not_mem_nil), G_⟩⟩
  · cases hq
-- mbaRA: 101 steps, 0 ends, 8 returns
def mbaRA_L : List (Nat × Nat × Nat) := []
def mbaRA_O : yO := [(338, .int 3, .index 341), (341, .int 2, .arg 400)]
def mbaRA_A : yA := (yZ mbaRA_L, [], [], [], [])
def mbaRA_C : List xB := []
def mbaRA_ss : List yS := []
def mbaRA_rs : List yR := [(some (.arg 8), [(338, .int 3, .index 341), (341, .int 2, .arg 400)], [(.lt, .arg 5, .int 2, false), (.eq, .arg 5, .int 2, false), (.eq, .arg 5, .int 1, false), (.eq, .arg 5, .int 0, false)], []),
  (some (.arg 8), [(338, .int 3, .index 341), (341, .int 2, .arg 400)], [(.eq, .arg 8, .int (Int32.ofInt (-1)), false), (.lt, .arg 5, .int 2, true), (.eq, .arg 5, .int 2, false), (.eq, .arg 5, .int 1, false), (.eq, .arg 5, .int 0, false)], []),
  (some (.int (Int32.ofInt (-1000002))), [(341, .int 2, .add (.arg 400) (.int 1)), (338, .int 3, .index 341)], [(.eq, .arg 8, .int (Int32.ofInt (-1)), true), (.lt, .arg 5, .int 2, true), (.eq, .arg 5, .int 2, false), (.eq, .arg 5, .int 1, false), (.eq, .arg 5, .int 0, false)], [(341, .int 2)]),
  (some (.arg 7), [(338, .int 3, .index 341), (341, .int 2, .arg 400)], [(.eq, .arg 5, .int 2, true), (.eq, .arg 5, .int 1, false), (.eq, .arg 5, .int 0, false)], []),
  (some (.arg 12), [(338, .int 3, .index 341), (341, .int 2, .arg 400)], [(.eq, .arg 12, .int (Int32.ofInt (-1)), false), (.eq, .arg 5, .int 1, true), (.eq, .arg 5, .int 0, false)], []),
  (some (.int (Int32.ofInt (-1000002))), [(341, .int 2, .add (.arg 400) (.int 1)), (338, .int 3, .index 341)], [(.eq, .arg 12, .int (Int32.ofInt (-1)), true), (.eq, .arg 5, .int 1, true), (.eq, .arg 5, .int 0, false)], [(341, .int 2)]),
  (some (.arg 11), [(338, .int 3, .index 341), (341, .int 2, .arg 400)], [(.eq, .arg 11, .int (Int32.ofInt (-1)), false), (.eq, .arg 5, .int 0, true)], []),
  (some (.int (Int32.ofInt (-1000002))), [(341, .int 2, .add (.arg 400) (.int 1)), (338, .int 3, .index 341)], [(.eq, .arg 11, .int (Int32.ofInt (-1)), true), (.eq, .arg 5, .int 0, true)], [(341, .int 2)])]
theorem mbaRA_w : ywa mbaRA_A mbaRA_ss mbaRA_rs = true := by decide +kernel
theorem mbaRA_k : yis (yev mbaRA_A 3000 60 216 [] (248, [(13, .arg 13), (12, .arg 12), (11, .arg 11), (10, .arg 10), (9, .arg 9), (8, .arg 8), (7, .arg 7), (6, .int 1), (0, .index 338), (1, .arg 1), (2, .arg 2), (3, .arg 3), (4, .arg 4), (5, .arg 5)], [], mbaRA_O, mbaRA_C, [])) mbaRA_ss mbaRA_rs = true := by decide +kernel
def mbaRA_r (v1_ v2 v3 v4_ v5 v7 v8 v9 v10 v11 v12 v13 v400 : Int32) (k_ : Nat) : Value := bif Nat.beq k_ 1 then .int v1_ else (bif Nat.beq k_ 2 then .int v2 else (bif Nat.beq k_ 3 then .int v3 else (bif Nat.beq k_ 4 then .int v4_ else (bif Nat.beq k_ 5 then .int v5 else (bif Nat.beq k_ 7 then .int v7 else (bif Nat.beq k_ 8 then .int v8 else (bif Nat.beq k_ 9 then .int v9 else (bif Nat.beq k_ 10 then .int v10 else (bif Nat.beq k_ 11 then .int v11 else (bif Nat.beq k_ 12 then .int v12 else (bif Nat.beq k_ 13 then .int v13 else (bif Nat.beq k_ 400 then .int v400 else (.int 0)))))))))))))
def mbaRA_s (n_ : Nat) : Nat := 0
theorem mbaRA {h_ : xH} {v1_ v2 v3 v4_ v5 v7 v8 v9 v10 v11 v12 v13 v400 : Int32} (hs : sHp h_) (o0_ : bpat h_ 341 2 = some (.int v400)) : ∃ h', ysm h_ h' ∧ ((((2 : Int32).toInt ≤ v5.toInt) ∧ (¬ v5 = (2 : Int32)) ∧ (¬ v5 = (1 : Int32)) ∧ (¬ v5 = (0 : Int32)) ∧ (∀ a_ j_ : Nat, bpat h' a_ j_ = bpat h_ a_ j_) ∧ (∀ D_, 60 ≤ D_ → xrun D_ 216 248 [(13, .int v13), (12, .int v12), (11, .int v11), (10, .int v10), (9, .int v9), (8, .int v8), (7, .int v7), (6, .int (1 : Int32)), (0, .index 338), (1, .int v1_), (2, .int v2), (3, .int v3), (4, .int v4_), (5, .int v5)] [] h_ (some (.int v8), h', [])))
  ∨ ((¬ v8 = (Int32.ofInt (-1))) ∧ (v5.toInt < (2 : Int32).toInt) ∧ (¬ v5 = (2 : Int32)) ∧ (¬ v5 = (1 : Int32)) ∧ (¬ v5 = (0 : Int32)) ∧ (∀ a_ j_ : Nat, bpat h' a_ j_ = bpat h_ a_ j_) ∧ (∀ D_, 60 ≤ D_ → xrun D_ 216 248 [(13, .int v13), (12, .int v12), (11, .int v11), (10, .int v10), (9, .int v9), (8, .int v8), (7, .int v7), (6, .int (1 : Int32)), (0, .index 338), (1, .int v1_), (2, .int v2), (3, .int v3), (4, .int v4_), (5, .int v5)] [] h_ (some (.int v8), h', [])))
  ∨ ((v8 = (Int32.ofInt (-1))) ∧ (v5.toInt < (2 : Int32).toInt) ∧ (¬ v5 = (2 : Int32)) ∧ (¬ v5 = (1 : Int32)) ∧ (¬ v5 = (0 : Int32)) ∧ (bpat h' 341 2 = some (.int (v400 + (1 : Int32)))) ∧ (∀ a_ j_ : Nat, ¬ (a_ = 341 ∧ j_ = 2) → bpat h' a_ j_ = bpat h_ a_ j_) ∧ (∀ D_, 60 ≤ D_ → xrun D_ 216 248 [(13, .int v13), (12, .int v12), (11, .int v11), (10, .int v10), (9, .int v9), (8, .int v8), (7, .int v7), (6, .int (1 : Int32)), (0, .index 338), (1, .int v1_), (2, .int v2), (3, .int v3), (4, .int v4_), (5, .int v5)] [] h_ (some (.int (Int32.ofInt (-1000002))), h', [])))
  ∨ ((v5 = (2 : Int32)) ∧ (¬ v5 = (1 : Int32)) ∧ (¬ v5 = (0 : Int32)) ∧ (∀ a_ j_ : Nat, bpat h' a_ j_ = bpat h_ a_ j_) ∧ (∀ D_, 60 ≤ D_ → xrun D_ 216 248 [(13, .int v13), (12, .int v12), (11, .int v11), (10, .int v10), (9, .int v9), (8, .int v8), (7, .int v7), (6, .int (1 : Int32)), (0, .index 338), (1, .int v1_), (2, .int v2), (3, .int v3), (4, .int v4_), (5, .int v5)] [] h_ (some (.int v7), h', [])))
  ∨ ((¬ v12 = (Int32.ofInt (-1))) ∧ (v5 = (1 : Int32)) ∧ (¬ v5 = (0 : Int32)) ∧ (∀ a_ j_ : Nat, bpat h' a_ j_ = bpat h_ a_ j_) ∧ (∀ D_, 60 ≤ D_ → xrun D_ 216 248 [(13, .int v13), (12, .int v12), (11, .int v11), (10, .int v10), (9, .int v9), (8, .int v8), (7, .int v7), (6, .int (1 : Int32)), (0, .index 338), (1, .int v1_), (2, .int v2), (3, .int v3), (4, .int v4_), (5, .int v5)] [] h_ (some (.int v12), h', [])))
  ∨ ((v12 = (Int32.ofInt (-1))) ∧ (v5 = (1 : Int32)) ∧ (¬ v5 = (0 : Int32)) ∧ (bpat h' 341 2 = some (.int (v400 + (1 : Int32)))) ∧ (∀ a_ j_ : Nat, ¬ (a_ = 341 ∧ j_ = 2) → bpat h' a_ j_ = bpat h_ a_ j_) ∧ (∀ D_, 60 ≤ D_ → xrun D_ 216 248 [(13, .int v13), (12, .int v12), (11, .int v11), (10, .int v10), (9, .int v9), (8, .int v8), (7, .int v7), (6, .int (1 : Int32)), (0, .index 338), (1, .int v1_), (2, .int v2), (3, .int v3), (4, .int v4_), (5, .int v5)] [] h_ (some (.int (Int32.ofInt (-1000002))), h', [])))
  ∨ ((¬ v11 = (Int32.ofInt (-1))) ∧ (v5 = (0 : Int32)) ∧ (∀ a_ j_ : Nat, bpat h' a_ j_ = bpat h_ a_ j_) ∧ (∀ D_, 60 ≤ D_ → xrun D_ 216 248 [(13, .int v13), (12, .int v12), (11, .int v11), (10, .int v10), (9, .int v9), (8, .int v8), (7, .int v7), (6, .int (1 : Int32)), (0, .index 338), (1, .int v1_), (2, .int v2), (3, .int v3), (4, .int v4_), (5, .int v5)] [] h_ (some (.int v11), h', [])))
  ∨ ((v11 = (Int32.ofInt (-1))) ∧ (v5 = (0 : Int32)) ∧ (bpat h' 341 2 = some (.int (v400 + (1 : Int32)))) ∧ (∀ a_ j_ : Nat, ¬ (a_ = 341 ∧ j_ = 2) → bpat h' a_ j_ = bpat h_ a_ j_) ∧ (∀ D_, 60 ≤ D_ → xrun D_ 216 248 [(13, .int v13), (12, .int v12), (11, .int v11), (10, .int v10), (9, .int v9), (8, .int v8), (7, .int v7), (6, .int (1 : Int32)), (0, .index 338), (1, .int v1_), (2, .int v2), (3, .int v3), (4, .int v4_), (5, .int v5)] [] h_ (some (.int (Int32.ofInt (-1000002))), h', [])))) := by
  have hA : yas mbaRA_A (mbaRA_r v1_ v2 v3 v4_ v5 v7 v8 v9 v10 v11 v12 v13 v400) (yg mbaRA_s) := ⟨fun q_ hq => absurd hq List.not_mem_nil, fun q_ hq => absurd hq List.not_mem_nil, fun q_ hq => absurd hq List.not_mem_nil, fun n_ hn => yg_lo hn, fun q_ hq => absurd hq List.not_mem_nil⟩
  have Hs : ysh mbaRA_A.1 (yg mbaRA_s) h_ := ysh_of2 hs (fun q_ hq => absurd hq List.not_mem_nil)
  have Ho : ymem (mbaRA_r v1_ v2 v3 v4_ v5 v7 v8 v9 v10 v11 v12 v13 v400) (yg mbaRA_s) mbaRA_O h_ := List.forall_mem_cons.mpr ⟨bpat_some (fxr_at hs.2 (show fxk fxl 338 3 = some 341 by decide +kernel)), List.forall_mem_cons.mpr ⟨bpat_some o0_, fun q_ hq => absurd hq List.not_mem_nil⟩⟩
  have HC : ∀ q_ ∈ mbaRA_C, xhold (mbaRA_r v1_ v2 v3 v4_ v5 v7 v8 v9 v10 v11 v12 v13 v400) q_ := fun q_ hq => absurd hq List.not_mem_nil
  rcases yrun (yis_ok mbaRA_k) hA Hs Ho HC with ⟨q_, hq, h', K_, G_⟩ | ⟨q_, hq, h', K_, G_⟩
  · cases hq
  · rcases List.mem_cons.mp hq with e_ | hq
    · subst e_
      exact ⟨h', yfr_sm K_.2.2.2 hs K_.1 (ywa_r mbaRA_w List.mem_cons_self), Or.inl (⟨xq_ltF rfl rfl (K_.2.2.1 _ List.mem_cons_self), xq_eqF rfl rfl (K_.2.2.1 _ (List.mem_cons_of_mem _ List.mem_cons_self)), xq_eqF rfl rfl (K_.2.2.1 _ (List.mem_cons_of_mem _ (List.mem_cons_of_mem _ List.mem_cons_self))), xq_eqF rfl rfl (K_.2.2.1 _ (List.mem_cons_of_mem _ (List.mem_cons_of_mem _ (List.mem_cons_of_mem _ List.mem_cons_self)))), fun a_ j_ => yfr_bp K_.2.2.2 (fun q_ hq => absurd hq List.not_mem_nil), G_⟩)⟩
    rcases List.mem_cons.mp hq with e_ | hq
    · subst e_
      exact ⟨h', yfr_sm K_.2.2.2 hs K_.1 (ywa_r mbaRA_w (List.mem_cons_of_mem _ List.mem_cons_self)), Or.inr (Or.inl (⟨xq_eqF rfl rfl (K_.2.2.1 _ List.mem_cons_self), xq_ltT rfl rfl (K_.2.2.1 _ (List.mem_cons_of_mem _ List.mem_cons_self)), xq_eqF rfl rfl (K_.2.2.1 _ (List.mem_cons_of_mem _ (List.mem_cons_of_mem _ List.mem_cons_self))), xq_eqF rfl rfl (K_.2.2.1 _ (List.mem_cons_of_mem _ (List.mem_cons_of_mem _ (List.mem_cons_of_mem _ List.mem_cons_self)))), xq_eqF rfl rfl (K_.2.2.1 _ (List.mem_cons_of_mem _ (List.mem_cons_of_mem _ (List.mem_cons_of_mem _ (List.mem_cons_of_mem _ List.mem_cons_self))))), fun a_ j_ => yfr_bp K_.2.2.2 (fun q_ hq => absurd hq List.not_mem_nil), G_⟩))⟩
    rcases List.mem_cons.mp hq with e_ | hq
    · subst e_
      exact ⟨h', yfr_sm K_.2.2.2 hs K_.1 (ywa_r mbaRA_w (List.mem_cons_of_mem _ (List.mem_cons_of_mem _ List.mem_cons_self))), Or.inr (Or.inr (Or.inl (⟨xq_eqT rfl rfl (K_.2.2.1 _ List.mem_cons_self), xq_ltT rfl rfl (K_.2.2.1 _ (List.mem_cons_of_mem _ List.mem_cons_self)), xq_eqF rfl rfl (K_.2.2.1 _ (List.mem_cons_of_mem _ (List.mem_cons_of_mem _ List.mem_cons_self))), xq_eqF rfl rfl (K_.2.2.1 _ (List.mem_cons_of_mem _ (List.mem_cons_of_mem _ (List.mem_cons_of_mem _ List.mem_cons_self)))), xq_eqF rfl rfl (K_.2.2.1 _ (List.mem_cons_of_mem _ (List.mem_cons_of_mem _ (List.mem_cons_of_mem _ (List.mem_cons_of_mem _ List.mem_cons_self))))), bpat_of (K_.2.1 _ List.mem_cons_self), fun a_ j_ n0_ => yfr_bp K_.2.2.2 (List.forall_mem_cons.mpr ⟨fun e_ => n0_ ⟨e_.1.symm, e_.2.symm⟩, fun q_ hq => absurd hq List.not_mem_nil⟩), G_⟩)))⟩
    rcases List.mem_cons.mp hq with e_ | hq
    · subst e_
      exact ⟨h', yfr_sm K_.2.2.2 hs K_.1 (ywa_r mbaRA_w (List.mem_cons_of_mem _ (List.mem_cons_of_mem _ (List.mem_cons_of_mem _ List.mem_cons_self)))), Or.inr (Or.inr (Or.inr (Or.inl (⟨xq_eqT rfl rfl (K_.2.2.1 _ List.mem_cons_self), xq_eqF rfl rfl (K_.2.2.1 _ (List.mem_cons_of_mem _ List.mem_cons_self)), xq_eqF rfl rfl (K_.2.2.1 _ (List.mem_cons_of_mem _ (List.mem_cons_of_mem _ List.mem_cons_self))), fun a_ j_ => yfr_bp K_.2.2.2 (fun q_ hq => absurd hq List.not_mem_nil), G_⟩))))⟩
    rcases List.mem_cons.mp hq with e_ | hq
    · subst e_
      exact ⟨h', yfr_sm K_.2.2.2 hs K_.1 (ywa_r mbaRA_w (List.mem_cons_of_mem _ (List.mem_cons_of_mem _ (List.mem_cons_of_mem _ (List.mem_cons_of_mem _ List.mem_cons_self))))), Or.inr (Or.inr (Or.inr (Or.inr (Or.inl (⟨xq_eqF rfl rfl (K_.2.2.1 _ List.mem_cons_self), xq_eqT rfl rfl (K_.2.2.1 _ (List.mem_cons_of_mem _ List.mem_cons_self)), xq_eqF rfl rfl (K_.2.2.1 _ (List.mem_cons_of_mem _ (List.mem_cons_of_mem _ List.mem_cons_self))), fun a_ j_ => yfr_bp K_.2.2.2 (fun q_ hq => absurd hq List.not_mem_nil), G_⟩)))))⟩
    rcases List.mem_cons.mp hq with e_ | hq
    · subst e_
      exact ⟨h', yfr_sm K_.2.2.2 hs K_.1 (ywa_r mbaRA_w (List.mem_cons_of_mem _ (List.mem_cons_of_mem _ (List.mem_cons_of_mem _ (List.mem_cons_of_mem _ (List.mem_cons_of_mem _ List.mem_cons_self)))))), Or.inr (Or.inr (Or.inr (Or.inr (Or.inr (Or.inl (⟨xq_eqT rfl rfl (K_.2.2.1 _ List.mem_cons_self), xq_eqT rfl rfl (K_.2.2.1 _ (List.mem_cons_of_mem _ List.mem_cons_self)), xq_eqF rfl rfl (K_.2.2.1 _ (List.mem_cons_of_mem _ (List.mem_cons_of_mem _ List.mem_cons_self))), bpat_of (K_.2.1 _ List.mem_cons_self), fun a_ j_ n0_ => yfr_bp K_.2.2.2 (List.forall_mem_cons.mpr ⟨fun e_ => n0_ ⟨e_.1.symm, e_.2.symm⟩, fun q_ hq => absurd hq List.not_mem_nil⟩), G_⟩))))))⟩
    rcases List.mem_cons.mp hq with e_ | hq
    · subst e_
      exact ⟨h', yfr_sm K_.2.2.2 hs K_.1 (ywa_r mbaRA_w (List.mem_cons_of_mem _ (List.mem_cons_of_mem _ (List.mem_cons_of_mem _ (List.mem_cons_of_mem _ (List.mem_cons_of_mem _ (List.mem_cons_of_mem _ List.mem_cons_self))))))), Or.inr (Or.inr (Or.inr (Or.inr (Or.inr (Or.inr (Or.inl (⟨xq_eqF rfl rfl (K_.2.2.1 _ List.mem_cons_self), xq_eqT rfl rfl (K_.2.2.1 _ (List.mem_cons_of_mem _ List.mem_cons_self)), fun a_ j_ => yfr_bp K_.2.2.2 (fun q_ hq => absurd hq List.not_mem_nil), G_⟩)))))))⟩
    have e_ := List.mem_singleton.mp hq
    subst e_
    exact ⟨h', yfr_sm K_.2.2.2 hs K_.1 (ywa_r mbaRA_w (List.mem_cons_of_mem _ (List.mem_cons_of_mem _ (List.mem_cons_of_mem _ (List.mem_cons_of_mem _ (List.mem_cons_of_mem _ (List.mem_cons_of_mem _ (List.mem_cons_of_mem _ List.mem_cons_self)))))))), Or.inr (Or.inr (Or.inr (Or.inr (Or.inr (Or.inr (Or.inr (⟨xq_eqT rfl rfl (K_.2.2.1 _ List.mem_cons_self), xq_eqT rfl rfl (K_.2.2.1 _ (List.mem_cons_of_mem _ List.mem_cons_self)), bpat_of (K_.2.1 _ List.mem_cons_self), fun a_ j_ n0_ => yfr_bp K_.2.2.2 (List.forall_mem_cons.mpr ⟨fun e_ => n0_ ⟨e_.1.symm, e_.2.symm⟩, fun q_ hq => absurd hq List.not_mem_nil⟩), G_⟩)))))))⟩
-- mbaRCA: 101 steps, 0 ends, 8 returns
def mbaRCA_L : List (Nat × Nat × Nat) := []
def mbaRCA_O : yO := [(338, .int 3, .index 341), (341, .int 2, .arg 400)]
def mbaRCA_A : yA := (yZ mbaRCA_L, [], [], [], [])
def mbaRCA_C : List xB := []
def mbaRCA_ss : List yS := []
def mbaRCA_rs : List yR := [(some (.arg 8), [(338, .int 3, .index 341), (341, .int 2, .arg 400)], [(.lt, .arg 5, .int 2, false), (.eq, .arg 5, .int 2, false), (.eq, .arg 5, .int 1, false), (.eq, .arg 5, .int 0, false)], []),
  (some (.arg 8), [(338, .int 3, .index 341), (341, .int 2, .arg 400)], [(.eq, .arg 8, .int (Int32.ofInt (-1)), false), (.lt, .arg 5, .int 2, true), (.eq, .arg 5, .int 2, false), (.eq, .arg 5, .int 1, false), (.eq, .arg 5, .int 0, false)], []),
  (some (.int (Int32.ofInt (-1000002))), [(341, .int 2, .add (.arg 400) (.int 1)), (338, .int 3, .index 341)], [(.eq, .arg 8, .int (Int32.ofInt (-1)), true), (.lt, .arg 5, .int 2, true), (.eq, .arg 5, .int 2, false), (.eq, .arg 5, .int 1, false), (.eq, .arg 5, .int 0, false)], [(341, .int 2)]),
  (some (.arg 7), [(338, .int 3, .index 341), (341, .int 2, .arg 400)], [(.eq, .arg 5, .int 2, true), (.eq, .arg 5, .int 1, false), (.eq, .arg 5, .int 0, false)], []),
  (some (.arg 12), [(338, .int 3, .index 341), (341, .int 2, .arg 400)], [(.eq, .arg 12, .int (Int32.ofInt (-1)), false), (.eq, .arg 5, .int 1, true), (.eq, .arg 5, .int 0, false)], []),
  (some (.int (Int32.ofInt (-1000002))), [(341, .int 2, .add (.arg 400) (.int 1)), (338, .int 3, .index 341)], [(.eq, .arg 12, .int (Int32.ofInt (-1)), true), (.eq, .arg 5, .int 1, true), (.eq, .arg 5, .int 0, false)], [(341, .int 2)]),
  (some (.arg 11), [(338, .int 3, .index 341), (341, .int 2, .arg 400)], [(.eq, .arg 11, .int (Int32.ofInt (-1)), false), (.eq, .arg 5, .int 0, true)], []),
  (some (.int (Int32.ofInt (-1000002))), [(341, .int 2, .add (.arg 400) (.int 1)), (338, .int 3, .index 341)], [(.eq, .arg 11, .int (Int32.ofInt (-1)), true), (.eq, .arg 5, .int 0, true)], [(341, .int 2)])]
theorem mbaRCA_w : ywa mbaRCA_A mbaRCA_ss mbaRCA_rs = true := by decide +kernel
theorem mbaRCA_k : yis (yev mbaRCA_A 3000 60 216 [] (248, [(13, .arg 13), (11, .arg 11), (12, .arg 12), (15, .arg 15), (14, .arg 14), (10, .arg 10), (9, .arg 9), (8, .arg 8), (7, .arg 7), (6, .int 1), (0, .index 338), (1, .arg 1), (2, .arg 2), (3, .arg 3), (4, .arg 4), (5, .arg 5)], [], mbaRCA_O, mbaRCA_C, [])) mbaRCA_ss mbaRCA_rs = true := by decide +kernel
def mbaRCA_r (v1_ v2 v3 v4_ v5 v7 v8 v9 v10 v11 v12 v13 v14 v15 v400 : Int32) (k_ : Nat) : Value := bif Nat.beq k_ 1 then .int v1_ else (bif Nat.beq k_ 2 then .int v2 else (bif Nat.beq k_ 3 then .int v3 else (bif Nat.beq k_ 4 then .int v4_ else (bif Nat.beq k_ 5 then .int v5 else (bif Nat.beq k_ 7 then .int v7 else (bif Nat.beq k_ 8 then .int v8 else (bif Nat.beq k_ 9 then .int v9 else (bif Nat.beq k_ 10 then .int v10 else (bif Nat.beq k_ 11 then .int v11 else (bif Nat.beq k_ 12 then .int v12 else (bif Nat.beq k_ 13 then .int v13 else (bif Nat.beq k_ 14 then .int v14 else (bif Nat.beq k_ 15 then .int v15 else (bif Nat.beq k_ 400 then .int v400 else (.int 0)))))))))))))))
def mbaRCA_s (n_ : Nat) : Nat := 0
theorem mbaRCA {h_ : xH} {v1_ v2 v3 v4_ v5 v7 v8 v9 v10 v11 v12 v13 v14 v15 v400 : Int32} (hs : sHp h_) (o0_ : bpat h_ 341 2 = some (.int v400)) : ∃ h', ysm h_ h' ∧ ((((2 : Int32).toInt ≤ v5.toInt) ∧ (¬ v5 = (2 : Int32)) ∧ (¬ v5 = (1 : Int32)) ∧ (¬ v5 = (0 : Int32)) ∧ (∀ a_ j_ : Nat, bpat h' a_ j_ = bpat h_ a_ j_) ∧ (∀ D_, 60 ≤ D_ → xrun D_ 216 248 [(13, .int v13), (11, .int v11), (12, .int v12), (15, .int v15), (14, .int v14), (10, .int v10), (9, .int v9), (8, .int v8), (7, .int v7), (6, .int (1 : Int32)), (0, .index 338), (1, .int v1_), (2, .int v2), (3, .int v3), (4, .int v4_), (5, .int v5)] [] h_ (some (.int v8), h', [])))
  ∨ ((¬ v8 = (Int32.ofInt (-1))) ∧ (v5.toInt < (2 : Int32).toInt) ∧ (¬ v5 = (2 : Int32)) ∧ (¬ v5 = (1 : Int32)) ∧ (¬ v5 = (0 : Int32)) ∧ (∀ a_ j_ : Nat, bpat h' a_ j_ = bpat h_ a_ j_) ∧ (∀ D_, 60 ≤ D_ → xrun D_ 216 248 [(13, .int v13), (11, .int v11), (12, .int v12), (15, .int v15), (14, .int v14), (10, .int v10), (9, .int v9), (8, .int v8), (7, .int v7), (6, .int (1 : Int32)), (0, .index 338), (1, .int v1_), (2, .int v2), (3, .int v3), (4, .int v4_), (5, .int v5)] [] h_ (some (.int v8), h', [])))
  ∨ ((v8 = (Int32.ofInt (-1))) ∧ (v5.toInt < (2 : Int32).toInt) ∧ (¬ v5 = (2 : Int32)) ∧ (¬ v5 = (1 : Int32)) ∧ (¬ v5 = (0 : Int32)) ∧ (bpat h' 341 2 = some (.int (v400 + (1 : Int32)))) ∧ (∀ a_ j_ : Nat, ¬ (a_ = 341 ∧ j_ = 2) → bpat h' a_ j_ = bpat h_ a_ j_) ∧ (∀ D_, 60 ≤ D_ → xrun D_ 216 248 [(13, .int v13), (11, .int v11), (12, .int v12), (15, .int v15), (14, .int v14), (10, .int v10), (9, .int v9), (8, .int v8), (7, .int v7), (6, .int (1 : Int32)), (0, .index 338), (1, .int v1_), (2, .int v2), (3, .int v3), (4, .int v4_), (5, .int v5)] [] h_ (some (.int (Int32.ofInt (-1000002))), h', [])))
  ∨ ((v5 = (2 : Int32)) ∧ (¬ v5 = (1 : Int32)) ∧ (¬ v5 = (0 : Int32)) ∧ (∀ a_ j_ : Nat, bpat h' a_ j_ = bpat h_ a_ j_) ∧ (∀ D_, 60 ≤ D_ → xrun D_ 216 248 [(13, .int v13), (11, .int v11), (12, .int v12), (15, .int v15), (14, .int v14), (10, .int v10), (9, .int v9), (8, .int v8), (7, .int v7), (6, .int (1 : Int32)), (0, .index 338), (1, .int v1_), (2, .int v2), (3, .int v3), (4, .int v4_), (5, .int v5)] [] h_ (some (.int v7), h', [])))
  ∨ ((¬ v12 = (Int32.ofInt (-1))) ∧ (v5 = (1 : Int32)) ∧ (¬ v5 = (0 : Int32)) ∧ (∀ a_ j_ : Nat, bpat h' a_ j_ = bpat h_ a_ j_) ∧ (∀ D_, 60 ≤ D_ → xrun D_ 216 248 [(13, .int v13), (11, .int v11), (12, .int v12), (15, .int v15), (14, .int v14), (10, .int v10), (9, .int v9), (8, .int v8), (7, .int v7), (6, .int (1 : Int32)), (0, .index 338), (1, .int v1_), (2, .int v2), (3, .int v3), (4, .int v4_), (5, .int v5)] [] h_ (some (.int v12), h', [])))
  ∨ ((v12 = (Int32.ofInt (-1))) ∧ (v5 = (1 : Int32)) ∧ (¬ v5 = (0 : Int32)) ∧ (bpat h' 341 2 = some (.int (v400 + (1 : Int32)))) ∧ (∀ a_ j_ : Nat, ¬ (a_ = 341 ∧ j_ = 2) → bpat h' a_ j_ = bpat h_ a_ j_) ∧ (∀ D_, 60 ≤ D_ → xrun D_ 216 248 [(13, .int v13), (11, .int v11), (12, .int v12), (15, .int v15), (14, .int v14), (10, .int v10), (9, .int v9), (8, .int v8), (7, .int v7), (6, .int (1 : Int32)), (0, .index 338), (1, .int v1_), (2, .int v2), (3, .int v3), (4, .int v4_), (5, .int v5)] [] h_ (some (.int (Int32.ofInt (-1000002))), h', [])))
  ∨ ((¬ v11 = (Int32.ofInt (-1))) ∧ (v5 = (0 : Int32)) ∧ (∀ a_ j_ : Nat, bpat h' a_ j_ = bpat h_ a_ j_) ∧ (∀ D_, 60 ≤ D_ → xrun D_ 216 248 [(13, .int v13), (11, .int v11), (12, .int v12), (15, .int v15), (14, .int v14), (10, .int v10), (9, .int v9), (8, .int v8), (7, .int v7), (6, .int (1 : Int32)), (0, .index 338), (1, .int v1_), (2, .int v2), (3, .int v3), (4, .int v4_), (5, .int v5)] [] h_ (some (.int v11), h', [])))
  ∨ ((v11 = (Int32.ofInt (-1))) ∧ (v5 = (0 : Int32)) ∧ (bpat h' 341 2 = some (.int (v400 + (1 : Int32)))) ∧ (∀ a_ j_ : Nat, ¬ (a_ = 341 ∧ j_ = 2) → bpat h' a_ j_ = bpat h_ a_ j_) ∧ (∀ D_, 60 ≤ D_ → xrun D_ 216 248 [(13, .int v13), (11, .int v11), (12, .int v12), (15, .int v15), (14, .int v14), (10, .int v10), (9, .int v9), (8, .int v8), (7, .int v7), (6, .int (1 : Int32)), (0, .index 338), (1, .int v1_), (2, .int v2), (3, .int v3), (4, .int v4_), (5, .int v5)] [] h_ (some (.int (Int32.ofInt (-1000002))), h', [])))) := by
  have hA : yas mbaRCA_A (mbaRCA_r v1_ v2 v3 v4_ v5 v7 v8 v9 v10 v11 v12 v13 v14 v15 v400) (yg mbaRCA_s) := ⟨fun q_ hq => absurd hq List.not_mem_nil, fun q_ hq => absurd hq List.not_mem_nil, fun q_ hq => absurd hq List.not_mem_nil, fun n_ hn => yg_lo hn, fun q_ hq => absurd hq List.not_mem_nil⟩
  have Hs : ysh mbaRCA_A.1 (yg mbaRCA_s) h_ := ysh_of2 hs (fun q_ hq => absurd hq List.not_mem_nil)
  have Ho : ymem (mbaRCA_r v1_ v2 v3 v4_ v5 v7 v8 v9 v10 v11 v12 v13 v14 v15 v400) (yg mbaRCA_s) mbaRCA_O h_ := List.forall_mem_cons.mpr ⟨bpat_some (fxr_at hs.2 (show fxk fxl 338 3 = some 341 by decide +kernel)), List.forall_mem_cons.mpr ⟨bpat_some o0_, fun q_ hq => absurd hq List.not_mem_nil⟩⟩
  have HC : ∀ q_ ∈ mbaRCA_C, xhold (mbaRCA_r v1_ v2 v3 v4_ v5 v7 v8 v9 v10 v11 v12 v13 v14 v15 v400) q_ := fun q_ hq => absurd hq List.not_mem_nil
  rcases yrun (yis_ok mbaRCA_k) hA Hs Ho HC with ⟨q_, hq, h', K_, G_⟩ | ⟨q_, hq, h', K_, G_⟩
  · cases hq
  · rcases List.mem_cons.mp hq with e_ | hq
    · subst e_
      exact ⟨h', yfr_sm K_.2.2.2 hs K_.1 (ywa_r mbaRCA_w List.mem_cons_self), Or.inl (⟨xq_ltF rfl rfl (K_.2.2.1 _ List.mem_cons_self), xq_eqF rfl rfl (K_.2.2.1 _ (List.mem_cons_of_mem _ List.mem_cons_self)), xq_eqF rfl rfl (K_.2.2.1 _ (List.mem_cons_of_mem _ (List.mem_cons_of_mem _ List.mem_cons_self))), xq_eqF rfl rfl (K_.2.2.1 _ (List.mem_cons_of_mem _ (List.mem_cons_of_mem _ (List.mem_cons_of_mem _ List.mem_cons_self)))), fun a_ j_ => yfr_bp K_.2.2.2 (fun q_ hq => absurd hq List.not_mem_nil), G_⟩)⟩
    rcases List.mem_cons.mp hq with e_ | hq
    · subst e_
      exact ⟨h', yfr_sm K_.2.2.2 hs K_.1 (ywa_r mbaRCA_w (List.mem_cons_of_mem _ List.mem_cons_self)), Or.inr (Or.inl (⟨xq_eqF rfl rfl (K_.2.2.1 _ List.mem_cons_self), xq_ltT rfl rfl (K_.2.2.1 _ (List.mem_cons_of_mem _ List.mem_cons_self)), xq_eqF rfl rfl (K_.2.2.1 _ (List.mem_cons_of_mem _ (List.mem_cons_of_mem _ List.mem_cons_self))), xq_eqF rfl rfl (K_.2.2.1 _ (List.mem_cons_of_mem _ (List.mem_cons_of_mem _ (List.mem_cons_of_mem _ List.mem_cons_self)))), xq_eqF rfl rfl (K_.2.2.1 _ (List.mem_cons_of_mem _ (List.mem_cons_of_mem _ (List.mem_cons_of_mem _ (List.mem_cons_of_mem _ List.mem_cons_self))))), fun a_ j_ => yfr_bp K_.2.2.2 (fun q_ hq => absurd hq List.not_mem_nil), G_⟩))⟩
    rcases List.mem_cons.mp hq with e_ | hq
    · subst e_
      exact ⟨h', yfr_sm K_.2.2.2 hs K_.1 (ywa_r mbaRCA_w (List.mem_cons_of_mem _ (List.mem_cons_of_mem _ List.mem_cons_self))), Or.inr (Or.inr (Or.inl (⟨xq_eqT rfl rfl (K_.2.2.1 _ List.mem_cons_self), xq_ltT rfl rfl (K_.2.2.1 _ (List.mem_cons_of_mem _ List.mem_cons_self)), xq_eqF rfl rfl (K_.2.2.1 _ (List.mem_cons_of_mem _ (List.mem_cons_of_mem _ List.mem_cons_self))), xq_eqF rfl rfl (K_.2.2.1 _ (List.mem_cons_of_mem _ (List.mem_cons_of_mem _ (List.mem_cons_of_mem _ List.mem_cons_self)))), xq_eqF rfl rfl (K_.2.2.1 _ (List.mem_cons_of_mem _ (List.mem_cons_of_mem _ (List.mem_cons_of_mem _ (List.mem_cons_of_mem _ List.mem_cons_self))))), bpat_of (K_.2.1 _ List.mem_cons_self), fun a_ j_ n0_ => yfr_bp K_.2.2.2 (List.forall_mem_cons.mpr ⟨fun e_ => n0_ ⟨e_.1.symm, e_.2.symm⟩, fun q_ hq => absurd hq List.not_mem_nil⟩), G_⟩)))⟩
    rcases List.mem_cons.mp hq with e_ | hq
    · subst e_
      exact ⟨h', yfr_sm K_.2.2.2 hs K_.1 (ywa_r mbaRCA_w (List.mem_cons_of_mem _ (List.mem_cons_of_mem _ (List.mem_cons_of_mem _ List.mem_cons_self)))), Or.inr (Or.inr (Or.inr (Or.inl (⟨xq_eqT rfl rfl (K_.2.2.1 _ List.mem_cons_self), xq_eqF rfl rfl (K_.2.2.1 _ (List.mem_cons_of_mem _ List.mem_cons_self)), xq_eqF rfl rfl (K_.2.2.1 _ (List.mem_cons_of_mem _ (List.mem_cons_of_mem _ List.mem_cons_self))), fun a_ j_ => yfr_bp K_.2.2.2 (fun q_ hq => absurd hq List.not_mem_nil), G_⟩))))⟩
    rcases List.mem_cons.mp hq with e_ | hq
    · subst e_
      exact ⟨h', yfr_sm K_.2.2.2 hs K_.1 (ywa_r mbaRCA_w (List.mem_cons_of_mem _ (List.mem_cons_of_mem _ (List.mem_cons_of_mem _ (List.mem_cons_of_mem _ List.mem_cons_self))))), Or.inr (Or.inr (Or.inr (Or.inr (Or.inl (⟨xq_eqF rfl rfl (K_.2.2.1 _ List.mem_cons_self), xq_eqT rfl rfl (K_.2.2.1 _ (List.mem_cons_of_mem _ List.mem_cons_self)), xq_eqF rfl rfl (K_.2.2.1 _ (List.mem_cons_of_mem _ (List.mem_cons_of_mem _ List.mem_cons_self))), fun a_ j_ => yfr_bp K_.2.2.2 (fun q_ hq => absurd hq List.not_mem_nil), G_⟩)))))⟩
    rcases List.mem_cons.mp hq with e_ | hq
    · subst e_
      exact ⟨h', yfr_sm K_.2.2.2 hs K_.1 (ywa_r mbaRCA_w (List.mem_cons_of_mem _ (List.mem_cons_of_mem _ (List.mem_cons_of_mem _ (List.mem_cons_of_mem _ (List.mem_cons_of_mem _ List.mem_cons_self)))))), Or.inr (Or.inr (Or.inr (Or.inr (Or.inr (Or.inl (⟨xq_eqT rfl rfl (K_.2.2.1 _ List.mem_cons_self), xq_eqT rfl rfl (K_.2.2.1 _ (List.mem_cons_of_mem _ List.mem_cons_self)), xq_eqF rfl rfl (K_.2.2.1 _ (List.mem_cons_of_mem _ (List.mem_cons_of_mem _ List.mem_cons_self))), bpat_of (K_.2.1 _ List.mem_cons_self), fun a_ j_ n0_ => yfr_bp K_.2.2.2 (List.forall_mem_cons.mpr ⟨fun e_ => n0_ ⟨e_.1.symm, e_.2.symm⟩, fun q_ hq => absurd hq List.not_mem_nil⟩), G_⟩))))))⟩
    rcases List.mem_cons.mp hq with e_ | hq
    · subst e_
      exact ⟨h', yfr_sm K_.2.2.2 hs K_.1 (ywa_r mbaRCA_w (List.mem_cons_of_mem _ (List.mem_cons_of_mem _ (List.mem_cons_of_mem _ (List.mem_cons_of_mem _ (List.mem_cons_of_mem _ (List.mem_cons_of_mem _ List.mem_cons_self))))))), Or.inr (Or.inr (Or.inr (Or.inr (Or.inr (Or.inr (Or.inl (⟨xq_eqF rfl rfl (K_.2.2.1 _ List.mem_cons_self), xq_eqT rfl rfl (K_.2.2.1 _ (List.mem_cons_of_mem _ List.mem_cons_self)), fun a_ j_ => yfr_bp K_.2.2.2 (fun q_ hq => absurd hq List.not_mem_nil), G_⟩)))))))⟩
    have e_ := List.mem_singleton.mp hq
    subst e_
    exact ⟨h', yfr_sm K_.2.2.2 hs K_.1 (ywa_r mbaRCA_w (List.mem_cons_of_mem _ (List.mem_cons_of_mem _ (List.mem_cons_of_mem _ (List.mem_cons_of_mem _ (List.mem_cons_of_mem _ (List.mem_cons_of_mem _ (List.mem_cons_of_mem _ List.mem_cons_self)))))))), Or.inr (Or.inr (Or.inr (Or.inr (Or.inr (Or.inr (Or.inr (⟨xq_eqT rfl rfl (K_.2.2.1 _ List.mem_cons_self), xq_eqT rfl rfl (K_.2.2.1 _ (List.mem_cons_of_mem _ List.mem_cons_self)), bpat_of (K_.2.1 _ List.mem_cons_self), fun a_ j_ n0_ => yfr_bp K_.2.2.2 (List.forall_mem_cons.mpr ⟨fun e_ => n0_ ⟨e_.1.symm, e_.2.symm⟩, fun q_ hq => absurd hq List.not_mem_nil⟩), G_⟩)))))))⟩
-- mbaWB: 6 steps, 1 ends, 0 returns
def mbaWB_L : List (Nat × Nat × Nat) := []
def mbaWB_O : yO := []
def mbaWB_A : yA := (yZ mbaWB_L, [], [], [], [])
def mbaWB_C : List xB := []
def mbaWB_ss : List yS := [(233, [(16, .arg 21), (12, .arg 12), (15, .arg 15), (14, .arg 14), (10, .arg 10), (9, .arg 9), (13, .arg 13), (7, .arg 7), (8, .arg 8), (11, .arg 11), (6, .int 1), (0, .index 338), (1, .arg 1), (2, .arg 2), (3, .arg 3), (4, .arg 4), (5, .arg 5)], [.arg 13, .int 1, .arg 9, .arg 8, .index 338], [], [], [])]
def mbaWB_rs : List yR := []
theorem mbaWB_w : ywa mbaWB_A mbaWB_ss mbaWB_rs = true := by decide +kernel
theorem mbaWB_k : yis (yev mbaWB_A 3000 60 216 [233] (223, [(12, .arg 12), (15, .arg 15), (14, .arg 14), (10, .arg 10), (9, .arg 9), (13, .arg 13), (7, .arg 7), (8, .arg 8), (16, .arg 16), (11, .arg 11), (6, .int 1), (0, .index 338), (1, .arg 1), (2, .arg 2), (3, .arg 3), (4, .arg 4), (5, .arg 5)], [.arg 21], mbaWB_O, mbaWB_C, [])) mbaWB_ss mbaWB_rs = true := by decide +kernel
def mbaWB_r (v1_ v2 v3 v4_ v5 v7 v8 v9 v10 v11 v12 v13 v14 v15 v16 v21 : Int32) (k_ : Nat) : Value := bif Nat.beq k_ 1 then .int v1_ else (bif Nat.beq k_ 2 then .int v2 else (bif Nat.beq k_ 3 then .int v3 else (bif Nat.beq k_ 4 then .int v4_ else (bif Nat.beq k_ 5 then .int v5 else (bif Nat.beq k_ 7 then .int v7 else (bif Nat.beq k_ 8 then .int v8 else (bif Nat.beq k_ 9 then .int v9 else (bif Nat.beq k_ 10 then .int v10 else (bif Nat.beq k_ 11 then .int v11 else (bif Nat.beq k_ 12 then .int v12 else (bif Nat.beq k_ 13 then .int v13 else (bif Nat.beq k_ 14 then .int v14 else (bif Nat.beq k_ 15 then .int v15 else (bif Nat.beq k_ 16 then .int v16 else (bif Nat.beq k_ 21 then .int v21 else (.int 0))))))))))))))))
def mbaWB_s (n_ : Nat) : Nat := 0
theorem mbaWB {h_ : xH} {v1_ v2 v3 v4_ v5 v7 v8 v9 v10 v11 v12 v13 v14 v15 v16 v21 : Int32} (hs : sHp h_) : ∃ h', ysm h_ h' ∧ (((∀ a_ j_ : Nat, bpat h' a_ j_ = bpat h_ a_ j_) ∧ (bldD 60 216 223 [(12, .int v12), (15, .int v15), (14, .int v14), (10, .int v10), (9, .int v9), (13, .int v13), (7, .int v7), (8, .int v8), (16, .int v16), (11, .int v11), (6, .int (1 : Int32)), (0, .index 338), (1, .int v1_), (2, .int v2), (3, .int v3), (4, .int v4_), (5, .int v5)] [.int v21] h_ 233 [(16, .int v21), (12, .int v12), (15, .int v15), (14, .int v14), (10, .int v10), (9, .int v9), (13, .int v13), (7, .int v7), (8, .int v8), (11, .int v11), (6, .int (1 : Int32)), (0, .index 338), (1, .int v1_), (2, .int v2), (3, .int v3), (4, .int v4_), (5, .int v5)] [.int v13, .int (1 : Int32), .int v9, .int v8, .index 338] h'))) := by
  have hA : yas mbaWB_A (mbaWB_r v1_ v2 v3 v4_ v5 v7 v8 v9 v10 v11 v12 v13 v14 v15 v16 v21) (yg mbaWB_s) := ⟨fun q_ hq => absurd hq List.not_mem_nil, fun q_ hq => absurd hq List.not_mem_nil, fun q_ hq => absurd hq List.not_mem_nil, fun n_ hn => yg_lo hn, fun q_ hq => absurd hq List.not_mem_nil⟩
  have Hs : ysh mbaWB_A.1 (yg mbaWB_s) h_ := ysh_of2 hs (fun q_ hq => absurd hq List.not_mem_nil)
  have Ho : ymem (mbaWB_r v1_ v2 v3 v4_ v5 v7 v8 v9 v10 v11 v12 v13 v14 v15 v16 v21) (yg mbaWB_s) mbaWB_O h_ := fun q_ hq => absurd hq List.not_mem_nil
  have HC : ∀ q_ ∈ mbaWB_C, xhold (mbaWB_r v1_ v2 v3 v4_ v5 v7 v8 v9 v10 v11 v12 v13 v14 v15 v16 v21) q_ := fun q_ hq => absurd hq List.not_mem_nil
  rcases yrun (yis_ok mbaWB_k) hA Hs Ho HC with ⟨q_, hq, h', K_, G_⟩ | ⟨q_, hq, h', K_, G_⟩
  · have e_ := List.mem_singleton.mp hq
    subst e_
    exact ⟨h', yfr_sm K_.2.2.2 hs K_.1 (ywa_s mbaWB_w List.mem_cons_self), ⟨fun a_ j_ => yfr_bp K_.2.2.2 (fun q_ hq => absurd hq List.not_mem_nil), G_⟩⟩
  · cases hq
-- mbaZB: 5 steps, 1 ends, 0 returns
def mbaZB_L : List (Nat × Nat × Nat) := []
def mbaZB_O : yO := []
def mbaZB_A : yA := (yZ mbaZB_L, [], [], [], [])
def mbaZB_C : List xB := []
def mbaZB_ss : List yS := [(110, [(13, .add (.arg 13) (.int 1)), (7, .arg 16), (8, .arg 22), (16, .arg 16), (12, .arg 12), (15, .arg 15), (14, .arg 14), (10, .arg 10), (9, .arg 9), (11, .arg 11), (6, .int 1), (0, .index 338), (1, .arg 1), (2, .arg 2), (3, .arg 3), (4, .arg 4), (5, .arg 5)], [], [], [], [])]
def mbaZB_rs : List yR := []
theorem mbaZB_w : ywa mbaZB_A mbaZB_ss mbaZB_rs = true := by decide +kernel
theorem mbaZB_k : yis (yev mbaZB_A 3000 60 216 [110] (236, [(16, .arg 16), (12, .arg 12), (15, .arg 15), (14, .arg 14), (10, .arg 10), (9, .arg 9), (13, .arg 13), (7, .arg 7), (8, .arg 8), (11, .arg 11), (6, .int 1), (0, .index 338), (1, .arg 1), (2, .arg 2), (3, .arg 3), (4, .arg 4), (5, .arg 5)], [.arg 22], mbaZB_O, mbaZB_C, [])) mbaZB_ss mbaZB_rs = true := by decide +kernel
def mbaZB_r (v1_ v2 v3 v4_ v5 v7 v8 v9 v10 v11 v12 v13 v14 v15 v16 v22 : Int32) (k_ : Nat) : Value := bif Nat.beq k_ 1 then .int v1_ else (bif Nat.beq k_ 2 then .int v2 else (bif Nat.beq k_ 3 then .int v3 else (bif Nat.beq k_ 4 then .int v4_ else (bif Nat.beq k_ 5 then .int v5 else (bif Nat.beq k_ 7 then .int v7 else (bif Nat.beq k_ 8 then .int v8 else (bif Nat.beq k_ 9 then .int v9 else (bif Nat.beq k_ 10 then .int v10 else (bif Nat.beq k_ 11 then .int v11 else (bif Nat.beq k_ 12 then .int v12 else (bif Nat.beq k_ 13 then .int v13 else (bif Nat.beq k_ 14 then .int v14 else (bif Nat.beq k_ 15 then .int v15 else (bif Nat.beq k_ 16 then .int v16 else (bif Nat.beq k_ 22 then .int v22 else (.int 0))))))))))))))))
def mbaZB_s (n_ : Nat) : Nat := 0
theorem mbaZB {h_ : xH} {v1_ v2 v3 v4_ v5 v7 v8 v9 v10 v11 v12 v13 v14 v15 v16 v22 : Int32} (hs : sHp h_) : ∃ h', ysm h_ h' ∧ (((∀ a_ j_ : Nat, bpat h' a_ j_ = bpat h_ a_ j_) ∧ (bldD 60 216 236 [(16, .int v16), (12, .int v12), (15, .int v15), (14, .int v14), (10, .int v10), (9, .int v9), (13, .int v13), (7, .int v7), (8, .int v8), (11, .int v11), (6, .int (1 : Int32)), (0, .index 338), (1, .int v1_), (2, .int v2), (3, .int v3), (4, .int v4_), (5, .int v5)] [.int v22] h_ 110 [(13, .int (v13 + (1 : Int32))), (7, .int v16), (8, .int v22), (16, .int v16), (12, .int v12), (15, .int v15), (14, .int v14), (10, .int v10), (9, .int v9), (11, .int v11), (6, .int (1 : Int32)), (0, .index 338), (1, .int v1_), (2, .int v2), (3, .int v3), (4, .int v4_), (5, .int v5)] [] h'))) := by
  have hA : yas mbaZB_A (mbaZB_r v1_ v2 v3 v4_ v5 v7 v8 v9 v10 v11 v12 v13 v14 v15 v16 v22) (yg mbaZB_s) := ⟨fun q_ hq => absurd hq List.not_mem_nil, fun q_ hq => absurd hq List.not_mem_nil, fun q_ hq => absurd hq List.not_mem_nil, fun n_ hn => yg_lo hn, fun q_ hq => absurd hq List.not_mem_nil⟩
  have Hs : ysh mbaZB_A.1 (yg mbaZB_s) h_ := ysh_of2 hs (fun q_ hq => absurd hq List.not_mem_nil)
  have Ho : ymem (mbaZB_r v1_ v2 v3 v4_ v5 v7 v8 v9 v10 v11 v12 v13 v14 v15 v16 v22) (yg mbaZB_s) mbaZB_O h_ := fun q_ hq => absurd hq List.not_mem_nil
  have HC : ∀ q_ ∈ mbaZB_C, xhold (mbaZB_r v1_ v2 v3 v4_ v5 v7 v8 v9 v10 v11 v12 v13 v14 v15 v16 v22) q_ := fun q_ hq => absurd hq List.not_mem_nil
  rcases yrun (yis_ok mbaZB_k) hA Hs Ho HC with ⟨q_, hq, h', K_, G_⟩ | ⟨q_, hq, h', K_, G_⟩
  · have e_ := List.mem_singleton.mp hq
    subst e_
    exact ⟨h', yfr_sm K_.2.2.2 hs K_.1 (ywa_s mbaZB_w List.mem_cons_self), ⟨fun a_ j_ => yfr_bp K_.2.2.2 (fun q_ hq => absurd hq List.not_mem_nil), G_⟩⟩
  · cases hq
-- mbaYB: 6 steps, 1 ends, 0 returns
def mbaYB_L : List (Nat × Nat × Nat) := []
def mbaYB_O : yO := []
def mbaYB_A : yA := (yZ mbaYB_L, [], [], [], [])
def mbaYB_C : List xB := [(.eq, .arg 11, .int (Int32.ofInt (-1)), false), (.lt, .arg 13, .arg 4, true)]
def mbaYB_ss : List yS := [(248, [(13, .arg 13), (11, .arg 11), (12, .arg 12), (15, .arg 15), (14, .arg 14), (10, .arg 10), (9, .arg 9), (7, .arg 7), (8, .arg 8), (16, .arg 16), (6, .int 1), (0, .index 338), (1, .arg 1), (2, .arg 2), (3, .arg 3), (4, .arg 4), (5, .arg 5)], [], [], [(.eq, .arg 11, .int (Int32.ofInt (-1)), false), (.lt, .arg 13, .arg 4, true)], [])]
def mbaYB_rs : List yR := []
theorem mbaYB_w : ywa mbaYB_A mbaYB_ss mbaYB_rs = true := by decide +kernel
theorem mbaYB_k : yis (yev mbaYB_A 3000 60 216 [248] (110, [(13, .arg 13), (11, .arg 11), (12, .arg 12), (15, .arg 15), (14, .arg 14), (10, .arg 10), (9, .arg 9), (7, .arg 7), (8, .arg 8), (16, .arg 16), (6, .int 1), (0, .index 338), (1, .arg 1), (2, .arg 2), (3, .arg 3), (4, .arg 4), (5, .arg 5)], [], mbaYB_O, mbaYB_C, [])) mbaYB_ss mbaYB_rs = true := by decide +kernel
def mbaYB_r (v1_ v2 v3 v4_ v5 v7 v8 v9 v10 v11 v12 v13 v14 v15 v16 : Int32) (k_ : Nat) : Value := bif Nat.beq k_ 1 then .int v1_ else (bif Nat.beq k_ 2 then .int v2 else (bif Nat.beq k_ 3 then .int v3 else (bif Nat.beq k_ 4 then .int v4_ else (bif Nat.beq k_ 5 then .int v5 else (bif Nat.beq k_ 7 then .int v7 else (bif Nat.beq k_ 8 then .int v8 else (bif Nat.beq k_ 9 then .int v9 else (bif Nat.beq k_ 10 then .int v10 else (bif Nat.beq k_ 11 then .int v11 else (bif Nat.beq k_ 12 then .int v12 else (bif Nat.beq k_ 13 then .int v13 else (bif Nat.beq k_ 14 then .int v14 else (bif Nat.beq k_ 15 then .int v15 else (bif Nat.beq k_ 16 then .int v16 else (.int 0)))))))))))))))
def mbaYB_s (n_ : Nat) : Nat := 0
theorem mbaYB {h_ : xH} {v1_ v2 v3 v4_ v5 v7 v8 v9 v10 v11 v12 v13 v14 v15 v16 : Int32} (hs : sHp h_) (c0_ : ¬ v11 = (Int32.ofInt (-1))) (c1_ : v13.toInt < v4_.toInt) : ∃ h', ysm h_ h' ∧ (((∀ a_ j_ : Nat, bpat h' a_ j_ = bpat h_ a_ j_) ∧ (bldD 60 216 110 [(13, .int v13), (11, .int v11), (12, .int v12), (15, .int v15), (14, .int v14), (10, .int v10), (9, .int v9), (7, .int v7), (8, .int v8), (16, .int v16), (6, .int (1 : Int32)), (0, .index 338), (1, .int v1_), (2, .int v2), (3, .int v3), (4, .int v4_), (5, .int v5)] [] h_ 248 [(13, .int v13), (11, .int v11), (12, .int v12), (15, .int v15), (14, .int v14), (10, .int v10), (9, .int v9), (7, .int v7), (8, .int v8), (16, .int v16), (6, .int (1 : Int32)), (0, .index 338), (1, .int v1_), (2, .int v2), (3, .int v3), (4, .int v4_), (5, .int v5)] [] h'))) := by
  have hA : yas mbaYB_A (mbaYB_r v1_ v2 v3 v4_ v5 v7 v8 v9 v10 v11 v12 v13 v14 v15 v16) (yg mbaYB_s) := ⟨fun q_ hq => absurd hq List.not_mem_nil, fun q_ hq => absurd hq List.not_mem_nil, fun q_ hq => absurd hq List.not_mem_nil, fun n_ hn => yg_lo hn, fun q_ hq => absurd hq List.not_mem_nil⟩
  have Hs : ysh mbaYB_A.1 (yg mbaYB_s) h_ := ysh_of2 hs (fun q_ hq => absurd hq List.not_mem_nil)
  have Ho : ymem (mbaYB_r v1_ v2 v3 v4_ v5 v7 v8 v9 v10 v11 v12 v13 v14 v15 v16) (yg mbaYB_s) mbaYB_O h_ := fun q_ hq => absurd hq List.not_mem_nil
  have HC : ∀ q_ ∈ mbaYB_C, xhold (mbaYB_r v1_ v2 v3 v4_ v5 v7 v8 v9 v10 v11 v12 v13 v14 v15 v16) q_ := List.forall_mem_cons.mpr ⟨xh_eqF2 c0_, List.forall_mem_cons.mpr ⟨xh_ltT c1_, fun q_ hq => absurd hq List.not_mem_nil⟩⟩
  rcases yrun (yis_ok mbaYB_k) hA Hs Ho HC with ⟨q_, hq, h', K_, G_⟩ | ⟨q_, hq, h', K_, G_⟩
  · have e_ := List.mem_singleton.mp hq
    subst e_
    exact ⟨h', yfr_sm K_.2.2.2 hs K_.1 (ywa_s mbaYB_w List.mem_cons_self), ⟨fun a_ j_ => yfr_bp K_.2.2.2 (fun q_ hq => absurd hq List.not_mem_nil), G_⟩⟩
  · cases hq
-- mbaY2B: 3 steps, 1 ends, 0 returns
def mbaY2B_L : List (Nat × Nat × Nat) := []
def mbaY2B_O : yO := []
def mbaY2B_A : yA := (yZ mbaY2B_L, [], [], [], [])
def mbaY2B_C : List xB := [(.lt, .arg 13, .arg 4, false)]
def mbaY2B_ss : List yS := [(248, [(13, .arg 13), (11, .arg 11), (12, .arg 12), (15, .arg 15), (14, .arg 14), (10, .arg 10), (9, .arg 9), (7, .arg 7), (8, .arg 8), (16, .arg 16), (6, .int 1), (0, .index 338), (1, .arg 1), (2, .arg 2), (3, .arg 3), (4, .arg 4), (5, .arg 5)], [], [], [(.lt, .arg 13, .arg 4, false)], [])]
def mbaY2B_rs : List yR := []
theorem mbaY2B_w : ywa mbaY2B_A mbaY2B_ss mbaY2B_rs = true := by decide +kernel
theorem mbaY2B_k : yis (yev mbaY2B_A 3000 60 216 [248] (110, [(13, .arg 13), (11, .arg 11), (12, .arg 12), (15, .arg 15), (14, .arg 14), (10, .arg 10), (9, .arg 9), (7, .arg 7), (8, .arg 8), (16, .arg 16), (6, .int 1), (0, .index 338), (1, .arg 1), (2, .arg 2), (3, .arg 3), (4, .arg 4), (5, .arg 5)], [], mbaY2B_O, mbaY2B_C, [])) mbaY2B_ss mbaY2B_rs = true := by decide +kernel
def mbaY2B_r (v1_ v2 v3 v4_ v5 v7 v8 v9 v10 v11 v12 v13 v14 v15 v16 : Int32) (k_ : Nat) : Value := bif Nat.beq k_ 1 then .int v1_ else (bif Nat.beq k_ 2 then .int v2 else (bif Nat.beq k_ 3 then .int v3 else (bif Nat.beq k_ 4 then .int v4_ else (bif Nat.beq k_ 5 then .int v5 else (bif Nat.beq k_ 7 then .int v7 else (bif Nat.beq k_ 8 then .int v8 else (bif Nat.beq k_ 9 then .int v9 else (bif Nat.beq k_ 10 then .int v10 else (bif Nat.beq k_ 11 then .int v11 else (bif Nat.beq k_ 12 then .int v12 else (bif Nat.beq k_ 13 then .int v13 else (bif Nat.beq k_ 14 then .int v14 else (bif Nat.beq k_ 15 then .int v15 else (bif Nat.beq k_ 16 then .int v16 else (.int 0)))))))))))))))
def mbaY2B_s (n_ : Nat) : Nat := 0
theorem mbaY2B {h_ : xH} {v1_ v2 v3 v4_ v5 v7 v8 v9 v10 v11 v12 v13 v14 v15 v16 : Int32} (hs : sHp h_) (c0_ : v4_.toInt ≤ v13.toInt) : ∃ h', ysm h_ h' ∧ (((∀ a_ j_ : Nat, bpat h' a_ j_ = bpat h_ a_ j_) ∧ (bldD 60 216 110 [(13, .int v13), (11, .int v11), (12, .int v12), (15, .int v15), (14, .int v14), (10, .int v10), (9, .int v9), (7, .int v7), (8, .int v8), (16, .int v16), (6, .int (1 : Int32)), (0, .index 338), (1, .int v1_), (2, .int v2), (3, .int v3), (4, .int v4_), (5, .int v5)] [] h_ 248 [(13, .int v13), (11, .int v11), (12, .int v12), (15, .int v15), (14, .int v14), (10, .int v10), (9, .int v9), (7, .int v7), (8, .int v8), (16, .int v16), (6, .int (1 : Int32)), (0, .index 338), (1, .int v1_), (2, .int v2), (3, .int v3), (4, .int v4_), (5, .int v5)] [] h'))) := by
  have hA : yas mbaY2B_A (mbaY2B_r v1_ v2 v3 v4_ v5 v7 v8 v9 v10 v11 v12 v13 v14 v15 v16) (yg mbaY2B_s) := ⟨fun q_ hq => absurd hq List.not_mem_nil, fun q_ hq => absurd hq List.not_mem_nil, fun q_ hq => absurd hq List.not_mem_nil, fun n_ hn => yg_lo hn, fun q_ hq => absurd hq List.not_mem_nil⟩
  have Hs : ysh mbaY2B_A.1 (yg mbaY2B_s) h_ := ysh_of2 hs (fun q_ hq => absurd hq List.not_mem_nil)
  have Ho : ymem (mbaY2B_r v1_ v2 v3 v4_ v5 v7 v8 v9 v10 v11 v12 v13 v14 v15 v16) (yg mbaY2B_s) mbaY2B_O h_ := fun q_ hq => absurd hq List.not_mem_nil
  have HC : ∀ q_ ∈ mbaY2B_C, xhold (mbaY2B_r v1_ v2 v3 v4_ v5 v7 v8 v9 v10 v11 v12 v13 v14 v15 v16) q_ := List.forall_mem_cons.mpr ⟨xh_ltF c0_, fun q_ hq => absurd hq List.not_mem_nil⟩
  rcases yrun (yis_ok mbaY2B_k) hA Hs Ho HC with ⟨q_, hq, h', K_, G_⟩ | ⟨q_, hq, h', K_, G_⟩
  · have e_ := List.mem_singleton.mp hq
    subst e_
    exact ⟨h', yfr_sm K_.2.2.2 hs K_.1 (ywa_s mbaY2B_w List.mem_cons_self), ⟨fun a_ j_ => yfr_bp K_.2.2.2 (fun q_ hq => absurd hq List.not_mem_nil), G_⟩⟩
  · cases hq
-- mbaRB: 101 steps, 0 ends, 8 returns
def mbaRB_L : List (Nat × Nat × Nat) := []
def mbaRB_O : yO := [(338, .int 3, .index 341), (341, .int 2, .arg 400)]
def mbaRB_A : yA := (yZ mbaRB_L, [], [], [], [])
def mbaRB_C : List xB := []
def mbaRB_ss : List yS := []
def mbaRB_rs : List yR := [(some (.arg 8), [(338, .int 3, .index 341), (341, .int 2, .arg 400)], [(.lt, .arg 5, .int 2, false), (.eq, .arg 5, .int 2, false), (.eq, .arg 5, .int 1, false), (.eq, .arg 5, .int 0, false)], []),
  (some (.arg 8), [(338, .int 3, .index 341), (341, .int 2, .arg 400)], [(.eq, .arg 8, .int (Int32.ofInt (-1)), false), (.lt, .arg 5, .int 2, true), (.eq, .arg 5, .int 2, false), (.eq, .arg 5, .int 1, false), (.eq, .arg 5, .int 0, false)], []),
  (some (.int (Int32.ofInt (-1000002))), [(341, .int 2, .add (.arg 400) (.int 1)), (338, .int 3, .index 341)], [(.eq, .arg 8, .int (Int32.ofInt (-1)), true), (.lt, .arg 5, .int 2, true), (.eq, .arg 5, .int 2, false), (.eq, .arg 5, .int 1, false), (.eq, .arg 5, .int 0, false)], [(341, .int 2)]),
  (some (.arg 7), [(338, .int 3, .index 341), (341, .int 2, .arg 400)], [(.eq, .arg 5, .int 2, true), (.eq, .arg 5, .int 1, false), (.eq, .arg 5, .int 0, false)], []),
  (some (.arg 12), [(338, .int 3, .index 341), (341, .int 2, .arg 400)], [(.eq, .arg 12, .int (Int32.ofInt (-1)), false), (.eq, .arg 5, .int 1, true), (.eq, .arg 5, .int 0, false)], []),
  (some (.int (Int32.ofInt (-1000002))), [(341, .int 2, .add (.arg 400) (.int 1)), (338, .int 3, .index 341)], [(.eq, .arg 12, .int (Int32.ofInt (-1)), true), (.eq, .arg 5, .int 1, true), (.eq, .arg 5, .int 0, false)], [(341, .int 2)]),
  (some (.arg 11), [(338, .int 3, .index 341), (341, .int 2, .arg 400)], [(.eq, .arg 11, .int (Int32.ofInt (-1)), false), (.eq, .arg 5, .int 0, true)], []),
  (some (.int (Int32.ofInt (-1000002))), [(341, .int 2, .add (.arg 400) (.int 1)), (338, .int 3, .index 341)], [(.eq, .arg 11, .int (Int32.ofInt (-1)), true), (.eq, .arg 5, .int 0, true)], [(341, .int 2)])]
theorem mbaRB_w : ywa mbaRB_A mbaRB_ss mbaRB_rs = true := by decide +kernel
theorem mbaRB_k : yis (yev mbaRB_A 3000 60 216 [] (248, [(13, .arg 13), (7, .arg 7), (8, .arg 8), (16, .arg 16), (12, .arg 12), (15, .arg 15), (14, .arg 14), (10, .arg 10), (9, .arg 9), (11, .arg 11), (6, .int 1), (0, .index 338), (1, .arg 1), (2, .arg 2), (3, .arg 3), (4, .arg 4), (5, .arg 5)], [], mbaRB_O, mbaRB_C, [])) mbaRB_ss mbaRB_rs = true := by decide +kernel
def mbaRB_r (v1_ v2 v3 v4_ v5 v7 v8 v9 v10 v11 v12 v13 v14 v15 v16 v400 : Int32) (k_ : Nat) : Value := bif Nat.beq k_ 1 then .int v1_ else (bif Nat.beq k_ 2 then .int v2 else (bif Nat.beq k_ 3 then .int v3 else (bif Nat.beq k_ 4 then .int v4_ else (bif Nat.beq k_ 5 then .int v5 else (bif Nat.beq k_ 7 then .int v7 else (bif Nat.beq k_ 8 then .int v8 else (bif Nat.beq k_ 9 then .int v9 else (bif Nat.beq k_ 10 then .int v10 else (bif Nat.beq k_ 11 then .int v11 else (bif Nat.beq k_ 12 then .int v12 else (bif Nat.beq k_ 13 then .int v13 else (bif Nat.beq k_ 14 then .int v14 else (bif Nat.beq k_ 15 then .int v15 else (bif Nat.beq k_ 16 then .int v16 else (bif Nat.beq k_ 400 then .int v400 else (.int 0))))))))))))))))
def mbaRB_s (n_ : Nat) : Nat := 0
theorem mbaRB {h_ : xH} {v1_ v2 v3 v4_ v5 v7 v8 v9 v10 v11 v12 v13 v14 v15 v16 v400 : Int32} (hs : sHp h_) (o0_ : bpat h_ 341 2 = some (.int v400)) : ∃ h', ysm h_ h' ∧ ((((2 : Int32).toInt ≤ v5.toInt) ∧ (¬ v5 = (2 : Int32)) ∧ (¬ v5 = (1 : Int32)) ∧ (¬ v5 = (0 : Int32)) ∧ (∀ a_ j_ : Nat, bpat h' a_ j_ = bpat h_ a_ j_) ∧ (∀ D_, 60 ≤ D_ → xrun D_ 216 248 [(13, .int v13), (7, .int v7), (8, .int v8), (16, .int v16), (12, .int v12), (15, .int v15), (14, .int v14), (10, .int v10), (9, .int v9), (11, .int v11), (6, .int (1 : Int32)), (0, .index 338), (1, .int v1_), (2, .int v2), (3, .int v3), (4, .int v4_), (5, .int v5)] [] h_ (some (.int v8), h', [])))
  ∨ ((¬ v8 = (Int32.ofInt (-1))) ∧ (v5.toInt < (2 : Int32).toInt) ∧ (¬ v5 = (2 : Int32)) ∧ (¬ v5 = (1 : Int32)) ∧ (¬ v5 = (0 : Int32)) ∧ (∀ a_ j_ : Nat, bpat h' a_ j_ = bpat h_ a_ j_) ∧ (∀ D_, 60 ≤ D_ → xrun D_ 216 248 [(13, .int v13), (7, .int v7), (8, .int v8), (16, .int v16), (12, .int v12), (15, .int v15), (14, .int v14), (10, .int v10), (9, .int v9), (11, .int v11), (6, .int (1 : Int32)), (0, .index 338), (1, .int v1_), (2, .int v2), (3, .int v3), (4, .int v4_), (5, .int v5)] [] h_ (some (.int v8), h', [])))
  ∨ ((v8 = (Int32.ofInt (-1))) ∧ (v5.toInt < (2 : Int32).toInt) ∧ (¬ v5 = (2 : Int32)) ∧ (¬ v5 = (1 : Int32)) ∧ (¬ v5 = (0 : Int32)) ∧ (bpat h' 341 2 = some (.int (v400 + (1 : Int32)))) ∧ (∀ a_ j_ : Nat, ¬ (a_ = 341 ∧ j_ = 2) → bpat h' a_ j_ = bpat h_ a_ j_) ∧ (∀ D_, 60 ≤ D_ → xrun D_ 216 248 [(13, .int v13), (7, .int v7), (8, .int v8), (16, .int v16), (12, .int v12), (15, .int v15), (14, .int v14), (10, .int v10), (9, .int v9), (11, .int v11), (6, .int (1 : Int32)), (0, .index 338), (1, .int v1_), (2, .int v2), (3, .int v3), (4, .int v4_), (5, .int v5)] [] h_ (some (.int (Int32.ofInt (-1000002))), h', [])))
  ∨ ((v5 = (2 : Int32)) ∧ (¬ v5 = (1 : Int32)) ∧ (¬ v5 = (0 : Int32)) ∧ (∀ a_ j_ : Nat, bpat h' a_ j_ = bpat h_ a_ j_) ∧ (∀ D_, 60 ≤ D_ → xrun D_ 216 248 [(13, .int v13), (7, .int v7), (8, .int v8), (16, .int v16), (12, .int v12), (15, .int v15), (14, .int v14), (10, .int v10), (9, .int v9), (11, .int v11), (6, .int (1 : Int32)), (0, .index 338), (1, .int v1_), (2, .int v2), (3, .int v3), (4, .int v4_), (5, .int v5)] [] h_ (some (.int v7), h', [])))
  ∨ ((¬ v12 = (Int32.ofInt (-1))) ∧ (v5 = (1 : Int32)) ∧ (¬ v5 = (0 : Int32)) ∧ (∀ a_ j_ : Nat, bpat h' a_ j_ = bpat h_ a_ j_) ∧ (∀ D_, 60 ≤ D_ → xrun D_ 216 248 [(13, .int v13), (7, .int v7), (8, .int v8), (16, .int v16), (12, .int v12), (15, .int v15), (14, .int v14), (10, .int v10), (9, .int v9), (11, .int v11), (6, .int (1 : Int32)), (0, .index 338), (1, .int v1_), (2, .int v2), (3, .int v3), (4, .int v4_), (5, .int v5)] [] h_ (some (.int v12), h', [])))
  ∨ ((v12 = (Int32.ofInt (-1))) ∧ (v5 = (1 : Int32)) ∧ (¬ v5 = (0 : Int32)) ∧ (bpat h' 341 2 = some (.int (v400 + (1 : Int32)))) ∧ (∀ a_ j_ : Nat, ¬ (a_ = 341 ∧ j_ = 2) → bpat h' a_ j_ = bpat h_ a_ j_) ∧ (∀ D_, 60 ≤ D_ → xrun D_ 216 248 [(13, .int v13), (7, .int v7), (8, .int v8), (16, .int v16), (12, .int v12), (15, .int v15), (14, .int v14), (10, .int v10), (9, .int v9), (11, .int v11), (6, .int (1 : Int32)), (0, .index 338), (1, .int v1_), (2, .int v2), (3, .int v3), (4, .int v4_), (5, .int v5)] [] h_ (some (.int (Int32.ofInt (-1000002))), h', [])))
  ∨ ((¬ v11 = (Int32.ofInt (-1))) ∧ (v5 = (0 : Int32)) ∧ (∀ a_ j_ : Nat, bpat h' a_ j_ = bpat h_ a_ j_) ∧ (∀ D_, 60 ≤ D_ → xrun D_ 216 248 [(13, .int v13), (7, .int v7), (8, .int v8), (16, .int v16), (12, .int v12), (15, .int v15), (14, .int v14), (10, .int v10), (9, .int v9), (11, .int v11), (6, .int (1 : Int32)), (0, .index 338), (1, .int v1_), (2, .int v2), (3, .int v3), (4, .int v4_), (5, .int v5)] [] h_ (some (.int v11), h', [])))
  ∨ ((v11 = (Int32.ofInt (-1))) ∧ (v5 = (0 : Int32)) ∧ (bpat h' 341 2 = some (.int (v400 + (1 : Int32)))) ∧ (∀ a_ j_ : Nat, ¬ (a_ = 341 ∧ j_ = 2) → bpat h' a_ j_ = bpat h_ a_ j_) ∧ (∀ D_, 60 ≤ D_ → xrun D_ 216 248 [(13, .int v13), (7, .int v7), (8, .int v8), (16, .int v16), (12, .int v12), (15, .int v15), (14, .int v14), (10, .int v10), (9, .int v9), (11, .int v11), (6, .int (1 : Int32)), (0, .index 338), (1, .int v1_), (2, .int v2), (3, .int v3), (4, .int v4_), (5, .int v5)] [] h_ (some (.int (Int32.ofInt (-1000002))), h', [])))) := by
  have hA : yas mbaRB_A (mbaRB_r v1_ v2 v3 v4_ v5 v7 v8 v9 v10 v11 v12 v13 v14 v15 v16 v400) (yg mbaRB_s) := ⟨fun q_ hq => absurd hq List.not_mem_nil, fun q_ hq => absurd hq List.not_mem_nil, fun q_ hq => absurd hq List.not_mem_nil, fun n_ hn => yg_lo hn, fun q_ hq => absurd hq List.not_mem_nil⟩
  have Hs : ysh mbaRB_A.1 (yg mbaRB_s) h_ := ysh_of2 hs (fun q_ hq => absurd hq List.not_mem_nil)
  have Ho : ymem (mbaRB_r v1_ v2 v3 v4_ v5 v7 v8 v9 v10 v11 v12 v13 v14 v15 v16 v400) (yg mbaRB_s) mbaRB_O h_ := List.forall_mem_cons.mpr ⟨bpat_some (fxr_at hs.2 (show fxk fxl 338 3 = some 341 by decide +kernel)), List.forall_mem_cons.mpr ⟨bpat_some o0_, fun q_ hq => absurd hq List.not_mem_nil⟩⟩
  have HC : ∀ q_ ∈ mbaRB_C, xhold (mbaRB_r v1_ v2 v3 v4_ v5 v7 v8 v9 v10 v11 v12 v13 v14 v15 v16 v400) q_ := fun q_ hq => absurd hq List.not_mem_nil
  rcases yrun (yis_ok mbaRB_k) hA Hs Ho HC with ⟨q_, hq, h', K_, G_⟩ | ⟨q_, hq, h', K_, G_⟩
  · cases hq
  · rcases List.mem_cons.mp hq with e_ | hq
    · subst e_
      exact ⟨h', yfr_sm K_.2.2.2 hs K_.1 (ywa_r mbaRB_w List.mem_cons_self), Or.inl (⟨xq_ltF rfl rfl (K_.2.2.1 _ List.mem_cons_self), xq_eqF rfl rfl (K_.2.2.1 _ (List.mem_cons_of_mem _ List.mem_cons_self)), xq_eqF rfl rfl (K_.2.2.1 _ (List.mem_cons_of_mem _ (List.mem_cons_of_mem _ List.mem_cons_self))), xq_eqF rfl rfl (K_.2.2.1 _ (List.mem_cons_of_mem _ (List.mem_cons_of_mem _ (List.mem_cons_of_mem _ List.mem_cons_self)))), fun a_ j_ => yfr_bp K_.2.2.2 (fun q_ hq => absurd hq List.not_mem_nil), G_⟩)⟩
    rcases List.mem_cons.mp hq with e_ | hq
    · subst e_
      exact ⟨h', yfr_sm K_.2.2.2 hs K_.1 (ywa_r mbaRB_w (List.mem_cons_of_mem _ List.mem_cons_self)), Or.inr (Or.inl (⟨xq_eqF rfl rfl (K_.2.2.1 _ List.mem_cons_self), xq_ltT rfl rfl (K_.2.2.1 _ (List.mem_cons_of_mem _ List.mem_cons_self)), xq_eqF rfl rfl (K_.2.2.1 _ (List.mem_cons_of_mem _ (List.mem_cons_of_mem _ List.mem_cons_self))), xq_eqF rfl rfl (K_.2.2.1 _ (List.mem_cons_of_mem _ (List.mem_cons_of_mem _ (List.mem_cons_of_mem _ List.mem_cons_self)))), xq_eqF rfl rfl (K_.2.2.1 _ (List.mem_cons_of_mem _ (List.mem_cons_of_mem _ (List.mem_cons_of_mem _ (List.mem_cons_of_mem _ List.mem_cons_self))))), fun a_ j_ => yfr_bp K_.2.2.2 (fun q_ hq => absurd hq List.not_mem_nil), G_⟩))⟩
    rcases List.mem_cons.mp hq with e_ | hq
    · subst e_
      exact ⟨h', yfr_sm K_.2.2.2 hs K_.1 (ywa_r mbaRB_w (List.mem_cons_of_mem _ (List.mem_cons_of_mem _ List.mem_cons_self))), Or.inr (Or.inr (Or.inl (⟨xq_eqT rfl rfl (K_.2.2.1 _ List.mem_cons_self), xq_ltT rfl rfl (K_.2.2.1 _ (List.mem_cons_of_mem _ List.mem_cons_self)), xq_eqF rfl rfl (K_.2.2.1 _ (List.mem_cons_of_mem _ (List.mem_cons_of_mem _ List.mem_cons_self))), xq_eqF rfl rfl (K_.2.2.1 _ (List.mem_cons_of_mem _ (List.mem_cons_of_mem _ (List.mem_cons_of_mem _ List.mem_cons_self)))), xq_eqF rfl rfl (K_.2.2.1 _ (List.mem_cons_of_mem _ (List.mem_cons_of_mem _ (List.mem_cons_of_mem _ (List.mem_cons_of_mem _ List.mem_cons_self))))), bpat_of (K_.2.1 _ List.mem_cons_self), fun a_ j_ n0_ => yfr_bp K_.2.2.2 (List.forall_mem_cons.mpr ⟨fun e_ => n0_ ⟨e_.1.symm, e_.2.symm⟩, fun q_ hq => absurd hq List.not_mem_nil⟩), G_⟩)))⟩
    rcases List.mem_cons.mp hq with e_ | hq
    · subst e_
      exact ⟨h', yfr_sm K_.2.2.2 hs K_.1 (ywa_r mbaRB_w (List.mem_cons_of_mem _ (List.mem_cons_of_mem _ (List.mem_cons_of_mem _ List.mem_cons_self)))), Or.inr (Or.inr (Or.inr (Or.inl (⟨xq_eqT rfl rfl (K_.2.2.1 _ List.mem_cons_self), xq_eqF rfl rfl (K_.2.2.1 _ (List.mem_cons_of_mem _ List.mem_cons_self)), xq_eqF rfl rfl (K_.2.2.1 _ (List.mem_cons_of_mem _ (List.mem_cons_of_mem _ List.mem_cons_self))), fun a_ j_ => yfr_bp K_.2.2.2 (fun q_ hq => absurd hq List.not_mem_nil), G_⟩))))⟩
    rcases List.mem_cons.mp hq with e_ | hq
    · subst e_
      exact ⟨h', yfr_sm K_.2.2.2 hs K_.1 (ywa_r mbaRB_w (List.mem_cons_of_mem _ (List.mem_cons_of_mem _ (List.mem_cons_of_mem _ (List.mem_cons_of_mem _ List.mem_cons_self))))), Or.inr (Or.inr (Or.inr (Or.inr (Or.inl (⟨xq_eqF rfl rfl (K_.2.2.1 _ List.mem_cons_self), xq_eqT rfl rfl (K_.2.2.1 _ (List.mem_cons_of_mem _ List.mem_cons_self)), xq_eqF rfl rfl (K_.2.2.1 _ (List.mem_cons_of_mem _ (List.mem_cons_of_mem _ List.mem_cons_self))), fun a_ j_ => yfr_bp K_.2.2.2 (fun q_ hq => absurd hq List.not_mem_nil), G_⟩)))))⟩
    rcases List.mem_cons.mp hq with e_ | hq
    · subst e_
      exact ⟨h', yfr_sm K_.2.2.2 hs K_.1 (ywa_r mbaRB_w (List.mem_cons_of_mem _ (List.mem_cons_of_mem _ (List.mem_cons_of_mem _ (List.mem_cons_of_mem _ (List.mem_cons_of_mem _ List.mem_cons_self)))))), Or.inr (Or.inr (Or.inr (Or.inr (Or.inr (Or.inl (⟨xq_eqT rfl rfl (K_.2.2.1 _ List.mem_cons_self), xq_eqT rfl rfl (K_.2.2.1 _ (List.mem_cons_of_mem _ List.mem_cons_self)), xq_eqF rfl rfl (K_.2.2.1 _ (List.mem_cons_of_mem _ (List.mem_cons_of_mem _ List.mem_cons_self))), bpat_of (K_.2.1 _ List.mem_cons_self), fun a_ j_ n0_ => yfr_bp K_.2.2.2 (List.forall_mem_cons.mpr ⟨fun e_ => n0_ ⟨e_.1.symm, e_.2.symm⟩, fun q_ hq => absurd hq List.not_mem_nil⟩), G_⟩))))))⟩
    rcases List.mem_cons.mp hq with e_ | hq
    · subst e_
      exact ⟨h', yfr_sm K_.2.2.2 hs K_.1 (ywa_r mbaRB_w (List.mem_cons_of_mem _ (List.mem_cons_of_mem _ (List.mem_cons_of_mem _ (List.mem_cons_of_mem _ (List.mem_cons_of_mem _ (List.mem_cons_of_mem _ List.mem_cons_self))))))), Or.inr (Or.inr (Or.inr (Or.inr (Or.inr (Or.inr (Or.inl (⟨xq_eqF rfl rfl (K_.2.2.1 _ List.mem_cons_self), xq_eqT rfl rfl (K_.2.2.1 _ (List.mem_cons_of_mem _ List.mem_cons_self)), fun a_ j_ => yfr_bp K_.2.2.2 (fun q_ hq => absurd hq List.not_mem_nil), G_⟩)))))))⟩
    have e_ := List.mem_singleton.mp hq
    subst e_
    exact ⟨h', yfr_sm K_.2.2.2 hs K_.1 (ywa_r mbaRB_w (List.mem_cons_of_mem _ (List.mem_cons_of_mem _ (List.mem_cons_of_mem _ (List.mem_cons_of_mem _ (List.mem_cons_of_mem _ (List.mem_cons_of_mem _ (List.mem_cons_of_mem _ List.mem_cons_self)))))))), Or.inr (Or.inr (Or.inr (Or.inr (Or.inr (Or.inr (Or.inr (⟨xq_eqT rfl rfl (K_.2.2.1 _ List.mem_cons_self), xq_eqT rfl rfl (K_.2.2.1 _ (List.mem_cons_of_mem _ List.mem_cons_self)), bpat_of (K_.2.1 _ List.mem_cons_self), fun a_ j_ n0_ => yfr_bp K_.2.2.2 (List.forall_mem_cons.mpr ⟨fun e_ => n0_ ⟨e_.1.symm, e_.2.symm⟩, fun q_ hq => absurd hq List.not_mem_nil⟩), G_⟩)))))))⟩
-- mbaRCB: 101 steps, 0 ends, 8 returns
def mbaRCB_L : List (Nat × Nat × Nat) := []
def mbaRCB_O : yO := [(338, .int 3, .index 341), (341, .int 2, .arg 400)]
def mbaRCB_A : yA := (yZ mbaRCB_L, [], [], [], [])
def mbaRCB_C : List xB := []
def mbaRCB_ss : List yS := []
def mbaRCB_rs : List yR := [(some (.arg 8), [(338, .int 3, .index 341), (341, .int 2, .arg 400)], [(.lt, .arg 5, .int 2, false), (.eq, .arg 5, .int 2, false), (.eq, .arg 5, .int 1, false), (.eq, .arg 5, .int 0, false)], []),
  (some (.arg 8), [(338, .int 3, .index 341), (341, .int 2, .arg 400)], [(.eq, .arg 8, .int (Int32.ofInt (-1)), false), (.lt, .arg 5, .int 2, true), (.eq, .arg 5, .int 2, false), (.eq, .arg 5, .int 1, false), (.eq, .arg 5, .int 0, false)], []),
  (some (.int (Int32.ofInt (-1000002))), [(341, .int 2, .add (.arg 400) (.int 1)), (338, .int 3, .index 341)], [(.eq, .arg 8, .int (Int32.ofInt (-1)), true), (.lt, .arg 5, .int 2, true), (.eq, .arg 5, .int 2, false), (.eq, .arg 5, .int 1, false), (.eq, .arg 5, .int 0, false)], [(341, .int 2)]),
  (some (.arg 7), [(338, .int 3, .index 341), (341, .int 2, .arg 400)], [(.eq, .arg 5, .int 2, true), (.eq, .arg 5, .int 1, false), (.eq, .arg 5, .int 0, false)], []),
  (some (.arg 12), [(338, .int 3, .index 341), (341, .int 2, .arg 400)], [(.eq, .arg 12, .int (Int32.ofInt (-1)), false), (.eq, .arg 5, .int 1, true), (.eq, .arg 5, .int 0, false)], []),
  (some (.int (Int32.ofInt (-1000002))), [(341, .int 2, .add (.arg 400) (.int 1)), (338, .int 3, .index 341)], [(.eq, .arg 12, .int (Int32.ofInt (-1)), true), (.eq, .arg 5, .int 1, true), (.eq, .arg 5, .int 0, false)], [(341, .int 2)]),
  (some (.arg 11), [(338, .int 3, .index 341), (341, .int 2, .arg 400)], [(.eq, .arg 11, .int (Int32.ofInt (-1)), false), (.eq, .arg 5, .int 0, true)], []),
  (some (.int (Int32.ofInt (-1000002))), [(341, .int 2, .add (.arg 400) (.int 1)), (338, .int 3, .index 341)], [(.eq, .arg 11, .int (Int32.ofInt (-1)), true), (.eq, .arg 5, .int 0, true)], [(341, .int 2)])]
theorem mbaRCB_w : ywa mbaRCB_A mbaRCB_ss mbaRCB_rs = true := by decide +kernel
theorem mbaRCB_k : yis (yev mbaRCB_A 3000 60 216 [] (248, [(13, .arg 13), (11, .arg 11), (12, .arg 12), (15, .arg 15), (14, .arg 14), (10, .arg 10), (9, .arg 9), (7, .arg 7), (8, .arg 8), (16, .arg 16), (6, .int 1), (0, .index 338), (1, .arg 1), (2, .arg 2), (3, .arg 3), (4, .arg 4), (5, .arg 5)], [], mbaRCB_O, mbaRCB_C, [])) mbaRCB_ss mbaRCB_rs = true := by decide +kernel
def mbaRCB_r (v1_ v2 v3 v4_ v5 v7 v8 v9 v10 v11 v12 v13 v14 v15 v16 v400 : Int32) (k_ : Nat) : Value := bif Nat.beq k_ 1 then .int v1_ else (bif Nat.beq k_ 2 then .int v2 else (bif Nat.beq k_ 3 then .int v3 else (bif Nat.beq k_ 4 then .int v4_ else (bif Nat.beq k_ 5 then .int v5 else (bif Nat.beq k_ 7 then .int v7 else (bif Nat.beq k_ 8 then .int v8 else (bif Nat.beq k_ 9 then .int v9 else (bif Nat.beq k_ 10 then .int v10 else (bif Nat.beq k_ 11 then .int v11 else (bif Nat.beq k_ 12 then .int v12 else (bif Nat.beq k_ 13 then .int v13 else (bif Nat.beq k_ 14 then .int v14 else (bif Nat.beq k_ 15 then .int v15 else (bif Nat.beq k_ 16 then .int v16 else (bif Nat.beq k_ 400 then .int v400 else (.int 0))))))))))))))))
def mbaRCB_s (n_ : Nat) : Nat := 0
theorem mbaRCB {h_ : xH} {v1_ v2 v3 v4_ v5 v7 v8 v9 v10 v11 v12 v13 v14 v15 v16 v400 : Int32} (hs : sHp h_) (o0_ : bpat h_ 341 2 = some (.int v400)) : ∃ h', ysm h_ h' ∧ ((((2 : Int32).toInt ≤ v5.toInt) ∧ (¬ v5 = (2 : Int32)) ∧ (¬ v5 = (1 : Int32)) ∧ (¬ v5 = (0 : Int32)) ∧ (∀ a_ j_ : Nat, bpat h' a_ j_ = bpat h_ a_ j_) ∧ (∀ D_, 60 ≤ D_ → xrun D_ 216 248 [(13, .int v13), (11, .int v11), (12, .int v12), (15, .int v15), (14, .int v14), (10, .int v10), (9, .int v9), (7, .int v7), (8, .int v8), (16, .int v16), (6, .int (1 : Int32)), (0, .index 338), (1, .int v1_), (2, .int v2), (3, .int v3), (4, .int v4_), (5, .int v5)] [] h_ (some (.int v8), h', [])))
  ∨ ((¬ v8 = (Int32.ofInt (-1))) ∧ (v5.toInt < (2 : Int32).toInt) ∧ (¬ v5 = (2 : Int32)) ∧ (¬ v5 = (1 : Int32)) ∧ (¬ v5 = (0 : Int32)) ∧ (∀ a_ j_ : Nat, bpat h' a_ j_ = bpat h_ a_ j_) ∧ (∀ D_, 60 ≤ D_ → xrun D_ 216 248 [(13, .int v13), (11, .int v11), (12, .int v12), (15, .int v15), (14, .int v14), (10, .int v10), (9, .int v9), (7, .int v7), (8, .int v8), (16, .int v16), (6, .int (1 : Int32)), (0, .index 338), (1, .int v1_), (2, .int v2), (3, .int v3), (4, .int v4_), (5, .int v5)] [] h_ (some (.int v8), h', [])))
  ∨ ((v8 = (Int32.ofInt (-1))) ∧ (v5.toInt < (2 : Int32).toInt) ∧ (¬ v5 = (2 : Int32)) ∧ (¬ v5 = (1 : Int32)) ∧ (¬ v5 = (0 : Int32)) ∧ (bpat h' 341 2 = some (.int (v400 + (1 : Int32)))) ∧ (∀ a_ j_ : Nat, ¬ (a_ = 341 ∧ j_ = 2) → bpat h' a_ j_ = bpat h_ a_ j_) ∧ (∀ D_, 60 ≤ D_ → xrun D_ 216 248 [(13, .int v13), (11, .int v11), (12, .int v12), (15, .int v15), (14, .int v14), (10, .int v10), (9, .int v9), (7, .int v7), (8, .int v8), (16, .int v16), (6, .int (1 : Int32)), (0, .index 338), (1, .int v1_), (2, .int v2), (3, .int v3), (4, .int v4_), (5, .int v5)] [] h_ (some (.int (Int32.ofInt (-1000002))), h', [])))
  ∨ ((v5 = (2 : Int32)) ∧ (¬ v5 = (1 : Int32)) ∧ (¬ v5 = (0 : Int32)) ∧ (∀ a_ j_ : Nat, bpat h' a_ j_ = bpat h_ a_ j_) ∧ (∀ D_, 60 ≤ D_ → xrun D_ 216 248 [(13, .int v13), (11, .int v11), (12, .int v12), (15, .int v15), (14, .int v14), (10, .int v10), (9, .int v9), (7, .int v7), (8, .int v8), (16, .int v16), (6, .int (1 : Int32)), (0, .index 338), (1, .int v1_), (2, .int v2), (3, .int v3), (4, .int v4_), (5, .int v5)] [] h_ (some (.int v7), h', [])))
  ∨ ((¬ v12 = (Int32.ofInt (-1))) ∧ (v5 = (1 : Int32)) ∧ (¬ v5 = (0 : Int32)) ∧ (∀ a_ j_ : Nat, bpat h' a_ j_ = bpat h_ a_ j_) ∧ (∀ D_, 60 ≤ D_ → xrun D_ 216 248 [(13, .int v13), (11, .int v11), (12, .int v12), (15, .int v15), (14, .int v14), (10, .int v10), (9, .int v9), (7, .int v7), (8, .int v8), (16, .int v16), (6, .int (1 : Int32)), (0, .index 338), (1, .int v1_), (2, .int v2), (3, .int v3), (4, .int v4_), (5, .int v5)] [] h_ (some (.int v12), h', [])))
  ∨ ((v12 = (Int32.ofInt (-1))) ∧ (v5 = (1 : Int32)) ∧ (¬ v5 = (0 : Int32)) ∧ (bpat h' 341 2 = some (.int (v400 + (1 : Int32)))) ∧ (∀ a_ j_ : Nat, ¬ (a_ = 341 ∧ j_ = 2) → bpat h' a_ j_ = bpat h_ a_ j_) ∧ (∀ D_, 60 ≤ D_ → xrun D_ 216 248 [(13, .int v13), (11, .int v11), (12, .int v12), (15, .int v15), (14, .int v14), (10, .int v10), (9, .int v9), (7, .int v7), (8, .int v8), (16, .int v16), (6, .int (1 : Int32)), (0, .index 338), (1, .int v1_), (2, .int v2), (3, .int v3), (4, .int v4_), (5, .int v5)] [] h_ (some (.int (Int32.ofInt (-1000002))), h', [])))
  ∨ ((¬ v11 = (Int32.ofInt (-1))) ∧ (v5 = (0 : Int32)) ∧ (∀ a_ j_ : Nat, bpat h' a_ j_ = bpat h_ a_ j_) ∧ (∀ D_, 60 ≤ D_ → xrun D_ 216 248 [(13, .int v13), (11, .int v11), (12, .int v12), (15, .int v15), (14, .int v14), (10, .int v10), (9, .int v9), (7, .int v7), (8, .int v8), (16, .int v16), (6, .int (1 : Int32)), (0, .index 338), (1, .int v1_), (2, .int v2), (3, .int v3), (4, .int v4_), (5, .int v5)] [] h_ (some (.int v11), h', [])))
  ∨ ((v11 = (Int32.ofInt (-1))) ∧ (v5 = (0 : Int32)) ∧ (bpat h' 341 2 = some (.int (v400 + (1 : Int32)))) ∧ (∀ a_ j_ : Nat, ¬ (a_ = 341 ∧ j_ = 2) → bpat h' a_ j_ = bpat h_ a_ j_) ∧ (∀ D_, 60 ≤ D_ → xrun D_ 216 248 [(13, .int v13), (11, .int v11), (12, .int v12), (15, .int v15), (14, .int v14), (10, .int v10), (9, .int v9), (7, .int v7), (8, .int v8), (16, .int v16), (6, .int (1 : Int32)), (0, .index 338), (1, .int v1_), (2, .int v2), (3, .int v3), (4, .int v4_), (5, .int v5)] [] h_ (some (.int (Int32.ofInt (-1000002))), h', [])))) := by
  have hA : yas mbaRCB_A (mbaRCB_r v1_ v2 v3 v4_ v5 v7 v8 v9 v10 v11 v12 v13 v14 v15 v16 v400) (yg mbaRCB_s) := ⟨fun q_ hq => absurd hq List.not_mem_nil, fun q_ hq => absurd hq List.not_mem_nil, fun q_ hq => absurd hq List.not_mem_nil, fun n_ hn => yg_lo hn, fun q_ hq => absurd hq List.not_mem_nil⟩
  have Hs : ysh mbaRCB_A.1 (yg mbaRCB_s) h_ := ysh_of2 hs (fun q_ hq => absurd hq List.not_mem_nil)
  have Ho : ymem (mbaRCB_r v1_ v2 v3 v4_ v5 v7 v8 v9 v10 v11 v12 v13 v14 v15 v16 v400) (yg mbaRCB_s) mbaRCB_O h_ := List.forall_mem_cons.mpr ⟨bpat_some (fxr_at hs.2 (show fxk fxl 338 3 = some 341 by decide +kernel)), List.forall_mem_cons.mpr ⟨bpat_some o0_, fun q_ hq => absurd hq List.not_mem_nil⟩⟩
  have HC : ∀ q_ ∈ mbaRCB_C, xhold (mbaRCB_r v1_ v2 v3 v4_ v5 v7 v8 v9 v10 v11 v12 v13 v14 v15 v16 v400) q_ := fun q_ hq => absurd hq List.not_mem_nil
  rcases yrun (yis_ok mbaRCB_k) hA Hs Ho HC with ⟨q_, hq, h', K_, G_⟩ | ⟨q_, hq, h', K_, G_⟩
  · cases hq
  · rcases List.mem_cons.mp hq with e_ | hq
    · subst e_
      exact ⟨h', yfr_sm K_.2.2.2 hs K_.1 (ywa_r mbaRCB_w List.mem_cons_self), Or.inl (⟨xq_ltF rfl rfl (K_.2.2.1 _ List.mem_cons_self), xq_eqF rfl rfl (K_.2.2.1 _ (List.mem_cons_of_mem _ List.mem_cons_self)), xq_eqF rfl rfl (K_.2.2.1 _ (List.mem_cons_of_mem _ (List.mem_cons_of_mem _ List.mem_cons_self))), xq_eqF rfl rfl (K_.2.2.1 _ (List.mem_cons_of_mem _ (List.mem_cons_of_mem _ (List.mem_cons_of_mem _ List.mem_cons_self)))), fun a_ j_ => yfr_bp K_.2.2.2 (fun q_ hq => absurd hq List.not_mem_nil), G_⟩)⟩
    rcases List.mem_cons.mp hq with e_ | hq
    · subst e_
      exact ⟨h', yfr_sm K_.2.2.2 hs K_.1 (ywa_r mbaRCB_w (List.mem_cons_of_mem _ List.mem_cons_self)), Or.inr (Or.inl (⟨xq_eqF rfl rfl (K_.2.2.1 _ List.mem_cons_self), xq_ltT rfl rfl (K_.2.2.1 _ (List.mem_cons_of_mem _ List.mem_cons_self)), xq_eqF rfl rfl (K_.2.2.1 _ (List.mem_cons_of_mem _ (List.mem_cons_of_mem _ List.mem_cons_self))), xq_eqF rfl rfl (K_.2.2.1 _ (List.mem_cons_of_mem _ (List.mem_cons_of_mem _ (List.mem_cons_of_mem _ List.mem_cons_self)))), xq_eqF rfl rfl (K_.2.2.1 _ (List.mem_cons_of_mem _ (List.mem_cons_of_mem _ (List.mem_cons_of_mem _ (List.mem_cons_of_mem _ List.mem_cons_self))))), fun a_ j_ => yfr_bp K_.2.2.2 (fun q_ hq => absurd hq List.not_mem_nil), G_⟩))⟩
    rcases List.mem_cons.mp hq with e_ | hq
    · subst e_
      exact ⟨h', yfr_sm K_.2.2.2 hs K_.1 (ywa_r mbaRCB_w (List.mem_cons_of_mem _ (List.mem_cons_of_mem _ List.mem_cons_self))), Or.inr (Or.inr (Or.inl (⟨xq_eqT rfl rfl (K_.2.2.1 _ List.mem_cons_self), xq_ltT rfl rfl (K_.2.2.1 _ (List.mem_cons_of_mem _ List.mem_cons_self)), xq_eqF rfl rfl (K_.2.2.1 _ (List.mem_cons_of_mem _ (List.mem_cons_of_mem _ List.mem_cons_self))), xq_eqF rfl rfl (K_.2.2.1 _ (List.mem_cons_of_mem _ (List.mem_cons_of_mem _ (List.mem_cons_of_mem _ List.mem_cons_self)))), xq_eqF rfl rfl (K_.2.2.1 _ (List.mem_cons_of_mem _ (List.mem_cons_of_mem _ (List.mem_cons_of_mem _ (List.mem_cons_of_mem _ List.mem_cons_self))))), bpat_of (K_.2.1 _ List.mem_cons_self), fun a_ j_ n0_ => yfr_bp K_.2.2.2 (List.forall_mem_cons.mpr ⟨fun e_ => n0_ ⟨e_.1.symm, e_.2.symm⟩, fun q_ hq => absurd hq List.not_mem_nil⟩), G_⟩)))⟩
    rcases List.mem_cons.mp hq with e_ | hq
    · subst e_
      exact ⟨h', yfr_sm K_.2.2.2 hs K_.1 (ywa_r mbaRCB_w (List.mem_cons_of_mem _ (List.mem_cons_of_mem _ (List.mem_cons_of_mem _ List.mem_cons_self)))), Or.inr (Or.inr (Or.inr (Or.inl (⟨xq_eqT rfl rfl (K_.2.2.1 _ List.mem_cons_self), xq_eqF rfl rfl (K_.2.2.1 _ (List.mem_cons_of_mem _ List.mem_cons_self)), xq_eqF rfl rfl (K_.2.2.1 _ (List.mem_cons_of_mem _ (List.mem_cons_of_mem _ List.mem_cons_self))), fun a_ j_ => yfr_bp K_.2.2.2 (fun q_ hq => absurd hq List.not_mem_nil), G_⟩))))⟩
    rcases List.mem_cons.mp hq with e_ | hq
    · subst e_
      exact ⟨h', yfr_sm K_.2.2.2 hs K_.1 (ywa_r mbaRCB_w (List.mem_cons_of_mem _ (List.mem_cons_of_mem _ (List.mem_cons_of_mem _ (List.mem_cons_of_mem _ List.mem_cons_self))))), Or.inr (Or.inr (Or.inr (Or.inr (Or.inl (⟨xq_eqF rfl rfl (K_.2.2.1 _ List.mem_cons_self), xq_eqT rfl rfl (K_.2.2.1 _ (List.mem_cons_of_mem _ List.mem_cons_self)), xq_eqF rfl rfl (K_.2.2.1 _ (List.mem_cons_of_mem _ (List.mem_cons_of_mem _ List.mem_cons_self))), fun a_ j_ => yfr_bp K_.2.2.2 (fun q_ hq => absurd hq List.not_mem_nil), G_⟩)))))⟩
    rcases List.mem_cons.mp hq with e_ | hq
    · subst e_
      exact ⟨h', yfr_sm K_.2.2.2 hs K_.1 (ywa_r mbaRCB_w (List.mem_cons_of_mem _ (List.mem_cons_of_mem _ (List.mem_cons_of_mem _ (List.mem_cons_of_mem _ (List.mem_cons_of_mem _ List.mem_cons_self)))))), Or.inr (Or.inr (Or.inr (Or.inr (Or.inr (Or.inl (⟨xq_eqT rfl rfl (K_.2.2.1 _ List.mem_cons_self), xq_eqT rfl rfl (K_.2.2.1 _ (List.mem_cons_of_mem _ List.mem_cons_self)), xq_eqF rfl rfl (K_.2.2.1 _ (List.mem_cons_of_mem _ (List.mem_cons_of_mem _ List.mem_cons_self))), bpat_of (K_.2.1 _ List.mem_cons_self), fun a_ j_ n0_ => yfr_bp K_.2.2.2 (List.forall_mem_cons.mpr ⟨fun e_ => n0_ ⟨e_.1.symm, e_.2.symm⟩, fun q_ hq => absurd hq List.not_mem_nil⟩), G_⟩))))))⟩
    rcases List.mem_cons.mp hq with e_ | hq
    · subst e_
      exact ⟨h', yfr_sm K_.2.2.2 hs K_.1 (ywa_r mbaRCB_w (List.mem_cons_of_mem _ (List.mem_cons_of_mem _ (List.mem_cons_of_mem _ (List.mem_cons_of_mem _ (List.mem_cons_of_mem _ (List.mem_cons_of_mem _ List.mem_cons_self))))))), Or.inr (Or.inr (Or.inr (Or.inr (Or.inr (Or.inr (Or.inl (⟨xq_eqF rfl rfl (K_.2.2.1 _ List.mem_cons_self), xq_eqT rfl rfl (K_.2.2.1 _ (List.mem_cons_of_mem _ List.mem_cons_self)), fun a_ j_ => yfr_bp K_.2.2.2 (fun q_ hq => absurd hq List.not_mem_nil), G_⟩)))))))⟩
    have e_ := List.mem_singleton.mp hq
    subst e_
    exact ⟨h', yfr_sm K_.2.2.2 hs K_.1 (ywa_r mbaRCB_w (List.mem_cons_of_mem _ (List.mem_cons_of_mem _ (List.mem_cons_of_mem _ (List.mem_cons_of_mem _ (List.mem_cons_of_mem _ (List.mem_cons_of_mem _ (List.mem_cons_of_mem _ List.mem_cons_self)))))))), Or.inr (Or.inr (Or.inr (Or.inr (Or.inr (Or.inr (Or.inr (⟨xq_eqT rfl rfl (K_.2.2.1 _ List.mem_cons_self), xq_eqT rfl rfl (K_.2.2.1 _ (List.mem_cons_of_mem _ List.mem_cons_self)), bpat_of (K_.2.1 _ List.mem_cons_self), fun a_ j_ n0_ => yfr_bp K_.2.2.2 (List.forall_mem_cons.mpr ⟨fun e_ => n0_ ⟨e_.1.symm, e_.2.symm⟩, fun q_ hq => absurd hq List.not_mem_nil⟩), G_⟩)))))))⟩
-- mhoE: 16 steps, 1 ends, 0 returns
def mhoE_L : List (Nat × Nat × Nat) := []
def mhoE_O : yO := [(338, .int 4, .index 342)]
def mhoE_A : yA := (yZ mhoE_L, [], [], [], [])
def mhoE_C : List xB := []
def mhoE_ss : List yS := [(23, [(0, .index 338), (1, .arg 1), (2, .arg 2), (3, .arg 3)], [.index 342, .arg 2, .index 338], [(342, .int 1, .add (.int 80) (.arg 1)), (342, .int 0, .int 1), (338, .int 4, .index 342)], [], [(342, .int 1), (342, .int 0)])]
def mhoE_rs : List yR := []
theorem mhoE_w : ywa mhoE_A mhoE_ss mhoE_rs = true := by decide +kernel
theorem mhoE_k : yis (yev mhoE_A 3000 60 215 [23] (0, [(0, .index 338), (1, .arg 1), (2, .arg 2), (3, .arg 3)], [], mhoE_O, mhoE_C, [])) mhoE_ss mhoE_rs = true := by decide +kernel
def mhoE_r (v1_ v2 v3 : Int32) (k_ : Nat) : Value := bif Nat.beq k_ 1 then .int v1_ else (bif Nat.beq k_ 2 then .int v2 else (bif Nat.beq k_ 3 then .int v3 else (.int 0)))
def mhoE_s (n_ : Nat) : Nat := 0
theorem mhoE {h_ : xH} {v1_ v2 v3 : Int32} (hs : sHp h_) : ∃ h', ysm h_ h' ∧ (((bpat h' 342 1 = some (.int ((80 : Int32) + v1_))) ∧ (bpat h' 342 0 = some (.int (1 : Int32))) ∧ (∀ a_ j_ : Nat, ¬ (a_ = 342 ∧ j_ = 1) → ¬ (a_ = 342 ∧ j_ = 0) → bpat h' a_ j_ = bpat h_ a_ j_) ∧ (bldD 60 215 0 [(0, .index 338), (1, .int v1_), (2, .int v2), (3, .int v3)] [] h_ 23 [(0, .index 338), (1, .int v1_), (2, .int v2), (3, .int v3)] [.index 342, .int v2, .index 338] h'))) := by
  have hA : yas mhoE_A (mhoE_r v1_ v2 v3) (yg mhoE_s) := ⟨fun q_ hq => absurd hq List.not_mem_nil, fun q_ hq => absurd hq List.not_mem_nil, fun q_ hq => absurd hq List.not_mem_nil, fun n_ hn => yg_lo hn, fun q_ hq => absurd hq List.not_mem_nil⟩
  have Hs : ysh mhoE_A.1 (yg mhoE_s) h_ := ysh_of2 hs (fun q_ hq => absurd hq List.not_mem_nil)
  have Ho : ymem (mhoE_r v1_ v2 v3) (yg mhoE_s) mhoE_O h_ := List.forall_mem_cons.mpr ⟨bpat_some (fxr_at hs.2 (show fxk fxl 338 4 = some 342 by decide +kernel)), fun q_ hq => absurd hq List.not_mem_nil⟩
  have HC : ∀ q_ ∈ mhoE_C, xhold (mhoE_r v1_ v2 v3) q_ := fun q_ hq => absurd hq List.not_mem_nil
  rcases yrun (yis_ok mhoE_k) hA Hs Ho HC with ⟨q_, hq, h', K_, G_⟩ | ⟨q_, hq, h', K_, G_⟩
  · have e_ := List.mem_singleton.mp hq
    subst e_
    exact ⟨h', yfr_sm K_.2.2.2 hs K_.1 (ywa_s mhoE_w List.mem_cons_self), ⟨bpat_of (K_.2.1 _ List.mem_cons_self), bpat_of (K_.2.1 _ (List.mem_cons_of_mem _ List.mem_cons_self)), fun a_ j_ n0_ n1_ => yfr_bp K_.2.2.2 (List.forall_mem_cons.mpr ⟨fun e_ => n0_ ⟨e_.1.symm, e_.2.symm⟩, List.forall_mem_cons.mpr ⟨fun e_ => n1_ ⟨e_.1.symm, e_.2.symm⟩, fun q_ hq => absurd hq List.not_mem_nil⟩⟩), G_⟩⟩
  · cases hq
-- mhoA: 8 steps, 0 ends, 1 returns
def mhoA_L : List (Nat × Nat × Nat) := []
def mhoA_O : yO := [(338, .int 4, .index 342), (342, .int 0, .arg 300)]
def mhoA_A : yA := (yZ mhoA_L, [], [], [], [])
def mhoA_C : List xB := [(.eq, .arg 300, .int 1, false)]
def mhoA_ss : List yS := []
def mhoA_rs : List yR := [(some (.arg 3), [(338, .int 4, .index 342), (342, .int 0, .arg 300)], [(.eq, .arg 300, .int 1, false)], [])]
theorem mhoA_w : ywa mhoA_A mhoA_ss mhoA_rs = true := by decide +kernel
theorem mhoA_k : yis (yev mhoA_A 3000 60 215 [] (26, [(0, .index 338), (1, .arg 1), (2, .arg 2), (3, .arg 3)], [], mhoA_O, mhoA_C, [])) mhoA_ss mhoA_rs = true := by decide +kernel
def mhoA_r (v1_ v2 v3 v300 : Int32) (k_ : Nat) : Value := bif Nat.beq k_ 1 then .int v1_ else (bif Nat.beq k_ 2 then .int v2 else (bif Nat.beq k_ 3 then .int v3 else (bif Nat.beq k_ 300 then .int v300 else (.int 0))))
def mhoA_s (n_ : Nat) : Nat := 0
theorem mhoA {h_ : xH} {v1_ v2 v3 v300 : Int32} (hs : sHp h_) (o0_ : bpat h_ 342 0 = some (.int v300)) (c0_ : ¬ v300 = (1 : Int32)) : ∃ h', ysm h_ h' ∧ (((∀ a_ j_ : Nat, bpat h' a_ j_ = bpat h_ a_ j_) ∧ (∀ D_, 60 ≤ D_ → xrun D_ 215 26 [(0, .index 338), (1, .int v1_), (2, .int v2), (3, .int v3)] [] h_ (some (.int v3), h', [])))) := by
  have hA : yas mhoA_A (mhoA_r v1_ v2 v3 v300) (yg mhoA_s) := ⟨fun q_ hq => absurd hq List.not_mem_nil, fun q_ hq => absurd hq List.not_mem_nil, fun q_ hq => absurd hq List.not_mem_nil, fun n_ hn => yg_lo hn, fun q_ hq => absurd hq List.not_mem_nil⟩
  have Hs : ysh mhoA_A.1 (yg mhoA_s) h_ := ysh_of2 hs (fun q_ hq => absurd hq List.not_mem_nil)
  have Ho : ymem (mhoA_r v1_ v2 v3 v300) (yg mhoA_s) mhoA_O h_ := List.forall_mem_cons.mpr ⟨bpat_some (fxr_at hs.2 (show fxk fxl 338 4 = some 342 by decide +kernel)), List.forall_mem_cons.mpr ⟨bpat_some o0_, fun q_ hq => absurd hq List.not_mem_nil⟩⟩
  have HC : ∀ q_ ∈ mhoA_C, xhold (mhoA_r v1_ v2 v3 v300) q_ := List.forall_mem_cons.mpr ⟨xh_eqF2 c0_, fun q_ hq => absurd hq List.not_mem_nil⟩
  rcases yrun (yis_ok mhoA_k) hA Hs Ho HC with ⟨q_, hq, h', K_, G_⟩ | ⟨q_, hq, h', K_, G_⟩
  · cases hq
  · have e_ := List.mem_singleton.mp hq
    subst e_
    exact ⟨h', yfr_sm K_.2.2.2 hs K_.1 (ywa_r mhoA_w List.mem_cons_self), ⟨fun a_ j_ => yfr_bp K_.2.2.2 (fun q_ hq => absurd hq List.not_mem_nil), G_⟩⟩
-- mhoB: 14 steps, 0 ends, 1 returns
def mhoB_L : List (Nat × Nat × Nat) := []
def mhoB_O : yO := [(338, .int 4, .index 342), (342, .int 0, .arg 300), (342, .int 1, .arg 301)]
def mhoB_A : yA := (yZ mhoB_L, [], [], [], [])
def mhoB_C : List xB := [(.lt, .arg 301, .int 60, true), (.eq, .arg 300, .int 1, true)]
def mhoB_ss : List yS := []
def mhoB_rs : List yR := [(some (.arg 3), [(338, .int 4, .index 342), (342, .int 0, .arg 300), (342, .int 1, .arg 301)], [(.lt, .arg 301, .int 60, true), (.eq, .arg 300, .int 1, true)], [])]
theorem mhoB_w : ywa mhoB_A mhoB_ss mhoB_rs = true := by decide +kernel
theorem mhoB_k : yis (yev mhoB_A 3000 60 215 [] (26, [(0, .index 338), (1, .arg 1), (2, .arg 2), (3, .arg 3)], [], mhoB_O, mhoB_C, [])) mhoB_ss mhoB_rs = true := by decide +kernel
def mhoB_r (v1_ v2 v3 v300 v301 : Int32) (k_ : Nat) : Value := bif Nat.beq k_ 1 then .int v1_ else (bif Nat.beq k_ 2 then .int v2 else (bif Nat.beq k_ 3 then .int v3 else (bif Nat.beq k_ 300 then .int v300 else (bif Nat.beq k_ 301 then .int v301 else (.int 0)))))
def mhoB_s (n_ : Nat) : Nat := 0
theorem mhoB {h_ : xH} {v1_ v2 v3 v300 v301 : Int32} (hs : sHp h_) (o0_ : bpat h_ 342 0 = some (.int v300)) (o1 : bpat h_ 342 1 = some (.int v301)) (c0_ : v301.toInt < (60 : Int32).toInt) (c1_ : v300 = (1 : Int32)) : ∃ h', ysm h_ h' ∧ (((∀ a_ j_ : Nat, bpat h' a_ j_ = bpat h_ a_ j_) ∧ (∀ D_, 60 ≤ D_ → xrun D_ 215 26 [(0, .index 338), (1, .int v1_), (2, .int v2), (3, .int v3)] [] h_ (some (.int v3), h', [])))) := by
  have hA : yas mhoB_A (mhoB_r v1_ v2 v3 v300 v301) (yg mhoB_s) := ⟨fun q_ hq => absurd hq List.not_mem_nil, fun q_ hq => absurd hq List.not_mem_nil, fun q_ hq => absurd hq List.not_mem_nil, fun n_ hn => yg_lo hn, fun q_ hq => absurd hq List.not_mem_nil⟩
  have Hs : ysh mhoB_A.1 (yg mhoB_s) h_ := ysh_of2 hs (fun q_ hq => absurd hq List.not_mem_nil)
  have Ho : ymem (mhoB_r v1_ v2 v3 v300 v301) (yg mhoB_s) mhoB_O h_ := List.forall_mem_cons.mpr ⟨bpat_some (fxr_at hs.2 (show fxk fxl 338 4 = some 342 by decide +kernel)), List.forall_mem_cons.mpr ⟨bpat_some o0_, List.forall_mem_cons.mpr ⟨bpat_some o1, fun q_ hq => absurd hq List.not_mem_nil⟩⟩⟩
  have HC : ∀ q_ ∈ mhoB_C, xhold (mhoB_r v1_ v2 v3 v300 v301) q_ := List.forall_mem_cons.mpr ⟨xh_ltT c0_, List.forall_mem_cons.mpr ⟨xh_eqT2 c1_, fun q_ hq => absurd hq List.not_mem_nil⟩⟩
  rcases yrun (yis_ok mhoB_k) hA Hs Ho HC with ⟨q_, hq, h', K_, G_⟩ | ⟨q_, hq, h', K_, G_⟩
  · cases hq
  · have e_ := List.mem_singleton.mp hq
    subst e_
    exact ⟨h', yfr_sm K_.2.2.2 hs K_.1 (ywa_r mhoB_w List.mem_cons_self), ⟨fun a_ j_ => yfr_bp K_.2.2.2 (fun q_ hq => absurd hq List.not_mem_nil), G_⟩⟩
-- mhoC: 20 steps, 0 ends, 1 returns
def mhoC_L : List (Nat × Nat × Nat) := []
def mhoC_O : yO := [(338, .int 4, .index 342), (342, .int 0, .arg 300), (342, .int 1, .arg 301)]
def mhoC_A : yA := (yZ mhoC_L, [], [], [], [])
def mhoC_C : List xB := [(.lt, .arg 301, .int 60, false), (.eq, .arg 300, .int 1, true)]
def mhoC_ss : List yS := []
def mhoC_rs : List yR := [(some (.sub (.arg 301) (.int 80)), [(338, .int 4, .index 342), (342, .int 0, .arg 300), (342, .int 1, .arg 301)], [(.lt, .arg 301, .int 60, false), (.eq, .arg 300, .int 1, true)], [])]
theorem mhoC_w : ywa mhoC_A mhoC_ss mhoC_rs = true := by decide +kernel
theorem mhoC_k : yis (yev mhoC_A 3000 60 215 [] (26, [(0, .index 338), (1, .arg 1), (2, .arg 2), (3, .arg 3)], [], mhoC_O, mhoC_C, [])) mhoC_ss mhoC_rs = true := by decide +kernel
def mhoC_r (v1_ v2 v3 v300 v301 : Int32) (k_ : Nat) : Value := bif Nat.beq k_ 1 then .int v1_ else (bif Nat.beq k_ 2 then .int v2 else (bif Nat.beq k_ 3 then .int v3 else (bif Nat.beq k_ 300 then .int v300 else (bif Nat.beq k_ 301 then .int v301 else (.int 0)))))
def mhoC_s (n_ : Nat) : Nat := 0
theorem mhoC {h_ : xH} {v1_ v2 v3 v300 v301 : Int32} (hs : sHp h_) (o0_ : bpat h_ 342 0 = some (.int v300)) (o1 : bpat h_ 342 1 = some (.int v301)) (c0_ : (60 : Int32).toInt ≤ v301.toInt) (c1_ : v300 = (1 : Int32)) : ∃ h', ysm h_ h' ∧ (((∀ a_ j_ : Nat, bpat h' a_ j_ = bpat h_ a_ j_) ∧ (∀ D_, 60 ≤ D_ → xrun D_ 215 26 [(0, .index 338), (1, .int v1_), (2, .int v2), (3, .int v3)] [] h_ (some (.int (v301 - (80 : Int32))), h', [])))) := by
  have hA : yas mhoC_A (mhoC_r v1_ v2 v3 v300 v301) (yg mhoC_s) := ⟨fun q_ hq => absurd hq List.not_mem_nil, fun q_ hq => absurd hq List.not_mem_nil, fun q_ hq => absurd hq List.not_mem_nil, fun n_ hn => yg_lo hn, fun q_ hq => absurd hq List.not_mem_nil⟩
  have Hs : ysh mhoC_A.1 (yg mhoC_s) h_ := ysh_of2 hs (fun q_ hq => absurd hq List.not_mem_nil)
  have Ho : ymem (mhoC_r v1_ v2 v3 v300 v301) (yg mhoC_s) mhoC_O h_ := List.forall_mem_cons.mpr ⟨bpat_some (fxr_at hs.2 (show fxk fxl 338 4 = some 342 by decide +kernel)), List.forall_mem_cons.mpr ⟨bpat_some o0_, List.forall_mem_cons.mpr ⟨bpat_some o1, fun q_ hq => absurd hq List.not_mem_nil⟩⟩⟩
  have HC : ∀ q_ ∈ mhoC_C, xhold (mhoC_r v1_ v2 v3 v300 v301) q_ := List.forall_mem_cons.mpr ⟨xh_ltF c0_, List.forall_mem_cons.mpr ⟨xh_eqT2 c1_, fun q_ hq => absurd hq List.not_mem_nil⟩⟩
  rcases yrun (yis_ok mhoC_k) hA Hs Ho HC with ⟨q_, hq, h', K_, G_⟩ | ⟨q_, hq, h', K_, G_⟩
  · cases hq
  · have e_ := List.mem_singleton.mp hq
    subst e_
    exact ⟨h', yfr_sm K_.2.2.2 hs K_.1 (ywa_r mhoC_w List.mem_cons_self), ⟨fun a_ j_ => yfr_bp K_.2.2.2 (fun q_ hq => absurd hq List.not_mem_nil), G_⟩⟩
-- mofE: 38 steps, 1 ends, 0 returns
def mofE_L : List (Nat × Nat × Nat) := []
def mofE_O : yO := [(338, .int 0, .index 339), (339, .int 559, .arg 300), (338, .int 12, .index 346)]
def mofE_A : yA := (yZ mofE_L, [], [], [], [])
def mofE_C : List xB := [(.le, .arg 300, .int 0, false)]
def mofE_ss : List yS := [(58, [(0, .index 338), (1, .arg 1), (2, .arg 2), (3, .arg 3), (4, .arg 4)], [.int 1, .index 338], [(346, .int 116, .arg 4), (346, .int 98, .arg 3), (346, .int 104, .arg 2), (346, .int 111, .arg 1), (338, .int 0, .index 339), (339, .int 559, .arg 300), (338, .int 12, .index 346)], [(.le, .arg 300, .int 0, false)], [(346, .int 116), (346, .int 98), (346, .int 104), (346, .int 111)])]
def mofE_rs : List yR := []
theorem mofE_w : ywa mofE_A mofE_ss mofE_rs = true := by decide +kernel
theorem mofE_k : yis (yev mofE_A 3000 60 214 [58] (0, [(0, .index 338), (1, .arg 1), (2, .arg 2), (3, .arg 3), (4, .arg 4)], [], mofE_O, mofE_C, [])) mofE_ss mofE_rs = true := by decide +kernel
def mofE_r (v1_ v2 v3 v4_ v300 : Int32) (k_ : Nat) : Value := bif Nat.beq k_ 1 then .int v1_ else (bif Nat.beq k_ 2 then .int v2 else (bif Nat.beq k_ 3 then .int v3 else (bif Nat.beq k_ 4 then .int v4_ else (bif Nat.beq k_ 300 then .int v300 else (.int 0)))))
def mofE_s (n_ : Nat) : Nat := 0
theorem mofE {h_ : xH} {v1_ v2 v3 v4_ v300 : Int32} (hs : sHp h_) (o0_ : bpat h_ 339 559 = some (.int v300)) (c0_ : (0 : Int32).toInt < v300.toInt) : ∃ h', ysm h_ h' ∧ (((bpat h' 346 116 = some (.int v4_)) ∧ (bpat h' 346 98 = some (.int v3)) ∧ (bpat h' 346 104 = some (.int v2)) ∧ (bpat h' 346 111 = some (.int v1_)) ∧ (∀ a_ j_ : Nat, ¬ (a_ = 346 ∧ j_ = 116) → ¬ (a_ = 346 ∧ j_ = 98) → ¬ (a_ = 346 ∧ j_ = 104) → ¬ (a_ = 346 ∧ j_ = 111) → bpat h' a_ j_ = bpat h_ a_ j_) ∧ (bldD 60 214 0 [(0, .index 338), (1, .int v1_), (2, .int v2), (3, .int v3), (4, .int v4_)] [] h_ 58 [(0, .index 338), (1, .int v1_), (2, .int v2), (3, .int v3), (4, .int v4_)] [.int (1 : Int32), .index 338] h'))) := by
  have hA : yas mofE_A (mofE_r v1_ v2 v3 v4_ v300) (yg mofE_s) := ⟨fun q_ hq => absurd hq List.not_mem_nil, fun q_ hq => absurd hq List.not_mem_nil, fun q_ hq => absurd hq List.not_mem_nil, fun n_ hn => yg_lo hn, fun q_ hq => absurd hq List.not_mem_nil⟩
  have Hs : ysh mofE_A.1 (yg mofE_s) h_ := ysh_of2 hs (fun q_ hq => absurd hq List.not_mem_nil)
  have Ho : ymem (mofE_r v1_ v2 v3 v4_ v300) (yg mofE_s) mofE_O h_ := List.forall_mem_cons.mpr ⟨bpat_some (fxr_at hs.2 (show fxk fxl 338 0 = some 339 by decide +kernel)), List.forall_mem_cons.mpr ⟨bpat_some o0_, List.forall_mem_cons.mpr ⟨bpat_some (fxr_at hs.2 (show fxk fxl 338 12 = some 346 by decide +kernel)), fun q_ hq => absurd hq List.not_mem_nil⟩⟩⟩
  have HC : ∀ q_ ∈ mofE_C, xhold (mofE_r v1_ v2 v3 v4_ v300) q_ := List.forall_mem_cons.mpr ⟨xh_leF c0_, fun q_ hq => absurd hq List.not_mem_nil⟩
  rcases yrun (yis_ok mofE_k) hA Hs Ho HC with ⟨q_, hq, h', K_, G_⟩ | ⟨q_, hq, h', K_, G_⟩
  · have e_ := List.mem_singleton.mp hq
    subst e_
    exact ⟨h', yfr_sm K_.2.2.2 hs K_.1 (ywa_s mofE_w List.mem_cons_self), ⟨bpat_of (K_.2.1 _ List.mem_cons_self), bpat_of (K_.2.1 _ (List.mem_cons_of_mem _ List.mem_cons_self)), bpat_of (K_.2.1 _ (List.mem_cons_of_mem _ (List.mem_cons_of_mem _ List.mem_cons_self))), bpat_of (K_.2.1 _ (List.mem_cons_of_mem _ (List.mem_cons_of_mem _ (List.mem_cons_of_mem _ List.mem_cons_self)))), fun a_ j_ n0_ n1_ n2_ n3_ => yfr_bp K_.2.2.2 (List.forall_mem_cons.mpr ⟨fun e_ => n0_ ⟨e_.1.symm, e_.2.symm⟩, List.forall_mem_cons.mpr ⟨fun e_ => n1_ ⟨e_.1.symm, e_.2.symm⟩, List.forall_mem_cons.mpr ⟨fun e_ => n2_ ⟨e_.1.symm, e_.2.symm⟩, List.forall_mem_cons.mpr ⟨fun e_ => n3_ ⟨e_.1.symm, e_.2.symm⟩, fun q_ hq => absurd hq List.not_mem_nil⟩⟩⟩⟩), G_⟩⟩
  · cases hq
-- mofN: 42 steps, 0 ends, 3 returns
def mofN_L : List (Nat × Nat × Nat) := []
def mofN_O : yO := [(338, .int 0, .index 339), (339, .int 559, .arg 300)]
def mofN_A : yA := (yZ mofN_L, [], [], [], [])
def mofN_C : List xB := [(.le, .arg 300, .int 0, true)]
def mofN_ss : List yS := []
def mofN_rs : List yR := [(some (.sub (.add (.arg 1) (.mul (.arg 3) (.int 2))) (.int 1)), [(338, .int 0, .index 339), (339, .int 559, .arg 300)], [(.le, .sub (.add (.arg 1) (.mul (.arg 3) (.int 2))) (.int 1), .int 19, true), (.lt, .sub (.add (.arg 1) (.mul (.arg 3) (.int 2))) (.int 1), .int (Int32.ofInt (-20)), false), (.le, .arg 300, .int 0, true)], []),
  (some (.int 19), [(338, .int 0, .index 339), (339, .int 559, .arg 300)], [(.le, .sub (.add (.arg 1) (.mul (.arg 3) (.int 2))) (.int 1), .int 19, false), (.lt, .sub (.add (.arg 1) (.mul (.arg 3) (.int 2))) (.int 1), .int (Int32.ofInt (-20)), false), (.le, .arg 300, .int 0, true)], []),
  (some (.int (Int32.ofInt (-20))), [(338, .int 0, .index 339), (339, .int 559, .arg 300)], [(.lt, .sub (.add (.arg 1) (.mul (.arg 3) (.int 2))) (.int 1), .int (Int32.ofInt (-20)), true), (.le, .arg 300, .int 0, true)], [])]
theorem mofN_w : ywa mofN_A mofN_ss mofN_rs = true := by decide +kernel
theorem mofN_k : yis (yev mofN_A 3000 60 214 [] (0, [(0, .index 338), (1, .arg 1), (2, .arg 2), (3, .arg 3), (4, .arg 4)], [], mofN_O, mofN_C, [])) mofN_ss mofN_rs = true := by decide +kernel
def mofN_r (v1_ v2 v3 v4_ v300 : Int32) (k_ : Nat) : Value := bif Nat.beq k_ 1 then .int v1_ else (bif Nat.beq k_ 2 then .int v2 else (bif Nat.beq k_ 3 then .int v3 else (bif Nat.beq k_ 4 then .int v4_ else (bif Nat.beq k_ 300 then .int v300 else (.int 0)))))
def mofN_s (n_ : Nat) : Nat := 0
theorem mofN {h_ : xH} {v1_ v2 v3 v4_ v300 : Int32} (hs : sHp h_) (o0_ : bpat h_ 339 559 = some (.int v300)) (c0_ : v300.toInt ≤ (0 : Int32).toInt) : ∃ h', ysm h_ h' ∧ (((((v1_ + (v3 * (2 : Int32))) - (1 : Int32)).toInt ≤ (19 : Int32).toInt) ∧ ((Int32.ofInt (-20)).toInt ≤ ((v1_ + (v3 * (2 : Int32))) - (1 : Int32)).toInt) ∧ (∀ a_ j_ : Nat, bpat h' a_ j_ = bpat h_ a_ j_) ∧ (∀ D_, 60 ≤ D_ → xrun D_ 214 0 [(0, .index 338), (1, .int v1_), (2, .int v2), (3, .int v3), (4, .int v4_)] [] h_ (some (.int ((v1_ + (v3 * (2 : Int32))) - (1 : Int32))), h', [])))
  ∨ (((19 : Int32).toInt < ((v1_ + (v3 * (2 : Int32))) - (1 : Int32)).toInt) ∧ ((Int32.ofInt (-20)).toInt ≤ ((v1_ + (v3 * (2 : Int32))) - (1 : Int32)).toInt) ∧ (∀ a_ j_ : Nat, bpat h' a_ j_ = bpat h_ a_ j_) ∧ (∀ D_, 60 ≤ D_ → xrun D_ 214 0 [(0, .index 338), (1, .int v1_), (2, .int v2), (3, .int v3), (4, .int v4_)] [] h_ (some (.int (19 : Int32)), h', [])))
  ∨ ((((v1_ + (v3 * (2 : Int32))) - (1 : Int32)).toInt < (Int32.ofInt (-20)).toInt) ∧ (∀ a_ j_ : Nat, bpat h' a_ j_ = bpat h_ a_ j_) ∧ (∀ D_, 60 ≤ D_ → xrun D_ 214 0 [(0, .index 338), (1, .int v1_), (2, .int v2), (3, .int v3), (4, .int v4_)] [] h_ (some (.int (Int32.ofInt (-20))), h', [])))) := by
  have hA : yas mofN_A (mofN_r v1_ v2 v3 v4_ v300) (yg mofN_s) := ⟨fun q_ hq => absurd hq List.not_mem_nil, fun q_ hq => absurd hq List.not_mem_nil, fun q_ hq => absurd hq List.not_mem_nil, fun n_ hn => yg_lo hn, fun q_ hq => absurd hq List.not_mem_nil⟩
  have Hs : ysh mofN_A.1 (yg mofN_s) h_ := ysh_of2 hs (fun q_ hq => absurd hq List.not_mem_nil)
  have Ho : ymem (mofN_r v1_ v2 v3 v4_ v300) (yg mofN_s) mofN_O h_ := List.forall_mem_cons.mpr ⟨bpat_some (fxr_at hs.2 (show fxk fxl 338 0 = some 339 by decide +kernel)), List.forall_mem_cons.mpr ⟨bpat_some o0_, fun q_ hq => absurd hq List.not_mem_nil⟩⟩
  have HC : ∀ q_ ∈ mofN_C, xhold (mofN_r v1_ v2 v3 v4_ v300) q_ := List.forall_mem_cons.mpr ⟨xh_leT c0_, fun q_ hq => absurd hq List.not_mem_nil⟩
  rcases yrun (yis_ok mofN_k) hA Hs Ho HC with ⟨q_, hq, h', K_, G_⟩ | ⟨q_, hq, h', K_, G_⟩
  · cases hq
  · rcases List.mem_cons.mp hq with e_ | hq
    · subst e_
      exact ⟨h', yfr_sm K_.2.2.2 hs K_.1 (ywa_r mofN_w List.mem_cons_self), Or.inl (⟨xq_leT (yv_sub2 (yv_add2 rfl (yv_mul2 rfl rfl)) rfl) rfl (K_.2.2.1 _ List.mem_cons_self), xq_ltF (yv_sub2 (yv_add2 rfl (yv_mul2 rfl rfl)) rfl) rfl (K_.2.2.1 _ (List.mem_cons_of_mem _ List.mem_cons_self)), fun a_ j_ => yfr_bp K_.2.2.2 (fun q_ hq => absurd hq List.not_mem_nil), G_⟩)⟩
    rcases List.mem_cons.mp hq with e_ | hq
    · subst e_
      exact ⟨h', yfr_sm K_.2.2.2 hs K_.1 (ywa_r mofN_w (List.mem_cons_of_mem _ List.mem_cons_self)), Or.inr (Or.inl (⟨xq_leF (yv_sub2 (yv_add2 rfl (yv_mul2 rfl rfl)) rfl) rfl (K_.2.2.1 _ List.mem_cons_self), xq_ltF (yv_sub2 (yv_add2 rfl (yv_mul2 rfl rfl)) rfl) rfl (K_.2.2.1 _ (List.mem_cons_of_mem _ List.mem_cons_self)), fun a_ j_ => yfr_bp K_.2.2.2 (fun q_ hq => absurd hq List.not_mem_nil), G_⟩))⟩
    have e_ := List.mem_singleton.mp hq
    subst e_
    exact ⟨h', yfr_sm K_.2.2.2 hs K_.1 (ywa_r mofN_w (List.mem_cons_of_mem _ (List.mem_cons_of_mem _ List.mem_cons_self))), Or.inr (Or.inr (⟨xq_ltT (yv_sub2 (yv_add2 rfl (yv_mul2 rfl rfl)) rfl) rfl (K_.2.2.1 _ List.mem_cons_self), fun a_ j_ => yfr_bp K_.2.2.2 (fun q_ hq => absurd hq List.not_mem_nil), G_⟩))⟩
-- mofR: 20 steps, 0 ends, 3 returns
def mofR_L : List (Nat × Nat × Nat) := []
def mofR_O : yO := []
def mofR_A : yA := (yZ mofR_L, [], [], [], [])
def mofR_C : List xB := []
def mofR_ss : List yS := []
def mofR_rs : List yR := [(some (.arg 7), [], [(.le, .arg 7, .int 19, true), (.lt, .arg 7, .int (Int32.ofInt (-20)), false)], []),
  (some (.int 19), [], [(.le, .arg 7, .int 19, false), (.lt, .arg 7, .int (Int32.ofInt (-20)), false)], []),
  (some (.int (Int32.ofInt (-20))), [], [(.lt, .arg 7, .int (Int32.ofInt (-20)), true)], [])]
theorem mofR_w : ywa mofR_A mofR_ss mofR_rs = true := by decide +kernel
theorem mofR_k : yis (yev mofR_A 3000 60 214 [] (61, [(0, .index 338), (1, .arg 1), (2, .arg 2), (3, .arg 3), (4, .arg 4)], [.arg 7], mofR_O, mofR_C, [])) mofR_ss mofR_rs = true := by decide +kernel
def mofR_r (v1_ v2 v3 v4_ v7 : Int32) (k_ : Nat) : Value := bif Nat.beq k_ 1 then .int v1_ else (bif Nat.beq k_ 2 then .int v2 else (bif Nat.beq k_ 3 then .int v3 else (bif Nat.beq k_ 4 then .int v4_ else (bif Nat.beq k_ 7 then .int v7 else (.int 0)))))
def mofR_s (n_ : Nat) : Nat := 0
theorem mofR {h_ : xH} {v1_ v2 v3 v4_ v7 : Int32} (hs : sHp h_) : ∃ h', ysm h_ h' ∧ (((v7.toInt ≤ (19 : Int32).toInt) ∧ ((Int32.ofInt (-20)).toInt ≤ v7.toInt) ∧ (∀ a_ j_ : Nat, bpat h' a_ j_ = bpat h_ a_ j_) ∧ (∀ D_, 60 ≤ D_ → xrun D_ 214 61 [(0, .index 338), (1, .int v1_), (2, .int v2), (3, .int v3), (4, .int v4_)] [.int v7] h_ (some (.int v7), h', [])))
  ∨ (((19 : Int32).toInt < v7.toInt) ∧ ((Int32.ofInt (-20)).toInt ≤ v7.toInt) ∧ (∀ a_ j_ : Nat, bpat h' a_ j_ = bpat h_ a_ j_) ∧ (∀ D_, 60 ≤ D_ → xrun D_ 214 61 [(0, .index 338), (1, .int v1_), (2, .int v2), (3, .int v3), (4, .int v4_)] [.int v7] h_ (some (.int (19 : Int32)), h', [])))
  ∨ ((v7.toInt < (Int32.ofInt (-20)).toInt) ∧ (∀ a_ j_ : Nat, bpat h' a_ j_ = bpat h_ a_ j_) ∧ (∀ D_, 60 ≤ D_ → xrun D_ 214 61 [(0, .index 338), (1, .int v1_), (2, .int v2), (3, .int v3), (4, .int v4_)] [.int v7] h_ (some (.int (Int32.ofInt (-20))), h', [])))) := by
  have hA : yas mofR_A (mofR_r v1_ v2 v3 v4_ v7) (yg mofR_s) := ⟨fun q_ hq => absurd hq List.not_mem_nil, fun q_ hq => absurd hq List.not_mem_nil, fun q_ hq => absurd hq List.not_mem_nil, fun n_ hn => yg_lo hn, fun q_ hq => absurd hq List.not_mem_nil⟩
  have Hs : ysh mofR_A.1 (yg mofR_s) h_ := ysh_of2 hs (fun q_ hq => absurd hq List.not_mem_nil)
  have Ho : ymem (mofR_r v1_ v2 v3 v4_ v7) (yg mofR_s) mofR_O h_ := fun q_ hq => absurd hq List.not_mem_nil
  have HC : ∀ q_ ∈ mofR_C, xhold (mofR_r v1_ v2 v3 v4_ v7) q_ := fun q_ hq => absurd hq List.not_mem_nil
  rcases yrun (yis_ok mofR_k) hA Hs Ho HC with ⟨q_, hq, h', K_, G_⟩ | ⟨q_, hq, h', K_, G_⟩
  · cases hq
  · rcases List.mem_cons.mp hq with e_ | hq
    · subst e_
      exact ⟨h', yfr_sm K_.2.2.2 hs K_.1 (ywa_r mofR_w List.mem_cons_self), Or.inl (⟨xq_leT rfl rfl (K_.2.2.1 _ List.mem_cons_self), xq_ltF rfl rfl (K_.2.2.1 _ (List.mem_cons_of_mem _ List.mem_cons_self)), fun a_ j_ => yfr_bp K_.2.2.2 (fun q_ hq => absurd hq List.not_mem_nil), G_⟩)⟩
    rcases List.mem_cons.mp hq with e_ | hq
    · subst e_
      exact ⟨h', yfr_sm K_.2.2.2 hs K_.1 (ywa_r mofR_w (List.mem_cons_of_mem _ List.mem_cons_self)), Or.inr (Or.inl (⟨xq_leF rfl rfl (K_.2.2.1 _ List.mem_cons_self), xq_ltF rfl rfl (K_.2.2.1 _ (List.mem_cons_of_mem _ List.mem_cons_self)), fun a_ j_ => yfr_bp K_.2.2.2 (fun q_ hq => absurd hq List.not_mem_nil), G_⟩))⟩
    have e_ := List.mem_singleton.mp hq
    subst e_
    exact ⟨h', yfr_sm K_.2.2.2 hs K_.1 (ywa_r mofR_w (List.mem_cons_of_mem _ (List.mem_cons_of_mem _ List.mem_cons_self))), Or.inr (Or.inr (⟨xq_ltT rfl rfl (K_.2.2.1 _ List.mem_cons_self), fun a_ j_ => yfr_bp K_.2.2.2 (fun q_ hq => absurd hq List.not_mem_nil), G_⟩))⟩
section
variable {W_ : Nat → List Int32} {V : Nat → Int32} {h_ : xH}
theorem mpf_len {f_ : Nat → Int32 → Int32} {i_ : Nat} {l : List Int32} : (mpf f_ i_ l).length = l.length := List.length_mapIdx
theorem rvf_len : ∀ {k_ i_ : Nat} {j_ : Int} {l : List Int32}, (rvf k_ i_ j_ l).length = l.length := by
  intro k_
  induction k_ with
  | zero => intro i_ j_ l; rfl
  | succ k_ ih_ =>
    intro i_ j_ l
    show (if (i_ : Int) < j_ then rvf k_ (i_ + 1) (j_ - 1) (swp i_ j_.toNat l) else l).length = l.length
    split
    · rw [ih_, swp_len]
    · rfl
theorem sdo_len {kd m_ : Nat} {xs l : List Int32} : (sdo kd m_ xs l).length ≤ l.length := by
  unfold sdo
  split
  · exact Nat.le_of_eq mpf_len
  · exact Nat.le_of_eq mpf_len
  · exact Nat.le_of_eq mpf_len
  · exact Nat.le_of_eq rvf_len
  · exact Nat.le_trans kpt_len (Nat.le_of_eq rvf_len)
  · unfold sdt
    split
    · exact Nat.le_of_eq mpf_len
    · exact Nat.le_of_eq (mpf_len.trans mpf_len)
  · exact Nat.le_refl _
theorem hrf_len {kd m_ : Nat → Nat} {xs : List Int32} : ∀ {ws_ l : List Int32}, (hrf kd m_ xs ws_ l).length ≤ l.length := by
  intro ws_
  induction ws_ with
  | nil => intro l; exact Nat.le_refl _
  | cons d_ t_ ih_ => intro l; exact Nat.le_trans ih_ sdo_len
/-- what one hears of an offer -/
def nhF (l : List Int32) (a_ : Int32) : Int32 := match l with
  | [] => a_
  | x_ :: _ => if 60 ≤ x_.toInt then x_ - 80 else a_
def numH (W_ : Nat → List Int32) (V : Nat → Int32) (z_ o a_ : Int32) : Int32 := nhF (hrd W_ V z_ [o + 80]) a_
theorem off_s {o : Int32} (b1 : -20 ≤ o.toInt) (b2 : o.toInt ≤ 19) : snds [o + 80] := by
  have e_ : (o + 80).toInt = o.toInt + 80 := by
    rw [Int32.toInt_add]
    have e8 : (80 : Int32).toInt = 80 := rfl
    rw [e8]
    exact Int.bmod_eq_of_le (by omega) (by omega)
  intro x_ hx
  rw [List.mem_singleton.mp hx]
  exact ⟨by omega, Or.inr ⟨by omega, by omega⟩⟩
def hld (x_ : Int32) : Int32 := if (Int32.ofInt (-20)) < (if x_ < (19 : Int32) then x_ else (19 : Int32)) then (if x_ < (19 : Int32) then x_ else (19 : Int32)) else (Int32.ofInt (-20))
theorem hld_t {x_ : Int32} : (x_.toInt < -20 → hld x_ = Int32.ofInt (-20)) ∧ ((-20 ≤ x_.toInt ∧ x_.toInt ≤ 19 → hld x_ = x_) ∧ (19 < x_.toInt → hld x_ = 19)) := by
  have e20 : (Int32.ofInt (-20)).toInt = -20 := rfl
  have e19_ : (19 : Int32).toInt = 19 := rfl
  unfold hld
  by_cases c_ : x_ < (19 : Int32)
  · rw [if_pos c_]
    rw [Int32.lt_iff_toInt_lt, e19_] at c_
    by_cases d_ : Int32.ofInt (-20) < x_
    · rw [if_pos d_]
      rw [Int32.lt_iff_toInt_lt, e20] at d_
      exact ⟨fun q_ => by omega, fun _ => rfl, fun q_ => by omega⟩
    · rw [if_neg d_]
      rw [Int32.lt_iff_toInt_lt, e20] at d_
      exact ⟨fun _ => rfl, fun q_ => Int32.toInt_inj.mp (by omega), fun q_ => by omega⟩
  · rw [if_neg c_, if_pos (show Int32.ofInt (-20) < (19 : Int32) by decide)]
    rw [Int32.lt_iff_toInt_lt, e19_] at c_
    exact ⟨fun q_ => by omega, fun q_ => Int32.toInt_inj.mp (by omega), fun _ => rfl⟩
theorem hld_b {x_ : Int32} : -20 ≤ (hld x_).toInt ∧ (hld x_).toInt ≤ 19 := by
  have e20 : (Int32.ofInt (-20)).toInt = -20 := rfl
  have e19_ : (19 : Int32).toInt = 19 := rfl
  obtain ⟨a_, b_, c_⟩ := hld_t (x_ := x_)
  by_cases q1_ : x_.toInt < -20
  · rw [a_ q1_]; omega
  · by_cases q2_ : x_.toInt ≤ 19
    · rw [b_ ⟨by omega, q2_⟩]; omega
    · rw [c_ (by omega)]; omega
/-- what one calls next -/
def nof (W_ : Nat → List Int32) (o u_ b_ t_ : Int32) : Int32 := hld (if W_ 24 = [] then (o + (b_ * (2 : Int32))) - (1 : Int32) else evr (nm4 o u_ b_ t_) (W_ 24))
noncomputable def odF (od t_ : Int32) (P_ Q_ : Prop) : Int32 := pif (od.toInt < 0 ∧ ¬ (P_ ↔ Q_)) t_ od
/-- a BARGAIN of n TURNS from TURN t on: the offers at last, CLOSED, ODD -/
noncomputable def bgn (W_ : Nat → List Int32) (V : Nat → Int32) (z_ y_ : Int32) (n_ t_ : Nat) (s_ b_ sh_ bh od : Int32) : Int32 × Int32 × Int32 × Int32 := match n_ with
  | 0 => (s_, b_, Int32.ofInt (-1), od)
  | n_ + 1 => pif ((numH W_ V z_ s_ bh).toInt ≤ b_.toInt ∧ s_.toInt ≤ (numH W_ V y_ b_ sh_).toInt) (s_, b_, Int32.ofNat t_, od) (bgn W_ V z_ y_ n_ (t_ + 1) (nof W_ s_ (numH W_ V y_ b_ sh_) 0 (Int32.ofNat t_)) (nof W_ b_ (numH W_ V z_ s_ bh) 1 (Int32.ofNat t_)) (numH W_ V y_ b_ sh_) (numH W_ V z_ s_ bh) (odF od (Int32.ofNat t_) ((numH W_ V z_ s_ bh).toInt ≤ b_.toInt) (s_.toInt ≤ (numH W_ V y_ b_ sh_).toInt)))
-- ===== the class
def nhf (h_ h' : xH) : Prop := ysm h_ h' ∧ ∀ c_ j_, ¬ (306 ≤ c_ ∧ c_ ≤ 309) → ¬ c_ = 33 → ¬ c_ = 69 → ¬ c_ = 73 → bpat h' c_ j_ = bpat h_ c_ j_
def gof (h_ h' : xH) : Prop := ysm h_ h' ∧ ∀ c_ j_, ¬ (305 ≤ c_ ∧ c_ ≤ 309) → ¬ c_ = 33 → ¬ c_ = 69 → ¬ c_ = 73 → bpat h' c_ j_ = bpat h_ c_ j_
theorem nhf_g {h_ h' : xH} (F_ : nhf h_ h') : gof h_ h' := ⟨F_.1, fun c_ j_ q1_ q2_ q3_ q4_ => F_.2 c_ j_ (by omega) q2_ q3_ q4_⟩
theorem gof_a {h_ h' : xH} (m_ : ysm h_ h') (f_ : ∀ c_ j_, bpat h' c_ j_ = bpat h_ c_ j_) : gof h_ h' := ⟨m_, fun c_ j_ _ _ _ _ => f_ c_ j_⟩
theorem gof_t {a_ b_ c_ : xH} (h1 : gof a_ b_) (h2 : gof b_ c_) : gof a_ c_ := ⟨ysm_tr h1.1 h2.1, fun c_ j_ q1_ q2_ q3_ q4_ => (h2.2 c_ j_ q1_ q2_ q3_ q4_).trans (h1.2 c_ j_ q1_ q2_ q3_ q4_)⟩
theorem gof_S {h_ h' : xH} (H_ : SX W_ V h_) (F_ : gof h_ h') : SX W_ V h' := SX_fr H_ F_.1 (fun c_ j_ hc_ => F_.2 c_ j_ (fun q_ => by
  have : c_ = 305 ∨ (c_ = 306 ∨ (c_ = 307 ∨ (c_ = 308 ∨ c_ = 309))) := by omega
  rcases this with rfl | rfl | rfl | rfl | rfl <;> exact absurd hc_ (by decide)) (fun q_ => by rw [q_] at hc_; exact absurd hc_ (by decide)) (fun q_ => by rw [q_] at hc_; exact absurd hc_ (by decide)) (fun q_ => by rw [q_] at hc_; exact absurd hc_ (by decide)))
theorem nhX (K_ : okS W_ V) (H_ : SX W_ V h_) {aw bw : Nat} (hw : wyC aw bw) {z_ o a_ : Int32} (g_ : isW (nR V) z_) (RW : rwx h_ aw bw 4 (wyl z_)) (b1 : -20 ≤ o.toInt) (b2 : o.toInt ≤ 19) : ∃ h', nhf h_ h' ∧ ∀ D_, 68 ≤ D_ → xrun D_ 3 0 [(0, .index 305), (1, .index 1), (2, .int o), (3, .index aw), (4, .int a_)] [] h_ (some (.int (numH W_ V z_ o a_)), h', []) := by
  have hw' := hw
  obtain ⟨⟨k1_, k2_⟩, o1, x1_, x2_⟩ := wyC_s H_.1 hw
  obtain ⟨h1, m1_, w1_, w0_, f1_, ld1⟩ := xnhE (v2 := o) (v4_ := a_) H_.1 k1_
  have H1_ : SX W_ V h1 := SX_fr H_ m1_ (fun c_ j_ hc_ => f1_ c_ j_ (fun q_ => by rw [q_.1] at hc_; exact absurd hc_ (by decide)) (fun q_ => by rw [q_.1] at hc_; exact absurd hc_ (by decide)))
  have RC : rwx h1 306 307 12 [o + 80] := ⟨⟨bcq_of (n_ := 306) (z_ := (6, 2)) H1_.1 rfl, bcq_of (n_ := 307) (z_ := (20, 12)) H1_.1 rfl⟩, ⟨fxr_at H1_.1.2 (show fxk fxl 306 0 = some 307 by decide +kernel), w1_⟩, Nat.le_of_ble_eq_true rfl, fun j_ x_ hx => by
    cases j_ with
    | zero => cases hx; exact w0_
    | succ j_ => cases hx⟩
  have RW1 : rwx h1 aw bw 4 (wyl z_) := rwx_keep RW m1_ (fun c_ j_ q_ => f1_ c_ j_ (fun q2_ => by rcases hw with ⟨rfl, rfl⟩ | ⟨rfl, rfl⟩ <;> omega) (fun q2_ => by rcases hw with ⟨rfl, rfl⟩ | ⟨rfl, rfl⟩ <;> omega))
  obtain ⟨h2, R2, F2, r2⟩ := hearW (a_ := 308) (b_ := 309) (wrc_S K_) (by rcases hw with ⟨rfl, rfl⟩ | ⟨rfl, rfl⟩ <;> omega) (by omega) (by rcases hw with ⟨rfl, rfl⟩ | ⟨rfl, rfl⟩ <;> omega) (isW_l g_ (nR_le K_).1) H1_.1 (wrl_S K_ H1_) RW1 RC (Nat.le_of_ble_eq_true rfl) (bcq_of (n_ := 308) (z_ := (6, 2)) H1_.1 rfl) (bcq_of (n_ := 309) (z_ := (20, 12)) H1_.1 rfl) (fxr_at H1_.1.2 (show fxk fxl 308 0 = some 309 by decide +kernel))
  have ld2 := ycv (d_ := 64) (mi := 3) (pc := 29) (cm := 68) (lo_ := [(0, .index 305), (1, .index 1), (2, .int o), (3, .index aw), (4, .int a_)]) (st_ := [.index 308, .index aw, .index 306, .index 1]) (as_ := [.index 306, .index aw, .index 308]) (s' := []) rfl rfl (bcq_of (n_ := 1) (z_ := (10, 15)) H1_.1 rfl) rfl (xcc_l (List.forall_mem_cons.mpr ⟨xidx_i (bcq_lt (bcq_of (n_ := 305) (z_ := (0, 8)) H1_.1 rfl)), List.forall_mem_cons.mpr ⟨xidx_i (bcq_lt (bcq_of (n_ := 1) (z_ := (10, 15)) H1_.1 rfl)), List.forall_mem_cons.mpr ⟨rfl, List.forall_mem_cons.mpr ⟨xidx_i (bcq_lt (m1_.2 _ _ _ k1_)), List.forall_mem_cons.mpr ⟨rfl, fun q_ hq => absurd hq List.not_mem_nil⟩⟩⟩⟩⟩) (fun t_ ht => absurd ht List.not_mem_nil) (Nat.le_of_ble_eq_true rfl)) r2
  have fin_ : ∀ l : List Int32, rW 308 309 h2 l → snds l → l.length ≤ 1 → ∃ h3, (ysm h2 h3 ∧ ∀ c_ j_, bpat h3 c_ j_ = bpat h2 c_ j_) ∧ ∀ D_, 60 ≤ D_ → xrun D_ 3 32 [(0, .index 305), (1, .index 1), (2, .int o), (3, .index aw), (4, .int a_)] [] h2 (some (.int (nhF l a_)), h3, []) := by
    intro l R_ S_ L_
    have kw := F2.1.2 _ _ _ (m1_.2 _ _ _ k1_)
    have e60 : (60 : Int32).toInt = 60 := rfl
    have e99_ : (99 : Int32).toInt = 99 := rfl
    cases l with
    | nil =>
      obtain ⟨h3, m3_, f3_, r3⟩ := xnhA (v2 := o) (v4_ := a_) (v300 := 0) R_.1 kw R_.2.1.2.1.2 rfl
      exact ⟨h3, ⟨m3_, f3_⟩, r3⟩
    | cons x_ t_ =>
      have sx := S_ x_ List.mem_cons_self
      have n0_ : ¬ Int32.ofNat (x_ :: t_).length = 0 := fun q_ => by
        have q2_ := congrArg Int32.toInt q_
        rw [i32n (by omega)] at q2_
        rw [List.length_cons] at q2_
        have e0_ : (0 : Int32).toInt = 0 := rfl
        omega
      unfold snd_ at sx
      by_cases g6 : 60 ≤ x_.toInt
      · obtain ⟨h3, m3_, f3_, r3⟩ := xnhC (v2 := o) (v4_ := a_) (v300 := Int32.ofNat (x_ :: t_).length) (v301 := x_) R_.1 kw R_.2.1.2.1.2 (R_.2.1.2.2.2 0 x_ rfl) (by omega) (by omega) n0_
        refine ⟨h3, ⟨m3_, f3_⟩, ?_⟩
        have e_ : nhF (x_ :: t_) a_ = x_ - 80 := if_pos g6
        rw [e_]
        exact r3
      · obtain ⟨h3, m3_, f3_, r3⟩ := xnhB (v2 := o) (v4_ := a_) (v300 := Int32.ofNat (x_ :: t_).length) (v301 := x_) R_.1 kw R_.2.1.2.1.2 (R_.2.1.2.2.2 0 x_ rfl) (by omega) n0_
        refine ⟨h3, ⟨m3_, f3_⟩, ?_⟩
        have e_ : nhF (x_ :: t_) a_ = a_ := if_neg g6
        rw [e_]
        exact r3
  obtain ⟨h3, ⟨m3_, f3_⟩, r3⟩ := fin_ _ R2 (snds_hrf (off_s b1 b2)) (Nat.le_trans hrf_len (Nat.le_refl _))
  exact ⟨h3, ⟨ysm_tr m1_ (ysm_tr F2.1 m3_), fun c_ j_ q1_ q2_ q3_ _ => (f3_ c_ j_).trans ((F2.2 c_ j_ (by omega) (by omega) q2_ q3_).trans (f1_ c_ j_ (by omega) (by omega)))⟩, fun D_ hD => ld1 D_ (by omega) _ (ld2 D_ (by omega) _ (r3 D_ (by omega)))⟩
theorem noX (K_ : okS W_ V) (H_ : SX W_ V h_) {o u_ b_ t_ : Int32} : ∃ h', nhf h_ h' ∧ ∀ D_, 62 ≤ D_ → xrun D_ 72 0 [(0, .index 1), (1, .int o), (2, .int u_), (3, .int b_), (4, .int t_)] [] h_ (some (.int (nof W_ o u_ b_ t_)), h', []) := by
  have RT := SX_w H_ (show (71, 72, 60, 24) ∈ wrX by decide)
  have z0 := z0_
  have tx := K_.1.2.2.2.2.2.2 1 (by omega)
  have t1_ : (W_ 24).length ≤ 60 := tx.1
  have t2_ : ∀ x_ ∈ W_ 24, okx x_ := tx.2.1
  have t3_ : ¬ W_ 24 = [] → evk (W_ 24) := tx.2.2
  by_cases hn : W_ 24 = []
  · obtain ⟨h1, m1_, f1_, r1_⟩ := xnoN (v1_ := o) (v2 := u_) (v3 := b_) (v4_ := t_) H_.1 RT.2.1.2 (by rw [hn]; exact Int.le_refl _)
    refine ⟨h1, ⟨m1_, fun c_ j_ _ _ _ _ => f1_ c_ j_⟩, fun D_ hD => ?_⟩
    unfold nof
    rw [if_pos hn]
    exact r1_ D_ (by omega)
  · have pl : 0 < (W_ 24).length := List.length_pos_iff.mpr hn
    obtain ⟨h1, m1_, w3_, w2_, w1_, w0_, f1_, ld1⟩ := xnoE (v1_ := o) (v2 := u_) (v3 := b_) (v4_ := t_) H_.1 RT.2.1.2 (by rw [i32n (by omega)]; omega)
    have fb : ∀ c_ j_, ¬ c_ = 33 → bpat h1 c_ j_ = bpat h_ c_ j_ := fun c_ j_ n_ => f1_ c_ j_ (fun q_ => n_ q_.1) (fun q_ => n_ q_.1) (fun q_ => n_ q_.1) (fun q_ => n_ q_.1)
    have R1 := rwx_keep RT m1_ (fun c_ j_ q_ => fb c_ j_ (by omega))
    have T : txw h1 70 71 72 73 33 (nm4 o u_ b_ t_) (W_ 24) := ⟨⟨m1_.1, ⟨bcq_of (n_ := 70) (z_ := (9, 2)) m1_.1 rfl, R1.1.1⟩, R1.1.2, bcq_of (n_ := 73) (z_ := (20, 60)) m1_.1 rfl, bcq_of (n_ := 33) (z_ := (20, 4)) m1_.1 rfl⟩, ⟨⟨fxr_at m1_.1.2 (show fxk fxl 70 0 = some 71 by decide +kernel), fxr_at m1_.1.2 (show fxk fxl 70 1 = some 73 by decide +kernel)⟩, R1.2.1⟩, R1.2.2.2, fun j_ hj => by
      have j4_ : j_ = 0 ∨ (j_ = 1 ∨ (j_ = 2 ∨ j_ = 3)) := by omega
      rcases j4_ with rfl | rfl | rfl | rfl
      · exact w0_
      · exact w1_
      · exact w2_
      · exact w3_⟩
    obtain ⟨s', e_, ne_⟩ := t3_ hn (nm4 o u_ b_ t_)
    obtain ⟨h2, F2, r2⟩ := workOut (by omega) (by omega) t2_ t1_ T e_ ne_
    have ee : s'.getLastD 0 = evr (nm4 o u_ b_ t_) (W_ 24) := by
      unfold evr
      rw [e_]
      rfl
    rw [ee] at r2
    have ld2 := ycv (d_ := 60) (mi := 72) (pc := 60) (cm := 59) (lo_ := [(6, .int ((o + (b_ * (2 : Int32))) - (1 : Int32))), (5, .index 70), (0, .index 1), (1, .int o), (2, .int u_), (3, .int b_), (4, .int t_)]) (st_ := [.index 33, .index 70]) (as_ := [.index 33]) (s' := []) rfl rfl (bcq_of (n_ := 70) (z_ := (9, 2)) m1_.1 rfl) rfl (xcc_l (List.forall_mem_cons.mpr ⟨rfl, List.forall_mem_cons.mpr ⟨xidx_i (bcq_lt (bcq_of (n_ := 70) (z_ := (9, 2)) m1_.1 rfl)), List.forall_mem_cons.mpr ⟨xidx_i (bcq_lt (bcq_of (n_ := 1) (z_ := (10, 15)) m1_.1 rfl)), List.forall_mem_cons.mpr ⟨rfl, List.forall_mem_cons.mpr ⟨rfl, List.forall_mem_cons.mpr ⟨rfl, List.forall_mem_cons.mpr ⟨rfl, fun q_ hq => absurd hq List.not_mem_nil⟩⟩⟩⟩⟩⟩⟩) (fun t_ ht => absurd ht List.not_mem_nil) (Nat.le_of_ble_eq_true rfl)) r2
    obtain ⟨h3, m3_, f3_, r3⟩ := xnoR (v1_ := o) (v2 := u_) (v3 := b_) (v4_ := t_) (v6 := (o + (b_ * (2 : Int32))) - (1 : Int32)) (v7 := evr (nm4 o u_ b_ t_) (W_ 24)) (F2.1).1
    refine ⟨h3, ⟨ysm_tr m1_ (ysm_tr F2.1 m3_), fun c_ j_ q1_ q2_ q3_ q4_ => (f3_ c_ j_).trans ((F2.2 c_ j_ q4_).trans (fb c_ j_ q2_))⟩, fun D_ hD => ?_⟩
    unfold nof
    rw [if_neg hn]
    exact ld1 D_ (by omega) _ (ld2 D_ (by omega) _ (r3 D_ (by omega)))
theorem go_n00 (K_ : okS W_ V) (H_ : SX W_ V h_) {t_ nn s_ b_ sh_ bh : Int32} (e2_ : bpat h_ 305 2 = some (.int s_)) (e3_ : bpat h_ 305 3 = some (.int b_)) (e6_ : bpat h_ 305 6 = some (.int sh_)) (e7_ : bpat h_ 305 7 = some (.int bh)) : ∃ h', gof h_ h' ∧ ((bpat h' 305 2 = some (.int (nof W_ s_ sh_ 0 t_)) ∧ (bpat h' 305 3 = some (.int (nof W_ b_ bh 1 t_)) ∧ ∀ j_, ¬ j_ = 2 → ¬ j_ = 3 → bpat h' 305 j_ = bpat h_ 305 j_)) ∧ bldD 64 2 128 [(7, .int 0), (6, .int 0), (5, .int t_), (0, .index 305), (1, .index 1), (2, .index 314), (3, .index 316), (4, .int nn)] [] h_ 3 [(5, .int (t_ + 1)), (7, .int 0), (6, .int 0), (0, .index 305), (1, .index 1), (2, .index 314), (3, .index 316), (4, .int nn)] [] h') := by
  obtain ⟨h1, m1_, f1_, ld1⟩ := xgoN00 (v4_ := nn) (v5 := t_)  H_.1 e2_ e6_
  have H1_ := gof_S H_ (gof_a m1_ f1_)
  obtain ⟨h2, F2, r2⟩ := noX (o := s_) (u_ := sh_) (b_ := 0) (t_ := t_) K_ H1_
  have ld2 := ycv (d_ := 62) (mi := 2) (pc := 141) (cm := 72) (lo_ := [(7, .int 0), (6, .int 0), (5, .int t_), (0, .index 305), (1, .index 1), (2, .index 314), (3, .index 316), (4, .int nn)]) (st_ := [.int t_, .int 0, .int sh_, .int s_, .index 1, .index 305]) (as_ := [.int s_, .int sh_, .int 0, .int t_]) (s' := [.index 305]) rfl rfl (bcq_of (n_ := 1) (z_ := (10, 15)) H1_.1 rfl) rfl (xcc_l (List.forall_mem_cons.mpr ⟨rfl, List.forall_mem_cons.mpr ⟨rfl, List.forall_mem_cons.mpr ⟨rfl, List.forall_mem_cons.mpr ⟨xidx_i (bcq_lt (bcq_of (n_ := 305) (z_ := (0, 8)) H1_.1 rfl)), List.forall_mem_cons.mpr ⟨xidx_i (bcq_lt (bcq_of (n_ := 1) (z_ := (10, 15)) H1_.1 rfl)), List.forall_mem_cons.mpr ⟨xidx_i (bcq_lt (bcq_of (n_ := 314) (z_ := (6, 2)) H1_.1 rfl)), List.forall_mem_cons.mpr ⟨xidx_i (bcq_lt (bcq_of (n_ := 316) (z_ := (6, 2)) H1_.1 rfl)), List.forall_mem_cons.mpr ⟨rfl, fun q_ hq => absurd hq List.not_mem_nil⟩⟩⟩⟩⟩⟩⟩⟩) (List.forall_mem_cons.mpr ⟨⟨xidx_i (bcq_lt (bcq_of (n_ := 305) (z_ := (0, 8)) H1_.1 rfl)), rfl⟩, fun t_ ht => absurd ht List.not_mem_nil⟩) (Nat.le_of_ble_eq_true rfl)) r2
  have fd_ : ∀ j_, bpat h2 305 j_ = bpat h_ 305 j_ := fun j_ => (F2.2 305 j_ (by omega) (by omega) (by omega) (by omega)).trans (f1_ 305 j_)
  have H2_ := gof_S H1_ (nhf_g F2)
  obtain ⟨h3, m3_, w3_, f3_, ld3⟩ := xgoO00 (v4_ := nn) (v5 := t_) (v8 := nof W_ s_ sh_ 0 t_) H2_.1 ((fd_ 3).trans e3_) ((fd_ 7).trans e7_)
  have G3 : gof h2 h3 := ⟨m3_, fun c_ j_ q1_ _ _ _ => f3_ c_ j_ (by omega)⟩
  have H3 := gof_S H2_ G3
  obtain ⟨h4, F4, r4⟩ := noX (o := b_) (u_ := bh) (b_ := 1) (t_ := t_) K_ H3
  have ld4 := ycv (d_ := 62) (mi := 2) (pc := 160) (cm := 72) (lo_ := [(7, .int 0), (6, .int 0), (5, .int t_), (0, .index 305), (1, .index 1), (2, .index 314), (3, .index 316), (4, .int nn)]) (st_ := [.int t_, .int 1, .int bh, .int b_, .index 1, .index 305]) (as_ := [.int b_, .int bh, .int 1, .int t_]) (s' := [.index 305]) rfl rfl (bcq_of (n_ := 1) (z_ := (10, 15)) H3.1 rfl) rfl (xcc_l (List.forall_mem_cons.mpr ⟨rfl, List.forall_mem_cons.mpr ⟨rfl, List.forall_mem_cons.mpr ⟨rfl, List.forall_mem_cons.mpr ⟨xidx_i (bcq_lt (bcq_of (n_ := 305) (z_ := (0, 8)) H3.1 rfl)), List.forall_mem_cons.mpr ⟨xidx_i (bcq_lt (bcq_of (n_ := 1) (z_ := (10, 15)) H3.1 rfl)), List.forall_mem_cons.mpr ⟨xidx_i (bcq_lt (bcq_of (n_ := 314) (z_ := (6, 2)) H3.1 rfl)), List.forall_mem_cons.mpr ⟨xidx_i (bcq_lt (bcq_of (n_ := 316) (z_ := (6, 2)) H3.1 rfl)), List.forall_mem_cons.mpr ⟨rfl, fun q_ hq => absurd hq List.not_mem_nil⟩⟩⟩⟩⟩⟩⟩⟩) (List.forall_mem_cons.mpr ⟨⟨xidx_i (bcq_lt (bcq_of (n_ := 305) (z_ := (0, 8)) H3.1 rfl)), rfl⟩, fun t_ ht => absurd ht List.not_mem_nil⟩) (Nat.le_of_ble_eq_true rfl)) r4
  have H4 := gof_S H3 (nhf_g F4)
  obtain ⟨h5, m5_, w5, f5_, ld5⟩ := xgoP00 (v4_ := nn) (v5 := t_) (v8 := nof W_ b_ bh 1 t_) H4.1
  have fe : ∀ j_, bpat h4 305 j_ = bpat h3 305 j_ := fun j_ => F4.2 305 j_ (by omega) (by omega) (by omega) (by omega)
  exact ⟨h5, gof_t (gof_a m1_ f1_) (gof_t (nhf_g F2) (gof_t G3 (gof_t (nhf_g F4) ⟨m5_, fun c_ j_ q1_ _ _ _ => f5_ c_ j_ (by omega)⟩))), ⟨(f5_ _ _ (by omega)).trans ((fe 2).trans w3_), w5, fun j_ q2_ q3_ => (f5_ _ _ (by omega)).trans ((fe j_).trans ((f3_ _ _ (by omega)).trans (fd_ j_)))⟩, fun D_ hD oo z_ => ld1 D_ (by omega) _ (ld2 D_ (by omega) _ (ld3 D_ (by omega) _ (ld4 D_ (by omega) _ (ld5 D_ (by omega) oo z_))))⟩
theorem go_n01 (K_ : okS W_ V) (H_ : SX W_ V h_) {t_ nn s_ b_ sh_ bh : Int32} (e2_ : bpat h_ 305 2 = some (.int s_)) (e3_ : bpat h_ 305 3 = some (.int b_)) (e6_ : bpat h_ 305 6 = some (.int sh_)) (e7_ : bpat h_ 305 7 = some (.int bh)) : ∃ h', gof h_ h' ∧ ((bpat h' 305 2 = some (.int (nof W_ s_ sh_ 0 t_)) ∧ (bpat h' 305 3 = some (.int (nof W_ b_ bh 1 t_)) ∧ ∀ j_, ¬ j_ = 2 → ¬ j_ = 3 → bpat h' 305 j_ = bpat h_ 305 j_)) ∧ bldD 64 2 128 [(7, .int 0), (6, .int 1), (5, .int t_), (0, .index 305), (1, .index 1), (2, .index 314), (3, .index 316), (4, .int nn)] [] h_ 3 [(5, .int (t_ + 1)), (7, .int 0), (6, .int 1), (0, .index 305), (1, .index 1), (2, .index 314), (3, .index 316), (4, .int nn)] [] h') := by
  obtain ⟨h1, m1_, f1_, ld1⟩ := xgoN01 (v4_ := nn) (v5 := t_)  H_.1 e2_ e6_
  have H1_ := gof_S H_ (gof_a m1_ f1_)
  obtain ⟨h2, F2, r2⟩ := noX (o := s_) (u_ := sh_) (b_ := 0) (t_ := t_) K_ H1_
  have ld2 := ycv (d_ := 62) (mi := 2) (pc := 141) (cm := 72) (lo_ := [(7, .int 0), (6, .int 1), (5, .int t_), (0, .index 305), (1, .index 1), (2, .index 314), (3, .index 316), (4, .int nn)]) (st_ := [.int t_, .int 0, .int sh_, .int s_, .index 1, .index 305]) (as_ := [.int s_, .int sh_, .int 0, .int t_]) (s' := [.index 305]) rfl rfl (bcq_of (n_ := 1) (z_ := (10, 15)) H1_.1 rfl) rfl (xcc_l (List.forall_mem_cons.mpr ⟨rfl, List.forall_mem_cons.mpr ⟨rfl, List.forall_mem_cons.mpr ⟨rfl, List.forall_mem_cons.mpr ⟨xidx_i (bcq_lt (bcq_of (n_ := 305) (z_ := (0, 8)) H1_.1 rfl)), List.forall_mem_cons.mpr ⟨xidx_i (bcq_lt (bcq_of (n_ := 1) (z_ := (10, 15)) H1_.1 rfl)), List.forall_mem_cons.mpr ⟨xidx_i (bcq_lt (bcq_of (n_ := 314) (z_ := (6, 2)) H1_.1 rfl)), List.forall_mem_cons.mpr ⟨xidx_i (bcq_lt (bcq_of (n_ := 316) (z_ := (6, 2)) H1_.1 rfl)), List.forall_mem_cons.mpr ⟨rfl, fun q_ hq => absurd hq List.not_mem_nil⟩⟩⟩⟩⟩⟩⟩⟩) (List.forall_mem_cons.mpr ⟨⟨xidx_i (bcq_lt (bcq_of (n_ := 305) (z_ := (0, 8)) H1_.1 rfl)), rfl⟩, fun t_ ht => absurd ht List.not_mem_nil⟩) (Nat.le_of_ble_eq_true rfl)) r2
  have fd_ : ∀ j_, bpat h2 305 j_ = bpat h_ 305 j_ := fun j_ => (F2.2 305 j_ (by omega) (by omega) (by omega) (by omega)).trans (f1_ 305 j_)
  have H2_ := gof_S H1_ (nhf_g F2)
  obtain ⟨h3, m3_, w3_, f3_, ld3⟩ := xgoO01 (v4_ := nn) (v5 := t_) (v8 := nof W_ s_ sh_ 0 t_) H2_.1 ((fd_ 3).trans e3_) ((fd_ 7).trans e7_)
  have G3 : gof h2 h3 := ⟨m3_, fun c_ j_ q1_ _ _ _ => f3_ c_ j_ (by omega)⟩
  have H3 := gof_S H2_ G3
  obtain ⟨h4, F4, r4⟩ := noX (o := b_) (u_ := bh) (b_ := 1) (t_ := t_) K_ H3
  have ld4 := ycv (d_ := 62) (mi := 2) (pc := 160) (cm := 72) (lo_ := [(7, .int 0), (6, .int 1), (5, .int t_), (0, .index 305), (1, .index 1), (2, .index 314), (3, .index 316), (4, .int nn)]) (st_ := [.int t_, .int 1, .int bh, .int b_, .index 1, .index 305]) (as_ := [.int b_, .int bh, .int 1, .int t_]) (s' := [.index 305]) rfl rfl (bcq_of (n_ := 1) (z_ := (10, 15)) H3.1 rfl) rfl (xcc_l (List.forall_mem_cons.mpr ⟨rfl, List.forall_mem_cons.mpr ⟨rfl, List.forall_mem_cons.mpr ⟨rfl, List.forall_mem_cons.mpr ⟨xidx_i (bcq_lt (bcq_of (n_ := 305) (z_ := (0, 8)) H3.1 rfl)), List.forall_mem_cons.mpr ⟨xidx_i (bcq_lt (bcq_of (n_ := 1) (z_ := (10, 15)) H3.1 rfl)), List.forall_mem_cons.mpr ⟨xidx_i (bcq_lt (bcq_of (n_ := 314) (z_ := (6, 2)) H3.1 rfl)), List.forall_mem_cons.mpr ⟨xidx_i (bcq_lt (bcq_of (n_ := 316) (z_ := (6, 2)) H3.1 rfl)), List.forall_mem_cons.mpr ⟨rfl, fun q_ hq => absurd hq List.not_mem_nil⟩⟩⟩⟩⟩⟩⟩⟩) (List.forall_mem_cons.mpr ⟨⟨xidx_i (bcq_lt (bcq_of (n_ := 305) (z_ := (0, 8)) H3.1 rfl)), rfl⟩, fun t_ ht => absurd ht List.not_mem_nil⟩) (Nat.le_of_ble_eq_true rfl)) r4
  have H4 := gof_S H3 (nhf_g F4)
  obtain ⟨h5, m5_, w5, f5_, ld5⟩ := xgoP01 (v4_ := nn) (v5 := t_) (v8 := nof W_ b_ bh 1 t_) H4.1
  have fe : ∀ j_, bpat h4 305 j_ = bpat h3 305 j_ := fun j_ => F4.2 305 j_ (by omega) (by omega) (by omega) (by omega)
  exact ⟨h5, gof_t (gof_a m1_ f1_) (gof_t (nhf_g F2) (gof_t G3 (gof_t (nhf_g F4) ⟨m5_, fun c_ j_ q1_ _ _ _ => f5_ c_ j_ (by omega)⟩))), ⟨(f5_ _ _ (by omega)).trans ((fe 2).trans w3_), w5, fun j_ q2_ q3_ => (f5_ _ _ (by omega)).trans ((fe j_).trans ((f3_ _ _ (by omega)).trans (fd_ j_)))⟩, fun D_ hD oo z_ => ld1 D_ (by omega) _ (ld2 D_ (by omega) _ (ld3 D_ (by omega) _ (ld4 D_ (by omega) _ (ld5 D_ (by omega) oo z_))))⟩
theorem go_n10 (K_ : okS W_ V) (H_ : SX W_ V h_) {t_ nn s_ b_ sh_ bh : Int32} (e2_ : bpat h_ 305 2 = some (.int s_)) (e3_ : bpat h_ 305 3 = some (.int b_)) (e6_ : bpat h_ 305 6 = some (.int sh_)) (e7_ : bpat h_ 305 7 = some (.int bh)) : ∃ h', gof h_ h' ∧ ((bpat h' 305 2 = some (.int (nof W_ s_ sh_ 0 t_)) ∧ (bpat h' 305 3 = some (.int (nof W_ b_ bh 1 t_)) ∧ ∀ j_, ¬ j_ = 2 → ¬ j_ = 3 → bpat h' 305 j_ = bpat h_ 305 j_)) ∧ bldD 64 2 128 [(7, .int 1), (6, .int 0), (5, .int t_), (0, .index 305), (1, .index 1), (2, .index 314), (3, .index 316), (4, .int nn)] [] h_ 3 [(5, .int (t_ + 1)), (7, .int 1), (6, .int 0), (0, .index 305), (1, .index 1), (2, .index 314), (3, .index 316), (4, .int nn)] [] h') := by
  obtain ⟨h1, m1_, f1_, ld1⟩ := xgoN10 (v4_ := nn) (v5 := t_)  H_.1 e2_ e6_
  have H1_ := gof_S H_ (gof_a m1_ f1_)
  obtain ⟨h2, F2, r2⟩ := noX (o := s_) (u_ := sh_) (b_ := 0) (t_ := t_) K_ H1_
  have ld2 := ycv (d_ := 62) (mi := 2) (pc := 141) (cm := 72) (lo_ := [(7, .int 1), (6, .int 0), (5, .int t_), (0, .index 305), (1, .index 1), (2, .index 314), (3, .index 316), (4, .int nn)]) (st_ := [.int t_, .int 0, .int sh_, .int s_, .index 1, .index 305]) (as_ := [.int s_, .int sh_, .int 0, .int t_]) (s' := [.index 305]) rfl rfl (bcq_of (n_ := 1) (z_ := (10, 15)) H1_.1 rfl) rfl (xcc_l (List.forall_mem_cons.mpr ⟨rfl, List.forall_mem_cons.mpr ⟨rfl, List.forall_mem_cons.mpr ⟨rfl, List.forall_mem_cons.mpr ⟨xidx_i (bcq_lt (bcq_of (n_ := 305) (z_ := (0, 8)) H1_.1 rfl)), List.forall_mem_cons.mpr ⟨xidx_i (bcq_lt (bcq_of (n_ := 1) (z_ := (10, 15)) H1_.1 rfl)), List.forall_mem_cons.mpr ⟨xidx_i (bcq_lt (bcq_of (n_ := 314) (z_ := (6, 2)) H1_.1 rfl)), List.forall_mem_cons.mpr ⟨xidx_i (bcq_lt (bcq_of (n_ := 316) (z_ := (6, 2)) H1_.1 rfl)), List.forall_mem_cons.mpr ⟨rfl, fun q_ hq => absurd hq List.not_mem_nil⟩⟩⟩⟩⟩⟩⟩⟩) (List.forall_mem_cons.mpr ⟨⟨xidx_i (bcq_lt (bcq_of (n_ := 305) (z_ := (0, 8)) H1_.1 rfl)), rfl⟩, fun t_ ht => absurd ht List.not_mem_nil⟩) (Nat.le_of_ble_eq_true rfl)) r2
  have fd_ : ∀ j_, bpat h2 305 j_ = bpat h_ 305 j_ := fun j_ => (F2.2 305 j_ (by omega) (by omega) (by omega) (by omega)).trans (f1_ 305 j_)
  have H2_ := gof_S H1_ (nhf_g F2)
  obtain ⟨h3, m3_, w3_, f3_, ld3⟩ := xgoO10 (v4_ := nn) (v5 := t_) (v8 := nof W_ s_ sh_ 0 t_) H2_.1 ((fd_ 3).trans e3_) ((fd_ 7).trans e7_)
  have G3 : gof h2 h3 := ⟨m3_, fun c_ j_ q1_ _ _ _ => f3_ c_ j_ (by omega)⟩
  have H3 := gof_S H2_ G3
  obtain ⟨h4, F4, r4⟩ := noX (o := b_) (u_ := bh) (b_ := 1) (t_ := t_) K_ H3
  have ld4 := ycv (d_ := 62) (mi := 2) (pc := 160) (cm := 72) (lo_ := [(7, .int 1), (6, .int 0), (5, .int t_), (0, .index 305), (1, .index 1), (2, .index 314), (3, .index 316), (4, .int nn)]) (st_ := [.int t_, .int 1, .int bh, .int b_, .index 1, .index 305]) (as_ := [.int b_, .int bh, .int 1, .int t_]) (s' := [.index 305]) rfl rfl (bcq_of (n_ := 1) (z_ := (10, 15)) H3.1 rfl) rfl (xcc_l (List.forall_mem_cons.mpr ⟨rfl, List.forall_mem_cons.mpr ⟨rfl, List.forall_mem_cons.mpr ⟨rfl, List.forall_mem_cons.mpr ⟨xidx_i (bcq_lt (bcq_of (n_ := 305) (z_ := (0, 8)) H3.1 rfl)), List.forall_mem_cons.mpr ⟨xidx_i (bcq_lt (bcq_of (n_ := 1) (z_ := (10, 15)) H3.1 rfl)), List.forall_mem_cons.mpr ⟨xidx_i (bcq_lt (bcq_of (n_ := 314) (z_ := (6, 2)) H3.1 rfl)), List.forall_mem_cons.mpr ⟨xidx_i (bcq_lt (bcq_of (n_ := 316) (z_ := (6, 2)) H3.1 rfl)), List.forall_mem_cons.mpr ⟨rfl, fun q_ hq => absurd hq List.not_mem_nil⟩⟩⟩⟩⟩⟩⟩⟩) (List.forall_mem_cons.mpr ⟨⟨xidx_i (bcq_lt (bcq_of (n_ := 305) (z_ := (0, 8)) H3.1 rfl)), rfl⟩, fun t_ ht => absurd ht List.not_mem_nil⟩) (Nat.le_of_ble_eq_true rfl)) r4
  have H4 := gof_S H3 (nhf_g F4)
  obtain ⟨h5, m5_, w5, f5_, ld5⟩ := xgoP10 (v4_ := nn) (v5 := t_) (v8 := nof W_ b_ bh 1 t_) H4.1
  have fe : ∀ j_, bpat h4 305 j_ = bpat h3 305 j_ := fun j_ => F4.2 305 j_ (by omega) (by omega) (by omega) (by omega)
  exact ⟨h5, gof_t (gof_a m1_ f1_) (gof_t (nhf_g F2) (gof_t G3 (gof_t (nhf_g F4) ⟨m5_, fun c_ j_ q1_ _ _ _ => f5_ c_ j_ (by omega)⟩))), ⟨(f5_ _ _ (by omega)).trans ((fe 2).trans w3_), w5, fun j_ q2_ q3_ => (f5_ _ _ (by omega)).trans ((fe j_).trans ((f3_ _ _ (by omega)).trans (fd_ j_)))⟩, fun D_ hD oo z_ => ld1 D_ (by omega) _ (ld2 D_ (by omega) _ (ld3 D_ (by omega) _ (ld4 D_ (by omega) _ (ld5 D_ (by omega) oo z_))))⟩
theorem go_lp (K_ : okS W_ V) {z_ y_ nn : Int32} {N_ : Nat} (en : nn = Int32.ofNat N_) (hN_ : N_ ≤ 60) (gz : isW (nR V) z_) (gy : isW (nR V) y_) : ∀ (n_ t_ : Nat) (s_ b_ sh_ bh od : Int32) (h_ : xH) (lo_ : xL), t_ + n_ = N_ → SX W_ V h_ → rwx h_ 314 315 4 (wyl z_) → rwx h_ 316 317 4 (wyl y_) → bpat h_ 305 2 = some (.int s_) → bpat h_ 305 3 = some (.int b_) → bpat h_ 305 4 = some (.int (Int32.ofInt (-1))) → bpat h_ 305 5 = some (.int od) → bpat h_ 305 6 = some (.int sh_) → bpat h_ 305 7 = some (.int bh) → (-20 ≤ s_.toInt ∧ s_.toInt ≤ 19) → (-20 ≤ b_.toInt ∧ b_.toInt ≤ 19) → (lo_ = [(5, .int (Int32.ofNat t_)), (0, .index 305), (1, .index 1), (2, .index 314), (3, .index 316), (4, .int nn)] ∨ ∃ y7 y6 : Int32, lo_ = [(5, .int (Int32.ofNat t_)), (7, .int y7), (6, .int y6), (0, .index 305), (1, .index 1), (2, .index 314), (3, .index 316), (4, .int nn)]) → ∃ h', (SX W_ V h' ∧ gof h_ h') ∧ ((bpat h' 305 2 = some (.int (bgn W_ V z_ y_ n_ t_ s_ b_ sh_ bh od).1) ∧ (bpat h' 305 3 = some (.int (bgn W_ V z_ y_ n_ t_ s_ b_ sh_ bh od).2.1) ∧ (bpat h' 305 4 = some (.int (bgn W_ V z_ y_ n_ t_ s_ b_ sh_ bh od).2.2.1) ∧ bpat h' 305 5 = some (.int (bgn W_ V z_ y_ n_ t_ s_ b_ sh_ bh od).2.2.2)))) ∧ ∀ D_, 72 ≤ D_ → xrun D_ 2 3 lo_ [] h_ (none, h', [])) := by
  intro n_
  have zz : (0 : Int32).toInt = 0 := rfl
  induction n_ with
  | zero =>
    intro t_ s_ b_ sh_ bh od h_ lo_ hi_ H_ RA_ RB e2_ e3_ e4_ e5_ e6_ e7_ bs bb hd_
    rcases hd_ with rfl | ⟨y7, y6, rfl⟩
    · obtain ⟨h1, m1_, f1_, r1_⟩ := xgoXA (v4_ := nn) (v5 := Int32.ofNat t_) H_.1 (by rw [en, i32n (by omega), i32n (by omega)]; omega)
      exact ⟨h1, ⟨gof_S H_ (gof_a m1_ f1_), gof_a m1_ f1_⟩, ⟨(f1_ _ _).trans e2_, (f1_ _ _).trans e3_, (f1_ _ _).trans e4_, (f1_ _ _).trans e5_⟩, fun D_ hD => r1_ D_ (by omega)⟩
    · obtain ⟨h1, m1_, f1_, r1_⟩ := xgoXB (v4_ := nn) (v5 := Int32.ofNat t_) (v6 := y6) (v7 := y7) H_.1 (by rw [en, i32n (by omega), i32n (by omega)]; omega)
      exact ⟨h1, ⟨gof_S H_ (gof_a m1_ f1_), gof_a m1_ f1_⟩, ⟨(f1_ _ _).trans e2_, (f1_ _ _).trans e3_, (f1_ _ _).trans e4_, (f1_ _ _).trans e5_⟩, fun D_ hD => r1_ D_ (by omega)⟩
  | succ n_ ih_ =>
    intro t_ s_ b_ sh_ bh od h_ lo_ hi_ H_ RA_ RB e2_ e3_ e4_ e5_ e6_ e7_ bs bb hd_
    rcases hd_ with rfl | ⟨y7, y6, rfl⟩
    · obtain ⟨h1, m1_, f1_, ld1⟩ := xgoTA (v4_ := nn) (v5 := Int32.ofNat t_) (v302 := s_) (v307 := bh) (v304 := Int32.ofInt (-1)) H_.1 e4_ e2_ e7_ (by decide) (by rw [en, i32n (by omega), i32n (by omega)]; omega)
      have H1_ := gof_S H_ (gof_a m1_ f1_)
      obtain ⟨h2, F2, r2⟩ := nhX (o := s_) (a_ := bh) K_ H1_ (Or.inl ⟨rfl, rfl⟩) gz (rwx_keep RA_ m1_ (fun c_ j_ _ => f1_ c_ j_)) bs.1 bs.2
      have ld2 := ycv (d_ := 68) (mi := 2) (pc := 29) (cm := 3) (lo_ := [(5, .int (Int32.ofNat t_)), (0, .index 305), (1, .index 1), (2, .index 314), (3, .index 316), (4, .int nn)]) (st_ := [.int bh, .index 314, .int s_, .index 1, .index 305, .index 305]) (as_ := [.index 1, .int s_, .index 314, .int bh]) (s' := [.index 305]) rfl rfl (bcq_of (n_ := 305) (z_ := (0, 8)) H1_.1 rfl) rfl (xcc_l (List.forall_mem_cons.mpr ⟨rfl, List.forall_mem_cons.mpr ⟨xidx_i (bcq_lt (bcq_of (n_ := 305) (z_ := (0, 8)) H1_.1 rfl)), List.forall_mem_cons.mpr ⟨xidx_i (bcq_lt (bcq_of (n_ := 1) (z_ := (10, 15)) H1_.1 rfl)), List.forall_mem_cons.mpr ⟨xidx_i (bcq_lt (bcq_of (n_ := 314) (z_ := (6, 2)) H1_.1 rfl)), List.forall_mem_cons.mpr ⟨xidx_i (bcq_lt (bcq_of (n_ := 316) (z_ := (6, 2)) H1_.1 rfl)), List.forall_mem_cons.mpr ⟨rfl, fun q_ hq => absurd hq List.not_mem_nil⟩⟩⟩⟩⟩⟩) (List.forall_mem_cons.mpr ⟨⟨xidx_i (bcq_lt (bcq_of (n_ := 305) (z_ := (0, 8)) H1_.1 rfl)), rfl⟩, fun t_ ht => absurd ht List.not_mem_nil⟩) (Nat.le_of_ble_eq_true rfl)) r2
      have H2_ := gof_S H1_ (nhf_g F2)
      have fd_ : ∀ j_, bpat h2 305 j_ = bpat h_ 305 j_ := fun j_ => (F2.2 305 j_ (by omega) (by omega) (by omega) (by omega)).trans (f1_ 305 j_)
      obtain ⟨h3, m3_, w3_, f3_, ld3⟩ := xgoUA (v4_ := nn) (v5 := Int32.ofNat t_) (v8 := numH W_ V z_ s_ bh) (v303 := b_) (v306 := sh_) H2_.1 ((fd_ 3).trans e3_) ((fd_ 6).trans e6_)
      have G3 : gof h2 h3 := ⟨m3_, fun c_ j_ q1_ _ _ _ => f3_ c_ j_ (by omega)⟩
      have H3 := gof_S H2_ G3
      have G13 : gof h_ h3 := gof_t (gof_a m1_ f1_) (gof_t (nhf_g F2) G3)
      obtain ⟨h4, F4, r4⟩ := nhX (o := b_) (a_ := sh_) K_ H3 (Or.inr ⟨rfl, rfl⟩) gy (rwx_keep RB G13.1 (fun c_ j_ q_ => G13.2 c_ j_ (by omega) (by omega) (by omega) (by omega))) bb.1 bb.2
      have ld4 := ycv (d_ := 68) (mi := 2) (pc := 47) (cm := 3) (lo_ := [(5, .int (Int32.ofNat t_)), (0, .index 305), (1, .index 1), (2, .index 314), (3, .index 316), (4, .int nn)]) (st_ := [.int sh_, .index 316, .int b_, .index 1, .index 305, .index 305]) (as_ := [.index 1, .int b_, .index 316, .int sh_]) (s' := [.index 305]) rfl rfl (bcq_of (n_ := 305) (z_ := (0, 8)) H3.1 rfl) rfl (xcc_l (List.forall_mem_cons.mpr ⟨rfl, List.forall_mem_cons.mpr ⟨xidx_i (bcq_lt (bcq_of (n_ := 305) (z_ := (0, 8)) H3.1 rfl)), List.forall_mem_cons.mpr ⟨xidx_i (bcq_lt (bcq_of (n_ := 1) (z_ := (10, 15)) H3.1 rfl)), List.forall_mem_cons.mpr ⟨xidx_i (bcq_lt (bcq_of (n_ := 314) (z_ := (6, 2)) H3.1 rfl)), List.forall_mem_cons.mpr ⟨xidx_i (bcq_lt (bcq_of (n_ := 316) (z_ := (6, 2)) H3.1 rfl)), List.forall_mem_cons.mpr ⟨rfl, fun q_ hq => absurd hq List.not_mem_nil⟩⟩⟩⟩⟩⟩) (List.forall_mem_cons.mpr ⟨⟨xidx_i (bcq_lt (bcq_of (n_ := 305) (z_ := (0, 8)) H3.1 rfl)), rfl⟩, fun t_ ht => absurd ht List.not_mem_nil⟩) (Nat.le_of_ble_eq_true rfl)) r4
      have H4 := gof_S H3 (nhf_g F4)
      have g4 : ∀ j_, ¬ j_ = 7 → bpat h4 305 j_ = bpat h_ 305 j_ := fun j_ q_ => (F4.2 305 j_ (by omega) (by omega) (by omega) (by omega)).trans ((f3_ 305 j_ (by omega)).trans (fd_ j_))
      by_cases P_ : (numH W_ V z_ s_ bh).toInt ≤ b_.toInt
      · by_cases Q_ : s_.toInt ≤ (numH W_ V y_ b_ sh_).toInt
        · obtain ⟨h5, m5_, w4_, w6_, f5_, ld5⟩ := xgoV5A (v4_ := nn) (v5 := Int32.ofNat t_) (v8 := numH W_ V y_ b_ sh_) (v302 := s_) (v303 := b_) (v307 := numH W_ V z_ s_ bh) H4.1 ((g4 3 (by omega)).trans e3_) ((F4.2 305 7 (by omega) (by omega) (by omega) (by omega)).trans w3_) ((g4 2 (by omega)).trans e2_) (by omega) (by omega)
          rw [i32s] at ld5
          have eb : bgn W_ V z_ y_ (n_ + 1) t_ s_ b_ sh_ bh od = (s_, b_, Int32.ofNat t_, od) := pif_t ⟨P_, Q_⟩
          have G5 : gof h4 h5 := ⟨m5_, fun c_ j_ q1_ _ _ _ => f5_ c_ j_ (by omega) (by omega)⟩
          have it := i32n (i_ := t_) (by omega)
          have it1 := i32n (i_ := t_ + 1) (by omega)
          have xit : ∃ h6, (ysm h5 h6 ∧ ∀ c_ j_, bpat h6 c_ j_ = bpat h5 c_ j_) ∧ ∀ D_, 60 ≤ D_ → xrun D_ 2 3 [(5, .int (Int32.ofNat (t_ + 1))), (7, .int 1), (6, .int 1), (0, .index 305), (1, .index 1), (2, .index 314), (3, .index 316), (4, .int nn)] [] h5 (none, h6, []) := by
            by_cases ge : t_ + 1 = N_
            · obtain ⟨h6, m6_, f6_, r6⟩ := xgoXB (v4_ := nn) (v5 := Int32.ofNat (t_ + 1)) (v6 := 1) (v7 := 1) m5_.1 (by rw [en, it1, i32n (by omega)]; omega)
              exact ⟨h6, ⟨m6_, f6_⟩, r6⟩
            · obtain ⟨h6, m6_, f6_, r6⟩ := xgoY (v4_ := nn) (v5 := Int32.ofNat (t_ + 1)) (v6 := 1) (v7 := 1) (v304 := Int32.ofNat t_) m5_.1 w4_ (by rw [it]; have e0_ : (0 : Int32).toInt = 0 := rfl; omega) (by rw [en, it1, i32n (by omega)]; omega)
              exact ⟨h6, ⟨m6_, f6_⟩, r6⟩
          obtain ⟨h6, ⟨m6_, f6_⟩, r6⟩ := xit
          rw [eb]
          have G_ : gof h_ h6 := gof_t G13 (gof_t (nhf_g F4) (gof_t G5 (gof_a m6_ f6_)))
          exact ⟨h6, ⟨gof_S H_ G_, G_⟩, ⟨(f6_ _ _).trans ((f5_ _ _ (by omega) (by omega)).trans ((g4 2 (by omega)).trans e2_)), (f6_ _ _).trans ((f5_ _ _ (by omega) (by omega)).trans ((g4 3 (by omega)).trans e3_)), (f6_ _ _).trans w4_, (f6_ _ _).trans ((f5_ _ _ (by omega) (by omega)).trans ((g4 5 (by omega)).trans e5_))⟩, fun D_ hD => ld1 D_ (by omega) _ (ld2 D_ (by omega) _ (ld3 D_ (by omega) _ (ld4 D_ (by omega) _ (ld5 D_ (by omega) _ (r6 D_ (by omega))))))⟩
        · by_cases O_ : od.toInt < 0
          · obtain ⟨h5, m5_, w5, w6_, f5_, ld5⟩ := xgoV3A (v4_ := nn) (v5 := Int32.ofNat t_) (v8 := numH W_ V y_ b_ sh_) (v302 := s_) (v303 := b_) (v307 := numH W_ V z_ s_ bh) (v305 := od) H4.1 ((g4 3 (by omega)).trans e3_) ((F4.2 305 7 (by omega) (by omega) (by omega) (by omega)).trans w3_) ((g4 2 (by omega)).trans e2_) ((g4 5 (by omega)).trans e5_) (by rw [zz]; omega) (by omega) (by omega)
            have G5 : gof h4 h5 := ⟨m5_, fun c_ j_ q1_ _ _ _ => f5_ c_ j_ (by omega) (by omega)⟩
            have H5 := gof_S H4 G5
            have fe : ∀ j_, ¬ j_ = 5 → ¬ j_ = 6 → bpat h5 305 j_ = bpat h4 305 j_ := fun j_ q5_ q6_ => f5_ 305 j_ (by omega) (by omega)
            obtain ⟨h6, G6, ⟨u2_, u3, u_⟩, ld6⟩ := go_n01 (nn := nn) (t_ := Int32.ofNat t_) K_ H5 ((fe 2 (by omega) (by omega)).trans ((g4 2 (by omega)).trans e2_)) ((fe 3 (by omega) (by omega)).trans ((g4 3 (by omega)).trans e3_)) w6_ ((fe 7 (by omega) (by omega)).trans ((F4.2 305 7 (by omega) (by omega) (by omega) (by omega)).trans w3_))
            rw [i32s] at ld6
            have ov : bpat h6 305 5 = some (.int (odF od (Int32.ofNat t_) ((numH W_ V z_ s_ bh).toInt ≤ b_.toInt) (s_.toInt ≤ (numH W_ V y_ b_ sh_).toInt))) := by
              rw [u_ 5 (by omega) (by omega)]
              rw [w5]
              unfold odF
              rw [pif_t ⟨by omega, by omega⟩]
            have eb : bgn W_ V z_ y_ (n_ + 1) t_ s_ b_ sh_ bh od = bgn W_ V z_ y_ n_ (t_ + 1) (nof W_ s_ (numH W_ V y_ b_ sh_) 0 (Int32.ofNat t_)) (nof W_ b_ (numH W_ V z_ s_ bh) 1 (Int32.ofNat t_)) (numH W_ V y_ b_ sh_) (numH W_ V z_ s_ bh) (odF od (Int32.ofNat t_) ((numH W_ V z_ s_ bh).toInt ≤ b_.toInt) (s_.toInt ≤ (numH W_ V y_ b_ sh_).toInt)) := pif_f (fun q_ => by omega)
            have G_ : gof h_ h6 := gof_t (gof_a m1_ f1_) (gof_t (nhf_g F2) (gof_t G3 (gof_t (nhf_g F4) (gof_t G5 G6))))
            obtain ⟨h7, ⟨H7, G7⟩, E7, r7⟩ := ih_ (t_ + 1) _ _ _ _ _ h6 _ (by omega) (gof_S H5 G6) (rwx_keep RA_ G_.1 (fun c_ j_ q_ => G_.2 c_ j_ (by omega) (by omega) (by omega) (by omega))) (rwx_keep RB G_.1 (fun c_ j_ q_ => G_.2 c_ j_ (by omega) (by omega) (by omega) (by omega))) u2_ u3 ((u_ 4 (by omega) (by omega)).trans ((fe 4 (by omega) (by omega)).trans ((g4 4 (by omega)).trans e4_))) ov ((u_ 6 (by omega) (by omega)).trans w6_) ((u_ 7 (by omega) (by omega)).trans ((fe 7 (by omega) (by omega)).trans ((F4.2 305 7 (by omega) (by omega) (by omega) (by omega)).trans w3_))) hld_b hld_b (Or.inr ⟨_, _, rfl⟩)
            rw [← eb] at E7
            exact ⟨h7, ⟨H7, gof_t G_ G7⟩, E7, fun D_ hD => ld1 D_ (by omega) _ (ld2 D_ (by omega) _ (ld3 D_ (by omega) _ (ld4 D_ (by omega) _ (ld5 D_ (by omega) _ (ld6 D_ (by omega) _ (r7 D_ hD))))))⟩
          · obtain ⟨h5, m5_, w6_, f5_, ld5⟩ := xgoV4A (v4_ := nn) (v5 := Int32.ofNat t_) (v8 := numH W_ V y_ b_ sh_) (v302 := s_) (v303 := b_) (v307 := numH W_ V z_ s_ bh) (v305 := od) H4.1 ((g4 3 (by omega)).trans e3_) ((F4.2 305 7 (by omega) (by omega) (by omega) (by omega)).trans w3_) ((g4 2 (by omega)).trans e2_) ((g4 5 (by omega)).trans e5_) (by rw [zz]; omega) (by omega) (by omega)
            have G5 : gof h4 h5 := ⟨m5_, fun c_ j_ q1_ _ _ _ => f5_ c_ j_ (by omega)⟩
            have H5 := gof_S H4 G5
            have fe : ∀ j_, ¬ j_ = 5 → ¬ j_ = 6 → bpat h5 305 j_ = bpat h4 305 j_ := fun j_ q5_ q6_ => f5_ 305 j_ (by omega)
            obtain ⟨h6, G6, ⟨u2_, u3, u_⟩, ld6⟩ := go_n01 (nn := nn) (t_ := Int32.ofNat t_) K_ H5 ((fe 2 (by omega) (by omega)).trans ((g4 2 (by omega)).trans e2_)) ((fe 3 (by omega) (by omega)).trans ((g4 3 (by omega)).trans e3_)) w6_ ((fe 7 (by omega) (by omega)).trans ((F4.2 305 7 (by omega) (by omega) (by omega) (by omega)).trans w3_))
            rw [i32s] at ld6
            have ov : bpat h6 305 5 = some (.int (odF od (Int32.ofNat t_) ((numH W_ V z_ s_ bh).toInt ≤ b_.toInt) (s_.toInt ≤ (numH W_ V y_ b_ sh_).toInt))) := by
              rw [u_ 5 (by omega) (by omega)]
              rw [f5_ 305 5 (by omega), g4 5 (by omega), e5_]
              unfold odF
              rw [pif_f (fun q_ => by omega)]
            have eb : bgn W_ V z_ y_ (n_ + 1) t_ s_ b_ sh_ bh od = bgn W_ V z_ y_ n_ (t_ + 1) (nof W_ s_ (numH W_ V y_ b_ sh_) 0 (Int32.ofNat t_)) (nof W_ b_ (numH W_ V z_ s_ bh) 1 (Int32.ofNat t_)) (numH W_ V y_ b_ sh_) (numH W_ V z_ s_ bh) (odF od (Int32.ofNat t_) ((numH W_ V z_ s_ bh).toInt ≤ b_.toInt) (s_.toInt ≤ (numH W_ V y_ b_ sh_).toInt)) := pif_f (fun q_ => by omega)
            have G_ : gof h_ h6 := gof_t (gof_a m1_ f1_) (gof_t (nhf_g F2) (gof_t G3 (gof_t (nhf_g F4) (gof_t G5 G6))))
            obtain ⟨h7, ⟨H7, G7⟩, E7, r7⟩ := ih_ (t_ + 1) _ _ _ _ _ h6 _ (by omega) (gof_S H5 G6) (rwx_keep RA_ G_.1 (fun c_ j_ q_ => G_.2 c_ j_ (by omega) (by omega) (by omega) (by omega))) (rwx_keep RB G_.1 (fun c_ j_ q_ => G_.2 c_ j_ (by omega) (by omega) (by omega) (by omega))) u2_ u3 ((u_ 4 (by omega) (by omega)).trans ((fe 4 (by omega) (by omega)).trans ((g4 4 (by omega)).trans e4_))) ov ((u_ 6 (by omega) (by omega)).trans w6_) ((u_ 7 (by omega) (by omega)).trans ((fe 7 (by omega) (by omega)).trans ((F4.2 305 7 (by omega) (by omega) (by omega) (by omega)).trans w3_))) hld_b hld_b (Or.inr ⟨_, _, rfl⟩)
            rw [← eb] at E7
            exact ⟨h7, ⟨H7, gof_t G_ G7⟩, E7, fun D_ hD => ld1 D_ (by omega) _ (ld2 D_ (by omega) _ (ld3 D_ (by omega) _ (ld4 D_ (by omega) _ (ld5 D_ (by omega) _ (ld6 D_ (by omega) _ (r7 D_ hD))))))⟩
      · by_cases Q_ : s_.toInt ≤ (numH W_ V y_ b_ sh_).toInt
        · by_cases O_ : od.toInt < 0
          · obtain ⟨h5, m5_, w5, w6_, f5_, ld5⟩ := xgoV1A (v4_ := nn) (v5 := Int32.ofNat t_) (v8 := numH W_ V y_ b_ sh_) (v302 := s_) (v303 := b_) (v307 := numH W_ V z_ s_ bh) (v305 := od) H4.1 ((g4 3 (by omega)).trans e3_) ((F4.2 305 7 (by omega) (by omega) (by omega) (by omega)).trans w3_) ((g4 2 (by omega)).trans e2_) ((g4 5 (by omega)).trans e5_) (by rw [zz]; omega) (by omega) (by omega)
            have G5 : gof h4 h5 := ⟨m5_, fun c_ j_ q1_ _ _ _ => f5_ c_ j_ (by omega) (by omega)⟩
            have H5 := gof_S H4 G5
            have fe : ∀ j_, ¬ j_ = 5 → ¬ j_ = 6 → bpat h5 305 j_ = bpat h4 305 j_ := fun j_ q5_ q6_ => f5_ 305 j_ (by omega) (by omega)
            obtain ⟨h6, G6, ⟨u2_, u3, u_⟩, ld6⟩ := go_n10 (nn := nn) (t_ := Int32.ofNat t_) K_ H5 ((fe 2 (by omega) (by omega)).trans ((g4 2 (by omega)).trans e2_)) ((fe 3 (by omega) (by omega)).trans ((g4 3 (by omega)).trans e3_)) w6_ ((fe 7 (by omega) (by omega)).trans ((F4.2 305 7 (by omega) (by omega) (by omega) (by omega)).trans w3_))
            rw [i32s] at ld6
            have ov : bpat h6 305 5 = some (.int (odF od (Int32.ofNat t_) ((numH W_ V z_ s_ bh).toInt ≤ b_.toInt) (s_.toInt ≤ (numH W_ V y_ b_ sh_).toInt))) := by
              rw [u_ 5 (by omega) (by omega)]
              rw [w5]
              unfold odF
              rw [pif_t ⟨by omega, by omega⟩]
            have eb : bgn W_ V z_ y_ (n_ + 1) t_ s_ b_ sh_ bh od = bgn W_ V z_ y_ n_ (t_ + 1) (nof W_ s_ (numH W_ V y_ b_ sh_) 0 (Int32.ofNat t_)) (nof W_ b_ (numH W_ V z_ s_ bh) 1 (Int32.ofNat t_)) (numH W_ V y_ b_ sh_) (numH W_ V z_ s_ bh) (odF od (Int32.ofNat t_) ((numH W_ V z_ s_ bh).toInt ≤ b_.toInt) (s_.toInt ≤ (numH W_ V y_ b_ sh_).toInt)) := pif_f (fun q_ => by omega)
            have G_ : gof h_ h6 := gof_t (gof_a m1_ f1_) (gof_t (nhf_g F2) (gof_t G3 (gof_t (nhf_g F4) (gof_t G5 G6))))
            obtain ⟨h7, ⟨H7, G7⟩, E7, r7⟩ := ih_ (t_ + 1) _ _ _ _ _ h6 _ (by omega) (gof_S H5 G6) (rwx_keep RA_ G_.1 (fun c_ j_ q_ => G_.2 c_ j_ (by omega) (by omega) (by omega) (by omega))) (rwx_keep RB G_.1 (fun c_ j_ q_ => G_.2 c_ j_ (by omega) (by omega) (by omega) (by omega))) u2_ u3 ((u_ 4 (by omega) (by omega)).trans ((fe 4 (by omega) (by omega)).trans ((g4 4 (by omega)).trans e4_))) ov ((u_ 6 (by omega) (by omega)).trans w6_) ((u_ 7 (by omega) (by omega)).trans ((fe 7 (by omega) (by omega)).trans ((F4.2 305 7 (by omega) (by omega) (by omega) (by omega)).trans w3_))) hld_b hld_b (Or.inr ⟨_, _, rfl⟩)
            rw [← eb] at E7
            exact ⟨h7, ⟨H7, gof_t G_ G7⟩, E7, fun D_ hD => ld1 D_ (by omega) _ (ld2 D_ (by omega) _ (ld3 D_ (by omega) _ (ld4 D_ (by omega) _ (ld5 D_ (by omega) _ (ld6 D_ (by omega) _ (r7 D_ hD))))))⟩
          · obtain ⟨h5, m5_, w6_, f5_, ld5⟩ := xgoV2A (v4_ := nn) (v5 := Int32.ofNat t_) (v8 := numH W_ V y_ b_ sh_) (v302 := s_) (v303 := b_) (v307 := numH W_ V z_ s_ bh) (v305 := od) H4.1 ((g4 3 (by omega)).trans e3_) ((F4.2 305 7 (by omega) (by omega) (by omega) (by omega)).trans w3_) ((g4 2 (by omega)).trans e2_) ((g4 5 (by omega)).trans e5_) (by rw [zz]; omega) (by omega) (by omega)
            have G5 : gof h4 h5 := ⟨m5_, fun c_ j_ q1_ _ _ _ => f5_ c_ j_ (by omega)⟩
            have H5 := gof_S H4 G5
            have fe : ∀ j_, ¬ j_ = 5 → ¬ j_ = 6 → bpat h5 305 j_ = bpat h4 305 j_ := fun j_ q5_ q6_ => f5_ 305 j_ (by omega)
            obtain ⟨h6, G6, ⟨u2_, u3, u_⟩, ld6⟩ := go_n10 (nn := nn) (t_ := Int32.ofNat t_) K_ H5 ((fe 2 (by omega) (by omega)).trans ((g4 2 (by omega)).trans e2_)) ((fe 3 (by omega) (by omega)).trans ((g4 3 (by omega)).trans e3_)) w6_ ((fe 7 (by omega) (by omega)).trans ((F4.2 305 7 (by omega) (by omega) (by omega) (by omega)).trans w3_))
            rw [i32s] at ld6
            have ov : bpat h6 305 5 = some (.int (odF od (Int32.ofNat t_) ((numH W_ V z_ s_ bh).toInt ≤ b_.toInt) (s_.toInt ≤ (numH W_ V y_ b_ sh_).toInt))) := by
              rw [u_ 5 (by omega) (by omega)]
              rw [f5_ 305 5 (by omega), g4 5 (by omega), e5_]
              unfold odF
              rw [pif_f (fun q_ => by omega)]
            have eb : bgn W_ V z_ y_ (n_ + 1) t_ s_ b_ sh_ bh od = bgn W_ V z_ y_ n_ (t_ + 1) (nof W_ s_ (numH W_ V y_ b_ sh_) 0 (Int32.ofNat t_)) (nof W_ b_ (numH W_ V z_ s_ bh) 1 (Int32.ofNat t_)) (numH W_ V y_ b_ sh_) (numH W_ V z_ s_ bh) (odF od (Int32.ofNat t_) ((numH W_ V z_ s_ bh).toInt ≤ b_.toInt) (s_.toInt ≤ (numH W_ V y_ b_ sh_).toInt)) := pif_f (fun q_ => by omega)
            have G_ : gof h_ h6 := gof_t (gof_a m1_ f1_) (gof_t (nhf_g F2) (gof_t G3 (gof_t (nhf_g F4) (gof_t G5 G6))))
            obtain ⟨h7, ⟨H7, G7⟩, E7, r7⟩ := ih_ (t_ + 1) _ _ _ _ _ h6 _ (by omega) (gof_S H5 G6) (rwx_keep RA_ G_.1 (fun c_ j_ q_ => G_.2 c_ j_ (by omega) (by omega) (by omega) (by omega))) (rwx_keep RB G_.1 (fun c_ j_ q_ => G_.2 c_ j_ (by omega) (by omega) (by omega) (by omega))) u2_ u3 ((u_ 4 (by omega) (by omega)).trans ((fe 4 (by omega) (by omega)).trans ((g4 4 (by omega)).trans e4_))) ov ((u_ 6 (by omega) (by omega)).trans w6_) ((u_ 7 (by omega) (by omega)).trans ((fe 7 (by omega) (by omega)).trans ((F4.2 305 7 (by omega) (by omega) (by omega) (by omega)).trans w3_))) hld_b hld_b (Or.inr ⟨_, _, rfl⟩)
            rw [← eb] at E7
            exact ⟨h7, ⟨H7, gof_t G_ G7⟩, E7, fun D_ hD => ld1 D_ (by omega) _ (ld2 D_ (by omega) _ (ld3 D_ (by omega) _ (ld4 D_ (by omega) _ (ld5 D_ (by omega) _ (ld6 D_ (by omega) _ (r7 D_ hD))))))⟩
        · obtain ⟨h5, m5_, w6_, f5_, ld5⟩ := xgoV0A (v4_ := nn) (v5 := Int32.ofNat t_) (v8 := numH W_ V y_ b_ sh_) (v302 := s_) (v303 := b_) (v307 := numH W_ V z_ s_ bh) H4.1 ((g4 3 (by omega)).trans e3_) ((F4.2 305 7 (by omega) (by omega) (by omega) (by omega)).trans w3_) ((g4 2 (by omega)).trans e2_) (by omega) (by omega)
          have G5 : gof h4 h5 := ⟨m5_, fun c_ j_ q1_ _ _ _ => f5_ c_ j_ (by omega)⟩
          have H5 := gof_S H4 G5
          have fe : ∀ j_, ¬ j_ = 5 → ¬ j_ = 6 → bpat h5 305 j_ = bpat h4 305 j_ := fun j_ q5_ q6_ => f5_ 305 j_ (by omega)
          obtain ⟨h6, G6, ⟨u2_, u3, u_⟩, ld6⟩ := go_n00 (nn := nn) (t_ := Int32.ofNat t_) K_ H5 ((fe 2 (by omega) (by omega)).trans ((g4 2 (by omega)).trans e2_)) ((fe 3 (by omega) (by omega)).trans ((g4 3 (by omega)).trans e3_)) w6_ ((fe 7 (by omega) (by omega)).trans ((F4.2 305 7 (by omega) (by omega) (by omega) (by omega)).trans w3_))
          rw [i32s] at ld6
          have ov : bpat h6 305 5 = some (.int (odF od (Int32.ofNat t_) ((numH W_ V z_ s_ bh).toInt ≤ b_.toInt) (s_.toInt ≤ (numH W_ V y_ b_ sh_).toInt))) := by
            rw [u_ 5 (by omega) (by omega)]
            rw [f5_ 305 5 (by omega), g4 5 (by omega), e5_]
            unfold odF
            rw [pif_f (fun q_ => by omega)]
          have eb : bgn W_ V z_ y_ (n_ + 1) t_ s_ b_ sh_ bh od = bgn W_ V z_ y_ n_ (t_ + 1) (nof W_ s_ (numH W_ V y_ b_ sh_) 0 (Int32.ofNat t_)) (nof W_ b_ (numH W_ V z_ s_ bh) 1 (Int32.ofNat t_)) (numH W_ V y_ b_ sh_) (numH W_ V z_ s_ bh) (odF od (Int32.ofNat t_) ((numH W_ V z_ s_ bh).toInt ≤ b_.toInt) (s_.toInt ≤ (numH W_ V y_ b_ sh_).toInt)) := pif_f (fun q_ => by omega)
          have G_ : gof h_ h6 := gof_t (gof_a m1_ f1_) (gof_t (nhf_g F2) (gof_t G3 (gof_t (nhf_g F4) (gof_t G5 G6))))
          obtain ⟨h7, ⟨H7, G7⟩, E7, r7⟩ := ih_ (t_ + 1) _ _ _ _ _ h6 _ (by omega) (gof_S H5 G6) (rwx_keep RA_ G_.1 (fun c_ j_ q_ => G_.2 c_ j_ (by omega) (by omega) (by omega) (by omega))) (rwx_keep RB G_.1 (fun c_ j_ q_ => G_.2 c_ j_ (by omega) (by omega) (by omega) (by omega))) u2_ u3 ((u_ 4 (by omega) (by omega)).trans ((fe 4 (by omega) (by omega)).trans ((g4 4 (by omega)).trans e4_))) ov ((u_ 6 (by omega) (by omega)).trans w6_) ((u_ 7 (by omega) (by omega)).trans ((fe 7 (by omega) (by omega)).trans ((F4.2 305 7 (by omega) (by omega) (by omega) (by omega)).trans w3_))) hld_b hld_b (Or.inr ⟨_, _, rfl⟩)
          rw [← eb] at E7
          exact ⟨h7, ⟨H7, gof_t G_ G7⟩, E7, fun D_ hD => ld1 D_ (by omega) _ (ld2 D_ (by omega) _ (ld3 D_ (by omega) _ (ld4 D_ (by omega) _ (ld5 D_ (by omega) _ (ld6 D_ (by omega) _ (r7 D_ hD))))))⟩
    · obtain ⟨h1, m1_, f1_, ld1⟩ := xgoTB (v4_ := nn) (v5 := Int32.ofNat t_) (v6 := y6) (v7 := y7) (v302 := s_) (v307 := bh) (v304 := Int32.ofInt (-1)) H_.1 e4_ e2_ e7_ (by decide) (by rw [en, i32n (by omega), i32n (by omega)]; omega)
      have H1_ := gof_S H_ (gof_a m1_ f1_)
      obtain ⟨h2, F2, r2⟩ := nhX (o := s_) (a_ := bh) K_ H1_ (Or.inl ⟨rfl, rfl⟩) gz (rwx_keep RA_ m1_ (fun c_ j_ _ => f1_ c_ j_)) bs.1 bs.2
      have ld2 := ycv (d_ := 68) (mi := 2) (pc := 29) (cm := 3) (lo_ := [(5, .int (Int32.ofNat t_)), (7, .int y7), (6, .int y6), (0, .index 305), (1, .index 1), (2, .index 314), (3, .index 316), (4, .int nn)]) (st_ := [.int bh, .index 314, .int s_, .index 1, .index 305, .index 305]) (as_ := [.index 1, .int s_, .index 314, .int bh]) (s' := [.index 305]) rfl rfl (bcq_of (n_ := 305) (z_ := (0, 8)) H1_.1 rfl) rfl (xcc_l (List.forall_mem_cons.mpr ⟨rfl, List.forall_mem_cons.mpr ⟨rfl, List.forall_mem_cons.mpr ⟨rfl, List.forall_mem_cons.mpr ⟨xidx_i (bcq_lt (bcq_of (n_ := 305) (z_ := (0, 8)) H1_.1 rfl)), List.forall_mem_cons.mpr ⟨xidx_i (bcq_lt (bcq_of (n_ := 1) (z_ := (10, 15)) H1_.1 rfl)), List.forall_mem_cons.mpr ⟨xidx_i (bcq_lt (bcq_of (n_ := 314) (z_ := (6, 2)) H1_.1 rfl)), List.forall_mem_cons.mpr ⟨xidx_i (bcq_lt (bcq_of (n_ := 316) (z_ := (6, 2)) H1_.1 rfl)), List.forall_mem_cons.mpr ⟨rfl, fun q_ hq => absurd hq List.not_mem_nil⟩⟩⟩⟩⟩⟩⟩⟩) (List.forall_mem_cons.mpr ⟨⟨xidx_i (bcq_lt (bcq_of (n_ := 305) (z_ := (0, 8)) H1_.1 rfl)), rfl⟩, fun t_ ht => absurd ht List.not_mem_nil⟩) (Nat.le_of_ble_eq_true rfl)) r2
      have H2_ := gof_S H1_ (nhf_g F2)
      have fd_ : ∀ j_, bpat h2 305 j_ = bpat h_ 305 j_ := fun j_ => (F2.2 305 j_ (by omega) (by omega) (by omega) (by omega)).trans (f1_ 305 j_)
      obtain ⟨h3, m3_, w3_, f3_, ld3⟩ := xgoUB (v4_ := nn) (v5 := Int32.ofNat t_) (v6 := y6) (v7 := y7) (v8 := numH W_ V z_ s_ bh) (v303 := b_) (v306 := sh_) H2_.1 ((fd_ 3).trans e3_) ((fd_ 6).trans e6_)
      have G3 : gof h2 h3 := ⟨m3_, fun c_ j_ q1_ _ _ _ => f3_ c_ j_ (by omega)⟩
      have H3 := gof_S H2_ G3
      have G13 : gof h_ h3 := gof_t (gof_a m1_ f1_) (gof_t (nhf_g F2) G3)
      obtain ⟨h4, F4, r4⟩ := nhX (o := b_) (a_ := sh_) K_ H3 (Or.inr ⟨rfl, rfl⟩) gy (rwx_keep RB G13.1 (fun c_ j_ q_ => G13.2 c_ j_ (by omega) (by omega) (by omega) (by omega))) bb.1 bb.2
      have ld4 := ycv (d_ := 68) (mi := 2) (pc := 47) (cm := 3) (lo_ := [(5, .int (Int32.ofNat t_)), (7, .int y7), (6, .int y6), (0, .index 305), (1, .index 1), (2, .index 314), (3, .index 316), (4, .int nn)]) (st_ := [.int sh_, .index 316, .int b_, .index 1, .index 305, .index 305]) (as_ := [.index 1, .int b_, .index 316, .int sh_]) (s' := [.index 305]) rfl rfl (bcq_of (n_ := 305) (z_ := (0, 8)) H3.1 rfl) rfl (xcc_l (List.forall_mem_cons.mpr ⟨rfl, List.forall_mem_cons.mpr ⟨rfl, List.forall_mem_cons.mpr ⟨rfl, List.forall_mem_cons.mpr ⟨xidx_i (bcq_lt (bcq_of (n_ := 305) (z_ := (0, 8)) H3.1 rfl)), List.forall_mem_cons.mpr ⟨xidx_i (bcq_lt (bcq_of (n_ := 1) (z_ := (10, 15)) H3.1 rfl)), List.forall_mem_cons.mpr ⟨xidx_i (bcq_lt (bcq_of (n_ := 314) (z_ := (6, 2)) H3.1 rfl)), List.forall_mem_cons.mpr ⟨xidx_i (bcq_lt (bcq_of (n_ := 316) (z_ := (6, 2)) H3.1 rfl)), List.forall_mem_cons.mpr ⟨rfl, fun q_ hq => absurd hq List.not_mem_nil⟩⟩⟩⟩⟩⟩⟩⟩) (List.forall_mem_cons.mpr ⟨⟨xidx_i (bcq_lt (bcq_of (n_ := 305) (z_ := (0, 8)) H3.1 rfl)), rfl⟩, fun t_ ht => absurd ht List.not_mem_nil⟩) (Nat.le_of_ble_eq_true rfl)) r4
      have H4 := gof_S H3 (nhf_g F4)
      have g4 : ∀ j_, ¬ j_ = 7 → bpat h4 305 j_ = bpat h_ 305 j_ := fun j_ q_ => (F4.2 305 j_ (by omega) (by omega) (by omega) (by omega)).trans ((f3_ 305 j_ (by omega)).trans (fd_ j_))
      by_cases P_ : (numH W_ V z_ s_ bh).toInt ≤ b_.toInt
      · by_cases Q_ : s_.toInt ≤ (numH W_ V y_ b_ sh_).toInt
        · obtain ⟨h5, m5_, w4_, w6_, f5_, ld5⟩ := xgoV5B (v4_ := nn) (v5 := Int32.ofNat t_) (v6 := y6) (v7 := y7) (v8 := numH W_ V y_ b_ sh_) (v302 := s_) (v303 := b_) (v307 := numH W_ V z_ s_ bh) H4.1 ((g4 3 (by omega)).trans e3_) ((F4.2 305 7 (by omega) (by omega) (by omega) (by omega)).trans w3_) ((g4 2 (by omega)).trans e2_) (by omega) (by omega)
          rw [i32s] at ld5
          have eb : bgn W_ V z_ y_ (n_ + 1) t_ s_ b_ sh_ bh od = (s_, b_, Int32.ofNat t_, od) := pif_t ⟨P_, Q_⟩
          have G5 : gof h4 h5 := ⟨m5_, fun c_ j_ q1_ _ _ _ => f5_ c_ j_ (by omega) (by omega)⟩
          have it := i32n (i_ := t_) (by omega)
          have it1 := i32n (i_ := t_ + 1) (by omega)
          have xit : ∃ h6, (ysm h5 h6 ∧ ∀ c_ j_, bpat h6 c_ j_ = bpat h5 c_ j_) ∧ ∀ D_, 60 ≤ D_ → xrun D_ 2 3 [(5, .int (Int32.ofNat (t_ + 1))), (7, .int 1), (6, .int 1), (0, .index 305), (1, .index 1), (2, .index 314), (3, .index 316), (4, .int nn)] [] h5 (none, h6, []) := by
            by_cases ge : t_ + 1 = N_
            · obtain ⟨h6, m6_, f6_, r6⟩ := xgoXB (v4_ := nn) (v5 := Int32.ofNat (t_ + 1)) (v6 := 1) (v7 := 1) m5_.1 (by rw [en, it1, i32n (by omega)]; omega)
              exact ⟨h6, ⟨m6_, f6_⟩, r6⟩
            · obtain ⟨h6, m6_, f6_, r6⟩ := xgoY (v4_ := nn) (v5 := Int32.ofNat (t_ + 1)) (v6 := 1) (v7 := 1) (v304 := Int32.ofNat t_) m5_.1 w4_ (by rw [it]; have e0_ : (0 : Int32).toInt = 0 := rfl; omega) (by rw [en, it1, i32n (by omega)]; omega)
              exact ⟨h6, ⟨m6_, f6_⟩, r6⟩
          obtain ⟨h6, ⟨m6_, f6_⟩, r6⟩ := xit
          rw [eb]
          have G_ : gof h_ h6 := gof_t G13 (gof_t (nhf_g F4) (gof_t G5 (gof_a m6_ f6_)))
          exact ⟨h6, ⟨gof_S H_ G_, G_⟩, ⟨(f6_ _ _).trans ((f5_ _ _ (by omega) (by omega)).trans ((g4 2 (by omega)).trans e2_)), (f6_ _ _).trans ((f5_ _ _ (by omega) (by omega)).trans ((g4 3 (by omega)).trans e3_)), (f6_ _ _).trans w4_, (f6_ _ _).trans ((f5_ _ _ (by omega) (by omega)).trans ((g4 5 (by omega)).trans e5_))⟩, fun D_ hD => ld1 D_ (by omega) _ (ld2 D_ (by omega) _ (ld3 D_ (by omega) _ (ld4 D_ (by omega) _ (ld5 D_ (by omega) _ (r6 D_ (by omega))))))⟩
        · by_cases O_ : od.toInt < 0
          · obtain ⟨h5, m5_, w5, w6_, f5_, ld5⟩ := xgoV3B (v4_ := nn) (v5 := Int32.ofNat t_) (v6 := y6) (v7 := y7) (v8 := numH W_ V y_ b_ sh_) (v302 := s_) (v303 := b_) (v307 := numH W_ V z_ s_ bh) (v305 := od) H4.1 ((g4 3 (by omega)).trans e3_) ((F4.2 305 7 (by omega) (by omega) (by omega) (by omega)).trans w3_) ((g4 2 (by omega)).trans e2_) ((g4 5 (by omega)).trans e5_) (by rw [zz]; omega) (by omega) (by omega)
            have G5 : gof h4 h5 := ⟨m5_, fun c_ j_ q1_ _ _ _ => f5_ c_ j_ (by omega) (by omega)⟩
            have H5 := gof_S H4 G5
            have fe : ∀ j_, ¬ j_ = 5 → ¬ j_ = 6 → bpat h5 305 j_ = bpat h4 305 j_ := fun j_ q5_ q6_ => f5_ 305 j_ (by omega) (by omega)
            obtain ⟨h6, G6, ⟨u2_, u3, u_⟩, ld6⟩ := go_n01 (nn := nn) (t_ := Int32.ofNat t_) K_ H5 ((fe 2 (by omega) (by omega)).trans ((g4 2 (by omega)).trans e2_)) ((fe 3 (by omega) (by omega)).trans ((g4 3 (by omega)).trans e3_)) w6_ ((fe 7 (by omega) (by omega)).trans ((F4.2 305 7 (by omega) (by omega) (by omega) (by omega)).trans w3_))
            rw [i32s] at ld6
            have ov : bpat h6 305 5 = some (.int (odF od (Int32.ofNat t_) ((numH W_ V z_ s_ bh).toInt ≤ b_.toInt) (s_.toInt ≤ (numH W_ V y_ b_ sh_).toInt))) := by
              rw [u_ 5 (by omega) (by omega)]
              rw [w5]
              unfold odF
              rw [pif_t ⟨by omega, by omega⟩]
            have eb : bgn W_ V z_ y_ (n_ + 1) t_ s_ b_ sh_ bh od = bgn W_ V z_ y_ n_ (t_ + 1) (nof W_ s_ (numH W_ V y_ b_ sh_) 0 (Int32.ofNat t_)) (nof W_ b_ (numH W_ V z_ s_ bh) 1 (Int32.ofNat t_)) (numH W_ V y_ b_ sh_) (numH W_ V z_ s_ bh) (odF od (Int32.ofNat t_) ((numH W_ V z_ s_ bh).toInt ≤ b_.toInt) (s_.toInt ≤ (numH W_ V y_ b_ sh_).toInt)) := pif_f (fun q_ => by omega)
            have G_ : gof h_ h6 := gof_t (gof_a m1_ f1_) (gof_t (nhf_g F2) (gof_t G3 (gof_t (nhf_g F4) (gof_t G5 G6))))
            obtain ⟨h7, ⟨H7, G7⟩, E7, r7⟩ := ih_ (t_ + 1) _ _ _ _ _ h6 _ (by omega) (gof_S H5 G6) (rwx_keep RA_ G_.1 (fun c_ j_ q_ => G_.2 c_ j_ (by omega) (by omega) (by omega) (by omega))) (rwx_keep RB G_.1 (fun c_ j_ q_ => G_.2 c_ j_ (by omega) (by omega) (by omega) (by omega))) u2_ u3 ((u_ 4 (by omega) (by omega)).trans ((fe 4 (by omega) (by omega)).trans ((g4 4 (by omega)).trans e4_))) ov ((u_ 6 (by omega) (by omega)).trans w6_) ((u_ 7 (by omega) (by omega)).trans ((fe 7 (by omega) (by omega)).trans ((F4.2 305 7 (by omega) (by omega) (by omega) (by omega)).trans w3_))) hld_b hld_b (Or.inr ⟨_, _, rfl⟩)
            rw [← eb] at E7
            exact ⟨h7, ⟨H7, gof_t G_ G7⟩, E7, fun D_ hD => ld1 D_ (by omega) _ (ld2 D_ (by omega) _ (ld3 D_ (by omega) _ (ld4 D_ (by omega) _ (ld5 D_ (by omega) _ (ld6 D_ (by omega) _ (r7 D_ hD))))))⟩
          · obtain ⟨h5, m5_, w6_, f5_, ld5⟩ := xgoV4B (v4_ := nn) (v5 := Int32.ofNat t_) (v6 := y6) (v7 := y7) (v8 := numH W_ V y_ b_ sh_) (v302 := s_) (v303 := b_) (v307 := numH W_ V z_ s_ bh) (v305 := od) H4.1 ((g4 3 (by omega)).trans e3_) ((F4.2 305 7 (by omega) (by omega) (by omega) (by omega)).trans w3_) ((g4 2 (by omega)).trans e2_) ((g4 5 (by omega)).trans e5_) (by rw [zz]; omega) (by omega) (by omega)
            have G5 : gof h4 h5 := ⟨m5_, fun c_ j_ q1_ _ _ _ => f5_ c_ j_ (by omega)⟩
            have H5 := gof_S H4 G5
            have fe : ∀ j_, ¬ j_ = 5 → ¬ j_ = 6 → bpat h5 305 j_ = bpat h4 305 j_ := fun j_ q5_ q6_ => f5_ 305 j_ (by omega)
            obtain ⟨h6, G6, ⟨u2_, u3, u_⟩, ld6⟩ := go_n01 (nn := nn) (t_ := Int32.ofNat t_) K_ H5 ((fe 2 (by omega) (by omega)).trans ((g4 2 (by omega)).trans e2_)) ((fe 3 (by omega) (by omega)).trans ((g4 3 (by omega)).trans e3_)) w6_ ((fe 7 (by omega) (by omega)).trans ((F4.2 305 7 (by omega) (by omega) (by omega) (by omega)).trans w3_))
            rw [i32s] at ld6
            have ov : bpat h6 305 5 = some (.int (odF od (Int32.ofNat t_) ((numH W_ V z_ s_ bh).toInt ≤ b_.toInt) (s_.toInt ≤ (numH W_ V y_ b_ sh_).toInt))) := by
              rw [u_ 5 (by omega) (by omega)]
              rw [f5_ 305 5 (by omega), g4 5 (by omega), e5_]
              unfold odF
              rw [pif_f (fun q_ => by omega)]
            have eb : bgn W_ V z_ y_ (n_ + 1) t_ s_ b_ sh_ bh od = bgn W_ V z_ y_ n_ (t_ + 1) (nof W_ s_ (numH W_ V y_ b_ sh_) 0 (Int32.ofNat t_)) (nof W_ b_ (numH W_ V z_ s_ bh) 1 (Int32.ofNat t_)) (numH W_ V y_ b_ sh_) (numH W_ V z_ s_ bh) (odF od (Int32.ofNat t_) ((numH W_ V z_ s_ bh).toInt ≤ b_.toInt) (s_.toInt ≤ (numH W_ V y_ b_ sh_).toInt)) := pif_f (fun q_ => by omega)
            have G_ : gof h_ h6 := gof_t (gof_a m1_ f1_) (gof_t (nhf_g F2) (gof_t G3 (gof_t (nhf_g F4) (gof_t G5 G6))))
            obtain ⟨h7, ⟨H7, G7⟩, E7, r7⟩ := ih_ (t_ + 1) _ _ _ _ _ h6 _ (by omega) (gof_S H5 G6) (rwx_keep RA_ G_.1 (fun c_ j_ q_ => G_.2 c_ j_ (by omega) (by omega) (by omega) (by omega))) (rwx_keep RB G_.1 (fun c_ j_ q_ => G_.2 c_ j_ (by omega) (by omega) (by omega) (by omega))) u2_ u3 ((u_ 4 (by omega) (by omega)).trans ((fe 4 (by omega) (by omega)).trans ((g4 4 (by omega)).trans e4_))) ov ((u_ 6 (by omega) (by omega)).trans w6_) ((u_ 7 (by omega) (by omega)).trans ((fe 7 (by omega) (by omega)).trans ((F4.2 305 7 (by omega) (by omega) (by omega) (by omega)).trans w3_))) hld_b hld_b (Or.inr ⟨_, _, rfl⟩)
            rw [← eb] at E7
            exact ⟨h7, ⟨H7, gof_t G_ G7⟩, E7, fun D_ hD => ld1 D_ (by omega) _ (ld2 D_ (by omega) _ (ld3 D_ (by omega) _ (ld4 D_ (by omega) _ (ld5 D_ (by omega) _ (ld6 D_ (by omega) _ (r7 D_ hD))))))⟩
      · by_cases Q_ : s_.toInt ≤ (numH W_ V y_ b_ sh_).toInt
        · by_cases O_ : od.toInt < 0
          · obtain ⟨h5, m5_, w5, w6_, f5_, ld5⟩ := xgoV1B (v4_ := nn) (v5 := Int32.ofNat t_) (v6 := y6) (v7 := y7) (v8 := numH W_ V y_ b_ sh_) (v302 := s_) (v303 := b_) (v307 := numH W_ V z_ s_ bh) (v305 := od) H4.1 ((g4 3 (by omega)).trans e3_) ((F4.2 305 7 (by omega) (by omega) (by omega) (by omega)).trans w3_) ((g4 2 (by omega)).trans e2_) ((g4 5 (by omega)).trans e5_) (by rw [zz]; omega) (by omega) (by omega)
            have G5 : gof h4 h5 := ⟨m5_, fun c_ j_ q1_ _ _ _ => f5_ c_ j_ (by omega) (by omega)⟩
            have H5 := gof_S H4 G5
            have fe : ∀ j_, ¬ j_ = 5 → ¬ j_ = 6 → bpat h5 305 j_ = bpat h4 305 j_ := fun j_ q5_ q6_ => f5_ 305 j_ (by omega) (by omega)
            obtain ⟨h6, G6, ⟨u2_, u3, u_⟩, ld6⟩ := go_n10 (nn := nn) (t_ := Int32.ofNat t_) K_ H5 ((fe 2 (by omega) (by omega)).trans ((g4 2 (by omega)).trans e2_)) ((fe 3 (by omega) (by omega)).trans ((g4 3 (by omega)).trans e3_)) w6_ ((fe 7 (by omega) (by omega)).trans ((F4.2 305 7 (by omega) (by omega) (by omega) (by omega)).trans w3_))
            rw [i32s] at ld6
            have ov : bpat h6 305 5 = some (.int (odF od (Int32.ofNat t_) ((numH W_ V z_ s_ bh).toInt ≤ b_.toInt) (s_.toInt ≤ (numH W_ V y_ b_ sh_).toInt))) := by
              rw [u_ 5 (by omega) (by omega)]
              rw [w5]
              unfold odF
              rw [pif_t ⟨by omega, by omega⟩]
            have eb : bgn W_ V z_ y_ (n_ + 1) t_ s_ b_ sh_ bh od = bgn W_ V z_ y_ n_ (t_ + 1) (nof W_ s_ (numH W_ V y_ b_ sh_) 0 (Int32.ofNat t_)) (nof W_ b_ (numH W_ V z_ s_ bh) 1 (Int32.ofNat t_)) (numH W_ V y_ b_ sh_) (numH W_ V z_ s_ bh) (odF od (Int32.ofNat t_) ((numH W_ V z_ s_ bh).toInt ≤ b_.toInt) (s_.toInt ≤ (numH W_ V y_ b_ sh_).toInt)) := pif_f (fun q_ => by omega)
            have G_ : gof h_ h6 := gof_t (gof_a m1_ f1_) (gof_t (nhf_g F2) (gof_t G3 (gof_t (nhf_g F4) (gof_t G5 G6))))
            obtain ⟨h7, ⟨H7, G7⟩, E7, r7⟩ := ih_ (t_ + 1) _ _ _ _ _ h6 _ (by omega) (gof_S H5 G6) (rwx_keep RA_ G_.1 (fun c_ j_ q_ => G_.2 c_ j_ (by omega) (by omega) (by omega) (by omega))) (rwx_keep RB G_.1 (fun c_ j_ q_ => G_.2 c_ j_ (by omega) (by omega) (by omega) (by omega))) u2_ u3 ((u_ 4 (by omega) (by omega)).trans ((fe 4 (by omega) (by omega)).trans ((g4 4 (by omega)).trans e4_))) ov ((u_ 6 (by omega) (by omega)).trans w6_) ((u_ 7 (by omega) (by omega)).trans ((fe 7 (by omega) (by omega)).trans ((F4.2 305 7 (by omega) (by omega) (by omega) (by omega)).trans w3_))) hld_b hld_b (Or.inr ⟨_, _, rfl⟩)
            rw [← eb] at E7
            exact ⟨h7, ⟨H7, gof_t G_ G7⟩, E7, fun D_ hD => ld1 D_ (by omega) _ (ld2 D_ (by omega) _ (ld3 D_ (by omega) _ (ld4 D_ (by omega) _ (ld5 D_ (by omega) _ (ld6 D_ (by omega) _ (r7 D_ hD))))))⟩
          · obtain ⟨h5, m5_, w6_, f5_, ld5⟩ := xgoV2B (v4_ := nn) (v5 := Int32.ofNat t_) (v6 := y6) (v7 := y7) (v8 := numH W_ V y_ b_ sh_) (v302 := s_) (v303 := b_) (v307 := numH W_ V z_ s_ bh) (v305 := od) H4.1 ((g4 3 (by omega)).trans e3_) ((F4.2 305 7 (by omega) (by omega) (by omega) (by omega)).trans w3_) ((g4 2 (by omega)).trans e2_) ((g4 5 (by omega)).trans e5_) (by rw [zz]; omega) (by omega) (by omega)
            have G5 : gof h4 h5 := ⟨m5_, fun c_ j_ q1_ _ _ _ => f5_ c_ j_ (by omega)⟩
            have H5 := gof_S H4 G5
            have fe : ∀ j_, ¬ j_ = 5 → ¬ j_ = 6 → bpat h5 305 j_ = bpat h4 305 j_ := fun j_ q5_ q6_ => f5_ 305 j_ (by omega)
            obtain ⟨h6, G6, ⟨u2_, u3, u_⟩, ld6⟩ := go_n10 (nn := nn) (t_ := Int32.ofNat t_) K_ H5 ((fe 2 (by omega) (by omega)).trans ((g4 2 (by omega)).trans e2_)) ((fe 3 (by omega) (by omega)).trans ((g4 3 (by omega)).trans e3_)) w6_ ((fe 7 (by omega) (by omega)).trans ((F4.2 305 7 (by omega) (by omega) (by omega) (by omega)).trans w3_))
            rw [i32s] at ld6
            have ov : bpat h6 305 5 = some (.int (odF od (Int32.ofNat t_) ((numH W_ V z_ s_ bh).toInt ≤ b_.toInt) (s_.toInt ≤ (numH W_ V y_ b_ sh_).toInt))) := by
              rw [u_ 5 (by omega) (by omega)]
              rw [f5_ 305 5 (by omega), g4 5 (by omega), e5_]
              unfold odF
              rw [pif_f (fun q_ => by omega)]
            have eb : bgn W_ V z_ y_ (n_ + 1) t_ s_ b_ sh_ bh od = bgn W_ V z_ y_ n_ (t_ + 1) (nof W_ s_ (numH W_ V y_ b_ sh_) 0 (Int32.ofNat t_)) (nof W_ b_ (numH W_ V z_ s_ bh) 1 (Int32.ofNat t_)) (numH W_ V y_ b_ sh_) (numH W_ V z_ s_ bh) (odF od (Int32.ofNat t_) ((numH W_ V z_ s_ bh).toInt ≤ b_.toInt) (s_.toInt ≤ (numH W_ V y_ b_ sh_).toInt)) := pif_f (fun q_ => by omega)
            have G_ : gof h_ h6 := gof_t (gof_a m1_ f1_) (gof_t (nhf_g F2) (gof_t G3 (gof_t (nhf_g F4) (gof_t G5 G6))))
            obtain ⟨h7, ⟨H7, G7⟩, E7, r7⟩ := ih_ (t_ + 1) _ _ _ _ _ h6 _ (by omega) (gof_S H5 G6) (rwx_keep RA_ G_.1 (fun c_ j_ q_ => G_.2 c_ j_ (by omega) (by omega) (by omega) (by omega))) (rwx_keep RB G_.1 (fun c_ j_ q_ => G_.2 c_ j_ (by omega) (by omega) (by omega) (by omega))) u2_ u3 ((u_ 4 (by omega) (by omega)).trans ((fe 4 (by omega) (by omega)).trans ((g4 4 (by omega)).trans e4_))) ov ((u_ 6 (by omega) (by omega)).trans w6_) ((u_ 7 (by omega) (by omega)).trans ((fe 7 (by omega) (by omega)).trans ((F4.2 305 7 (by omega) (by omega) (by omega) (by omega)).trans w3_))) hld_b hld_b (Or.inr ⟨_, _, rfl⟩)
            rw [← eb] at E7
            exact ⟨h7, ⟨H7, gof_t G_ G7⟩, E7, fun D_ hD => ld1 D_ (by omega) _ (ld2 D_ (by omega) _ (ld3 D_ (by omega) _ (ld4 D_ (by omega) _ (ld5 D_ (by omega) _ (ld6 D_ (by omega) _ (r7 D_ hD))))))⟩
        · obtain ⟨h5, m5_, w6_, f5_, ld5⟩ := xgoV0B (v4_ := nn) (v5 := Int32.ofNat t_) (v6 := y6) (v7 := y7) (v8 := numH W_ V y_ b_ sh_) (v302 := s_) (v303 := b_) (v307 := numH W_ V z_ s_ bh) H4.1 ((g4 3 (by omega)).trans e3_) ((F4.2 305 7 (by omega) (by omega) (by omega) (by omega)).trans w3_) ((g4 2 (by omega)).trans e2_) (by omega) (by omega)
          have G5 : gof h4 h5 := ⟨m5_, fun c_ j_ q1_ _ _ _ => f5_ c_ j_ (by omega)⟩
          have H5 := gof_S H4 G5
          have fe : ∀ j_, ¬ j_ = 5 → ¬ j_ = 6 → bpat h5 305 j_ = bpat h4 305 j_ := fun j_ q5_ q6_ => f5_ 305 j_ (by omega)
          obtain ⟨h6, G6, ⟨u2_, u3, u_⟩, ld6⟩ := go_n00 (nn := nn) (t_ := Int32.ofNat t_) K_ H5 ((fe 2 (by omega) (by omega)).trans ((g4 2 (by omega)).trans e2_)) ((fe 3 (by omega) (by omega)).trans ((g4 3 (by omega)).trans e3_)) w6_ ((fe 7 (by omega) (by omega)).trans ((F4.2 305 7 (by omega) (by omega) (by omega) (by omega)).trans w3_))
          rw [i32s] at ld6
          have ov : bpat h6 305 5 = some (.int (odF od (Int32.ofNat t_) ((numH W_ V z_ s_ bh).toInt ≤ b_.toInt) (s_.toInt ≤ (numH W_ V y_ b_ sh_).toInt))) := by
            rw [u_ 5 (by omega) (by omega)]
            rw [f5_ 305 5 (by omega), g4 5 (by omega), e5_]
            unfold odF
            rw [pif_f (fun q_ => by omega)]
          have eb : bgn W_ V z_ y_ (n_ + 1) t_ s_ b_ sh_ bh od = bgn W_ V z_ y_ n_ (t_ + 1) (nof W_ s_ (numH W_ V y_ b_ sh_) 0 (Int32.ofNat t_)) (nof W_ b_ (numH W_ V z_ s_ bh) 1 (Int32.ofNat t_)) (numH W_ V y_ b_ sh_) (numH W_ V z_ s_ bh) (odF od (Int32.ofNat t_) ((numH W_ V z_ s_ bh).toInt ≤ b_.toInt) (s_.toInt ≤ (numH W_ V y_ b_ sh_).toInt)) := pif_f (fun q_ => by omega)
          have G_ : gof h_ h6 := gof_t (gof_a m1_ f1_) (gof_t (nhf_g F2) (gof_t G3 (gof_t (nhf_g F4) (gof_t G5 G6))))
          obtain ⟨h7, ⟨H7, G7⟩, E7, r7⟩ := ih_ (t_ + 1) _ _ _ _ _ h6 _ (by omega) (gof_S H5 G6) (rwx_keep RA_ G_.1 (fun c_ j_ q_ => G_.2 c_ j_ (by omega) (by omega) (by omega) (by omega))) (rwx_keep RB G_.1 (fun c_ j_ q_ => G_.2 c_ j_ (by omega) (by omega) (by omega) (by omega))) u2_ u3 ((u_ 4 (by omega) (by omega)).trans ((fe 4 (by omega) (by omega)).trans ((g4 4 (by omega)).trans e4_))) ov ((u_ 6 (by omega) (by omega)).trans w6_) ((u_ 7 (by omega) (by omega)).trans ((fe 7 (by omega) (by omega)).trans ((F4.2 305 7 (by omega) (by omega) (by omega) (by omega)).trans w3_))) hld_b hld_b (Or.inr ⟨_, _, rfl⟩)
          rw [← eb] at E7
          exact ⟨h7, ⟨H7, gof_t G_ G7⟩, E7, fun D_ hD => ld1 D_ (by omega) _ (ld2 D_ (by omega) _ (ld3 D_ (by omega) _ (ld4 D_ (by omega) _ (ld5 D_ (by omega) _ (ld6 D_ (by omega) _ (r7 D_ hD))))))⟩
-- ===== the reference
theorem frz_S (H_ : SM W_ V h_) {h' : xH} (F_ : frz 342 h_ h') : SM W_ V h' := SM_fr H_ F_.1 (fun c2_ j_ hc2 => F_.2 c2_ j_ (fun q_ => by rw [q_] at hc2; exact absurd hc2 (by simp [smc])) (fun q_ => by rw [q_] at hc2; exact absurd hc2 (by simp [smc])) (fun q_ => by rw [q_] at hc2; exact absurd hc2 (by simp [smc])))
theorem frz_a {h_ h' : xH} (m_ : ysm h_ h') (f_ : ∀ c_ j_, bpat h' c_ j_ = bpat h_ c_ j_) : frz 342 h_ h' := ⟨m_, fun c_ j_ _ _ _ => f_ c_ j_⟩
theorem nhM (K_ : okS W_ V) (H_ : SM W_ V h_) {z_ o a_ : Int32} (g_ : isW (nR V) z_) (b1 : -20 ≤ o.toInt) (b2 : o.toInt ≤ 19) : ∃ h', frz 342 h_ h' ∧ ∀ D_, 68 ≤ D_ → xrun D_ 215 0 [(0, .index 338), (1, .int o), (2, .int z_), (3, .int a_)] [] h_ (some (.int (numH W_ V z_ o a_)), h', []) := by
  obtain ⟨h1, m1_, w1_, w0_, f1_, ld1⟩ := mhoE (v1_ := o) (v2 := z_) (v3 := a_) H_.1
  have F1_ : frz 342 h_ h1 := ⟨m1_, fun c_ j_ q_ _ _ => f1_ c_ j_ (by omega) (by omega)⟩
  have H1_ := frz_S H_ F1_
  rw [Int32.add_comm] at w1_
  have R1 : rM 342 h1 [o + 80] := ⟨m1_.1, ⟨bcq_of (n_ := 342) (z_ := (20, 13)) m1_.1 rfl, w0_, fun j_ x_ hx => by
    cases j_ with
    | zero => cases hx; exact w1_
    | succ j_ => cases hx⟩, Nat.le_of_ble_eq_true rfl⟩
  have g9 := g_.1
  have ez : z_ = Int32.ofNat z_.toInt.toNat := Int32.toInt_inj.mp (by rw [i32n (by omega)]; omega)
  obtain ⟨h2, R2, F2, r2⟩ := gsM (n_ := z_.toInt.toNat) (wrc_S K_) (txp_S K_) (by omega) (isW_l g_ (nR_le K_).1) (wrd_S K_ H1_) (sds_s (off_s b1 b2)) R1
  rw [← ez] at r2
  have ld2 := ycv (d_ := 64) (mi := 215) (pc := 23) (cm := 155) (lo_ := [(0, .index 338), (1, .int o), (2, .int z_), (3, .int a_)]) (st_ := [.index 342, .int z_, .index 338]) (as_ := [.int z_, .index 342]) (s' := []) rfl rfl (bcq_of (n_ := 338) (z_ := (12, 26)) m1_.1 rfl) rfl (xcc_l (List.forall_mem_cons.mpr ⟨xidx_i (bcq_lt (bcq_of (n_ := 338) (z_ := (12, 26)) m1_.1 rfl)), List.forall_mem_cons.mpr ⟨rfl, List.forall_mem_cons.mpr ⟨rfl, List.forall_mem_cons.mpr ⟨rfl, fun q_ hq => absurd hq List.not_mem_nil⟩⟩⟩⟩) (fun t_ ht => absurd ht List.not_mem_nil) (Nat.le_of_ble_eq_true rfl)) r2
  have fin_ : ∀ l : List Int32, rM 342 h2 l → snds l → l.length ≤ 1 → ∃ h3, (ysm h2 h3 ∧ ∀ c_ j_, bpat h3 c_ j_ = bpat h2 c_ j_) ∧ ∀ D_, 60 ≤ D_ → xrun D_ 215 26 [(0, .index 338), (1, .int o), (2, .int z_), (3, .int a_)] [] h2 (some (.int (nhF l a_)), h3, []) := by
    intro l R_ S_ L_
    have e60 : (60 : Int32).toInt = 60 := rfl
    cases l with
    | nil =>
      obtain ⟨h3, m3_, f3_, r3⟩ := mhoA (v1_ := o) (v2 := z_) (v3 := a_) (v300 := Int32.ofNat 0) R_.1 R_.2.1.2.1 (show ¬ Int32.ofNat 0 = 1 by decide)
      exact ⟨h3, ⟨m3_, f3_⟩, r3⟩
    | cons x_ t_ =>
      have n1_ : Int32.ofNat (x_ :: t_).length = 1 := by
        rw [List.length_cons] at L_ ⊢
        rw [show t_.length + 1 = 1 by omega]
        rfl
      have ox := R_.2.1.2.2 0 x_ rfl
      by_cases g6 : 60 ≤ x_.toInt
      · obtain ⟨h3, m3_, f3_, r3⟩ := mhoC (v1_ := o) (v2 := z_) (v3 := a_) (v300 := Int32.ofNat (x_ :: t_).length) (v301 := x_) R_.1 R_.2.1.2.1 ox (by omega) n1_
        refine ⟨h3, ⟨m3_, f3_⟩, ?_⟩
        have e_ : nhF (x_ :: t_) a_ = x_ - 80 := if_pos g6
        rw [e_]
        exact r3
      · obtain ⟨h3, m3_, f3_, r3⟩ := mhoB (v1_ := o) (v2 := z_) (v3 := a_) (v300 := Int32.ofNat (x_ :: t_).length) (v301 := x_) R_.1 R_.2.1.2.1 ox (by omega) n1_
        refine ⟨h3, ⟨m3_, f3_⟩, ?_⟩
        have e_ : nhF (x_ :: t_) a_ = a_ := if_neg g6
        rw [e_]
        exact r3
  obtain ⟨h3, ⟨m3_, f3_⟩, r3⟩ := fin_ _ R2 (snds_hrf (off_s b1 b2)) (Nat.le_trans hrf_len (Nat.le_refl _))
  exact ⟨h3, frz_tr F1_ (frz_tr F2 (frz_a m3_ f3_)), fun D_ hD => ld1 D_ (by omega) _ (ld2 D_ (by omega) _ (r3 D_ (by omega)))⟩
theorem noM (K_ : okS W_ V) (H_ : SM W_ V h_) {o u_ b_ t_ : Int32} : ∃ h', frz 342 h_ h' ∧ ∀ D_, 62 ≤ D_ → xrun D_ 214 0 [(0, .index 338), (1, .int o), (2, .int u_), (3, .int b_), (4, .int t_)] [] h_ (some (.int (nof W_ o u_ b_ t_)), h', []) := by
  have RT := SM_x (u_ := 1) H_ (by omega)
  have R1 : bpat h_ 339 559 = some (.int (Int32.ofNat (W_ 24).length)) := RT.1
  have z0 := z0_
  have e20 : (Int32.ofInt (-20)).toInt = -20 := rfl
  have e19_ : (19 : Int32).toInt = 19 := rfl
  have tx := K_.1.2.2.2.2.2.2 1 (by omega)
  have t1_ : (W_ 24).length ≤ 60 := tx.1
  have t2_ : ∀ x_ ∈ W_ 24, okx x_ := tx.2.1
  have t3_ : ¬ W_ 24 = [] → evk (W_ 24) := tx.2.2
  by_cases hn : W_ 24 = []
  · obtain ⟨h1, m1_, e_⟩ := mofN (v1_ := o) (v2 := u_) (v3 := b_) (v4_ := t_) H_.1 R1 (by rw [hn]; exact Int.le_refl _)
    have en : nof W_ o u_ b_ t_ = hld ((o + (b_ * (2 : Int32))) - (1 : Int32)) := by
      unfold nof
      rw [if_pos hn]
    rw [en]
    rcases e_ with ⟨g1, g2, f1_, r1_⟩ | ⟨g1, g2, f1_, r1_⟩ | ⟨g1, f1_, r1_⟩
    · rw [hld_t.2.1 ⟨by omega, by omega⟩]
      exact ⟨h1, frz_a m1_ f1_, fun D_ hD => r1_ D_ (by omega)⟩
    · rw [hld_t.2.2 (by omega)]
      exact ⟨h1, frz_a m1_ f1_, fun D_ hD => r1_ D_ (by omega)⟩
    · rw [hld_t.1 (by omega)]
      exact ⟨h1, frz_a m1_ f1_, fun D_ hD => r1_ D_ (by omega)⟩
  · have pl : 0 < (W_ 24).length := List.length_pos_iff.mpr hn
    obtain ⟨h1, m1_, w3_, w2_, w1_, w0_, f1_, ld1⟩ := mofE (v1_ := o) (v2 := u_) (v3 := b_) (v4_ := t_) H_.1 R1 (by rw [i32n (by omega)]; omega)
    have fb : ∀ c_ j_, ¬ c_ = 346 → bpat h1 c_ j_ = bpat h_ c_ j_ := fun c_ j_ n_ => f1_ c_ j_ (fun q_ => n_ q_.1) (fun q_ => n_ q_.1) (fun q_ => n_ q_.1) (fun q_ => n_ q_.1)
    have F1_ : frz 342 h_ h1 := ⟨m1_, fun c_ j_ _ q_ _ => fb c_ j_ q_⟩
    have T : txm h1 1 (434 + 125 * 1) (nm4 o u_ b_ t_) ((W_ 24).map (yof 1)) := ⟨m1_.1, by rw [List.length_map, fb _ _ (by omega)]; exact R1, fun j_ y_ hy => by
      rw [List.getElem?_map] at hy
      cases hx : (W_ 24)[j_]? with
      | none => rw [hx] at hy; cases hy
      | some x_ =>
        rw [hx] at hy
        cases hy
        have e_ := RT.2 j_ x_ hx
        rw [fb _ _ (by omega), fb _ _ (by omega)]
        exact e_, fun j_ hj => by
      have j4_ : j_ = 0 ∨ (j_ = 1 ∨ (j_ = 2 ∨ j_ = 3)) := by omega
      rcases j4_ with rfl | rfl | rfl | rfl
      · exact w0_
      · exact w1_
      · exact w2_
      · exact w3_⟩
    obtain ⟨s', e_, ne_⟩ := t3_ hn (nm4 o u_ b_ t_)
    obtain ⟨h2, F2, r2⟩ := workedM (u_ := 1) (by omega) (List.length_map ..) (fun j_ x_ y_ hx hy => by
      rw [List.getElem?_map, hx] at hy
      cases hy
      exact yof_p (t2_ x_ (List.mem_of_getElem? hx))) t1_ T e_ ne_
    have ee : s'.getLastD 0 = evr (nm4 o u_ b_ t_) (W_ 24) := by
      unfold evr
      rw [e_]
      rfl
    rw [ee] at r2
    have ld2 := ycv (d_ := 60) (mi := 214) (pc := 58) (cm := 187) (lo_ := [(0, .index 338), (1, .int o), (2, .int u_), (3, .int b_), (4, .int t_)]) (st_ := [.int 1, .index 338]) (as_ := [.int 1]) (s' := []) rfl rfl (bcq_of (n_ := 338) (z_ := (12, 26)) m1_.1 rfl) rfl (xcc_l (List.forall_mem_cons.mpr ⟨xidx_i (bcq_lt (bcq_of (n_ := 338) (z_ := (12, 26)) m1_.1 rfl)), List.forall_mem_cons.mpr ⟨rfl, List.forall_mem_cons.mpr ⟨rfl, List.forall_mem_cons.mpr ⟨rfl, List.forall_mem_cons.mpr ⟨rfl, fun q_ hq => absurd hq List.not_mem_nil⟩⟩⟩⟩⟩) (fun t_ ht => absurd ht List.not_mem_nil) (Nat.le_of_ble_eq_true rfl)) r2
    have F2' : frz 342 h1 h2 := ⟨F2.1, fun c_ j_ _ _ q_ => F2.2 c_ j_ q_⟩
    obtain ⟨h3, m3_, e3_⟩ := mofR (v1_ := o) (v2 := u_) (v3 := b_) (v4_ := t_) (v7 := evr (nm4 o u_ b_ t_) (W_ 24)) (F2.1).1
    have en : nof W_ o u_ b_ t_ = hld (evr (nm4 o u_ b_ t_) (W_ 24)) := by
      unfold nof
      rw [if_neg hn]
    rw [en]
    rcases e3_ with ⟨g1, g2, f3_, r3⟩ | ⟨g1, g2, f3_, r3⟩ | ⟨g1, f3_, r3⟩
    · rw [hld_t.2.1 ⟨by omega, by omega⟩]
      exact ⟨h3, frz_tr F1_ (frz_tr F2' (frz_a m3_ f3_)), fun D_ hD => ld1 D_ (by omega) _ (ld2 D_ (by omega) _ (r3 D_ (by omega)))⟩
    · rw [hld_t.2.2 (by omega)]
      exact ⟨h3, frz_tr F1_ (frz_tr F2' (frz_a m3_ f3_)), fun D_ hD => ld1 D_ (by omega) _ (ld2 D_ (by omega) _ (r3 D_ (by omega)))⟩
    · rw [hld_t.1 (by omega)]
      exact ⟨h3, frz_tr F1_ (frz_tr F2' (frz_a m3_ f3_)), fun D_ hD => ld1 D_ (by omega) _ (ld2 D_ (by omega) _ (r3 D_ (by omega)))⟩
def bgA (q_ : Int32) (r_ : Int32 × Int32 × Int32 × Int32) : Int32 := if q_ = 0 then (if r_.2.2.1 = Int32.ofInt (-1) then Int32.ofInt (-1000002) else r_.2.2.1) else if q_ = 1 then (if r_.2.2.2 = Int32.ofInt (-1) then Int32.ofInt (-1000002) else r_.2.2.2) else if q_ = 2 then r_.1 else r_.2.1
theorem odF_ok {od : Int32} {t_ : Nat} {P_ Q_ : Prop} (ht : t_ < 1000) (h_ : od = Int32.ofInt (-1) ∨ 0 ≤ od.toInt) : odF od (Int32.ofNat t_) P_ Q_ = Int32.ofInt (-1) ∨ 0 ≤ (odF od (Int32.ofNat t_) P_ Q_).toInt := by
  have it := i32n (i_ := t_) (by omega)
  unfold odF
  by_cases g_ : od.toInt < 0 ∧ ¬ (P_ ↔ Q_)
  · rw [pif_t g_]
    exact Or.inr (by omega)
  · rw [pif_f g_]
    exact h_
theorem mE_A (H_ : SM W_ V h_) {x1_ z_ y_ nn q_ s_ b_ sh_ bh cl_ od u13 y14 y15 y16 : Int32} (oy : ∃ e_ : Int32, bpat h_ 341 2 = some (.int e_)) (q0 : 0 ≤ q_.toInt) (q3_ : q_.toInt ≤ 3) : ∃ h', (SM W_ V h' ∧ ysm h_ h') ∧ ∀ D_, 60 ≤ D_ → xrun D_ 216 248 [(13, .int u13), (12, .int od), (11, .int cl_), (10, .int sh_), (9, .int bh), (8, .int b_), (7, .int s_), (6, .int 1), (0, .index 338), (1, .int x1_), (2, .int z_), (3, .int y_), (4, .int nn), (5, .int q_)] [] h_ (some (.int (bgA q_ (s_, b_, cl_, od))), h', []) := by
  obtain ⟨e0_, oy⟩ := oy
  have n0_ : (0 : Int32).toInt = 0 := rfl
  have n1_ : (1 : Int32).toInt = 1 := rfl
  have n2_ : (2 : Int32).toInt = 2 := rfl
  obtain ⟨h1, m1_, e_⟩ := mbaRA (v1_ := x1_) (v2 := z_) (v3 := y_) (v4_ := nn) (v5 := q_) (v13 := u13) (v12 := od) (v11 := cl_) (v10 := sh_) (v9 := bh) (v8 := b_) (v7 := s_) H_.1 oy
  have qn : ¬ q_ = 2 → ¬ q_ = 1 → ¬ q_ = 0 → q_.toInt < 2 → False := fun a1_ a2 a3 a4 => by
    by_cases c_ : q_.toInt = 0
    · exact a3 (Int32.toInt_inj.mp c_)
    · exact a2 (Int32.toInt_inj.mp (by omega))
  rcases e_ with ⟨g1, g2, g3_, g4, f_, r_⟩ | ⟨g1, g2, g3_, g4, g5_, f_, r_⟩ | ⟨g1, g2, g3_, g4, g5_, w0_, f_, r_⟩ | ⟨g1, g2, g3_, f_, r_⟩ | ⟨g1, g2, g3_, f_, r_⟩ | ⟨g1, g2, g3_, w0_, f_, r_⟩ | ⟨g1, g2, f_, r_⟩ | ⟨g1, g2, w0_, f_, r_⟩
  · have v_ : bgA q_ (s_, b_, cl_, od) = b_ := by unfold bgA; rw [if_neg g4, if_neg g3_]; exact if_neg g2
    rw [v_]
    exact ⟨h1, ⟨SM_fr H_ m1_ (fun c_ j_ _ => f_ c_ j_), m1_⟩, r_⟩
  · exact absurd trivial (fun _ : True => qn g3_ g4 g5_ (by omega))
  · exact absurd trivial (fun _ : True => qn g3_ g4 g5_ (by omega))
  · have v_ : bgA q_ (s_, b_, cl_, od) = s_ := by unfold bgA; rw [if_neg g3_, if_neg g2]; exact if_pos g1
    rw [v_]
    exact ⟨h1, ⟨SM_fr H_ m1_ (fun c_ j_ _ => f_ c_ j_), m1_⟩, r_⟩
  · have v_ : bgA q_ (s_, b_, cl_, od) = od := by unfold bgA; rw [if_neg g3_, if_pos g2]; exact if_neg g1
    rw [v_]
    exact ⟨h1, ⟨SM_fr H_ m1_ (fun c_ j_ _ => f_ c_ j_), m1_⟩, r_⟩
  · have v_ : bgA q_ (s_, b_, cl_, od) = Int32.ofInt (-1000002) := by unfold bgA; rw [if_neg g3_, if_pos g2]; exact if_pos g1
    rw [v_]
    exact ⟨h1, ⟨SM_e H_ m1_ f_, m1_⟩, r_⟩
  · have v_ : bgA q_ (s_, b_, cl_, od) = cl_ := by unfold bgA; rw [if_pos g2]; exact if_neg g1
    rw [v_]
    exact ⟨h1, ⟨SM_fr H_ m1_ (fun c_ j_ _ => f_ c_ j_), m1_⟩, r_⟩
  · have v_ : bgA q_ (s_, b_, cl_, od) = Int32.ofInt (-1000002) := by unfold bgA; rw [if_pos g2]; exact if_pos g1
    rw [v_]
    exact ⟨h1, ⟨SM_e H_ m1_ f_, m1_⟩, r_⟩
theorem mE_B (H_ : SM W_ V h_) {x1_ z_ y_ nn q_ s_ b_ sh_ bh cl_ od u13 y14 y15 y16 : Int32} (oy : ∃ e_ : Int32, bpat h_ 341 2 = some (.int e_)) (q0 : 0 ≤ q_.toInt) (q3_ : q_.toInt ≤ 3) : ∃ h', (SM W_ V h' ∧ ysm h_ h') ∧ ∀ D_, 60 ≤ D_ → xrun D_ 216 248 [(13, .int u13), (7, .int s_), (8, .int b_), (16, .int y16), (12, .int od), (15, .int y15), (14, .int y14), (10, .int sh_), (9, .int bh), (11, .int cl_), (6, .int 1), (0, .index 338), (1, .int x1_), (2, .int z_), (3, .int y_), (4, .int nn), (5, .int q_)] [] h_ (some (.int (bgA q_ (s_, b_, cl_, od))), h', []) := by
  obtain ⟨e0_, oy⟩ := oy
  have n0_ : (0 : Int32).toInt = 0 := rfl
  have n1_ : (1 : Int32).toInt = 1 := rfl
  have n2_ : (2 : Int32).toInt = 2 := rfl
  obtain ⟨h1, m1_, e_⟩ := mbaRB (v1_ := x1_) (v2 := z_) (v3 := y_) (v4_ := nn) (v5 := q_) (v13 := u13) (v7 := s_) (v8 := b_) (v16 := y16) (v12 := od) (v15 := y15) (v14 := y14) (v10 := sh_) (v9 := bh) (v11 := cl_) H_.1 oy
  have qn : ¬ q_ = 2 → ¬ q_ = 1 → ¬ q_ = 0 → q_.toInt < 2 → False := fun a1_ a2 a3 a4 => by
    by_cases c_ : q_.toInt = 0
    · exact a3 (Int32.toInt_inj.mp c_)
    · exact a2 (Int32.toInt_inj.mp (by omega))
  rcases e_ with ⟨g1, g2, g3_, g4, f_, r_⟩ | ⟨g1, g2, g3_, g4, g5_, f_, r_⟩ | ⟨g1, g2, g3_, g4, g5_, w0_, f_, r_⟩ | ⟨g1, g2, g3_, f_, r_⟩ | ⟨g1, g2, g3_, f_, r_⟩ | ⟨g1, g2, g3_, w0_, f_, r_⟩ | ⟨g1, g2, f_, r_⟩ | ⟨g1, g2, w0_, f_, r_⟩
  · have v_ : bgA q_ (s_, b_, cl_, od) = b_ := by unfold bgA; rw [if_neg g4, if_neg g3_]; exact if_neg g2
    rw [v_]
    exact ⟨h1, ⟨SM_fr H_ m1_ (fun c_ j_ _ => f_ c_ j_), m1_⟩, r_⟩
  · exact absurd trivial (fun _ : True => qn g3_ g4 g5_ (by omega))
  · exact absurd trivial (fun _ : True => qn g3_ g4 g5_ (by omega))
  · have v_ : bgA q_ (s_, b_, cl_, od) = s_ := by unfold bgA; rw [if_neg g3_, if_neg g2]; exact if_pos g1
    rw [v_]
    exact ⟨h1, ⟨SM_fr H_ m1_ (fun c_ j_ _ => f_ c_ j_), m1_⟩, r_⟩
  · have v_ : bgA q_ (s_, b_, cl_, od) = od := by unfold bgA; rw [if_neg g3_, if_pos g2]; exact if_neg g1
    rw [v_]
    exact ⟨h1, ⟨SM_fr H_ m1_ (fun c_ j_ _ => f_ c_ j_), m1_⟩, r_⟩
  · have v_ : bgA q_ (s_, b_, cl_, od) = Int32.ofInt (-1000002) := by unfold bgA; rw [if_neg g3_, if_pos g2]; exact if_pos g1
    rw [v_]
    exact ⟨h1, ⟨SM_e H_ m1_ f_, m1_⟩, r_⟩
  · have v_ : bgA q_ (s_, b_, cl_, od) = cl_ := by unfold bgA; rw [if_pos g2]; exact if_neg g1
    rw [v_]
    exact ⟨h1, ⟨SM_fr H_ m1_ (fun c_ j_ _ => f_ c_ j_), m1_⟩, r_⟩
  · have v_ : bgA q_ (s_, b_, cl_, od) = Int32.ofInt (-1000002) := by unfold bgA; rw [if_pos g2]; exact if_pos g1
    rw [v_]
    exact ⟨h1, ⟨SM_e H_ m1_ f_, m1_⟩, r_⟩
theorem mE_CA (H_ : SM W_ V h_) {x1_ z_ y_ nn q_ s_ b_ sh_ bh cl_ od u13 y14 y15 y16 : Int32} (oy : ∃ e_ : Int32, bpat h_ 341 2 = some (.int e_)) (q0 : 0 ≤ q_.toInt) (q3_ : q_.toInt ≤ 3) : ∃ h', (SM W_ V h' ∧ ysm h_ h') ∧ ∀ D_, 60 ≤ D_ → xrun D_ 216 248 [(13, .int u13), (11, .int cl_), (12, .int od), (15, .int y15), (14, .int y14), (10, .int sh_), (9, .int bh), (8, .int b_), (7, .int s_), (6, .int 1), (0, .index 338), (1, .int x1_), (2, .int z_), (3, .int y_), (4, .int nn), (5, .int q_)] [] h_ (some (.int (bgA q_ (s_, b_, cl_, od))), h', []) := by
  obtain ⟨e0_, oy⟩ := oy
  have n0_ : (0 : Int32).toInt = 0 := rfl
  have n1_ : (1 : Int32).toInt = 1 := rfl
  have n2_ : (2 : Int32).toInt = 2 := rfl
  obtain ⟨h1, m1_, e_⟩ := mbaRCA (v1_ := x1_) (v2 := z_) (v3 := y_) (v4_ := nn) (v5 := q_) (v13 := u13) (v11 := cl_) (v12 := od) (v15 := y15) (v14 := y14) (v10 := sh_) (v9 := bh) (v8 := b_) (v7 := s_) H_.1 oy
  have qn : ¬ q_ = 2 → ¬ q_ = 1 → ¬ q_ = 0 → q_.toInt < 2 → False := fun a1_ a2 a3 a4 => by
    by_cases c_ : q_.toInt = 0
    · exact a3 (Int32.toInt_inj.mp c_)
    · exact a2 (Int32.toInt_inj.mp (by omega))
  rcases e_ with ⟨g1, g2, g3_, g4, f_, r_⟩ | ⟨g1, g2, g3_, g4, g5_, f_, r_⟩ | ⟨g1, g2, g3_, g4, g5_, w0_, f_, r_⟩ | ⟨g1, g2, g3_, f_, r_⟩ | ⟨g1, g2, g3_, f_, r_⟩ | ⟨g1, g2, g3_, w0_, f_, r_⟩ | ⟨g1, g2, f_, r_⟩ | ⟨g1, g2, w0_, f_, r_⟩
  · have v_ : bgA q_ (s_, b_, cl_, od) = b_ := by unfold bgA; rw [if_neg g4, if_neg g3_]; exact if_neg g2
    rw [v_]
    exact ⟨h1, ⟨SM_fr H_ m1_ (fun c_ j_ _ => f_ c_ j_), m1_⟩, r_⟩
  · exact absurd trivial (fun _ : True => qn g3_ g4 g5_ (by omega))
  · exact absurd trivial (fun _ : True => qn g3_ g4 g5_ (by omega))
  · have v_ : bgA q_ (s_, b_, cl_, od) = s_ := by unfold bgA; rw [if_neg g3_, if_neg g2]; exact if_pos g1
    rw [v_]
    exact ⟨h1, ⟨SM_fr H_ m1_ (fun c_ j_ _ => f_ c_ j_), m1_⟩, r_⟩
  · have v_ : bgA q_ (s_, b_, cl_, od) = od := by unfold bgA; rw [if_neg g3_, if_pos g2]; exact if_neg g1
    rw [v_]
    exact ⟨h1, ⟨SM_fr H_ m1_ (fun c_ j_ _ => f_ c_ j_), m1_⟩, r_⟩
  · have v_ : bgA q_ (s_, b_, cl_, od) = Int32.ofInt (-1000002) := by unfold bgA; rw [if_neg g3_, if_pos g2]; exact if_pos g1
    rw [v_]
    exact ⟨h1, ⟨SM_e H_ m1_ f_, m1_⟩, r_⟩
  · have v_ : bgA q_ (s_, b_, cl_, od) = cl_ := by unfold bgA; rw [if_pos g2]; exact if_neg g1
    rw [v_]
    exact ⟨h1, ⟨SM_fr H_ m1_ (fun c_ j_ _ => f_ c_ j_), m1_⟩, r_⟩
  · have v_ : bgA q_ (s_, b_, cl_, od) = Int32.ofInt (-1000002) := by unfold bgA; rw [if_pos g2]; exact if_pos g1
    rw [v_]
    exact ⟨h1, ⟨SM_e H_ m1_ f_, m1_⟩, r_⟩
theorem mE_CB (H_ : SM W_ V h_) {x1_ z_ y_ nn q_ s_ b_ sh_ bh cl_ od u13 y14 y15 y16 : Int32} (oy : ∃ e_ : Int32, bpat h_ 341 2 = some (.int e_)) (q0 : 0 ≤ q_.toInt) (q3_ : q_.toInt ≤ 3) : ∃ h', (SM W_ V h' ∧ ysm h_ h') ∧ ∀ D_, 60 ≤ D_ → xrun D_ 216 248 [(13, .int u13), (11, .int cl_), (12, .int od), (15, .int y15), (14, .int y14), (10, .int sh_), (9, .int bh), (7, .int s_), (8, .int b_), (16, .int y16), (6, .int 1), (0, .index 338), (1, .int x1_), (2, .int z_), (3, .int y_), (4, .int nn), (5, .int q_)] [] h_ (some (.int (bgA q_ (s_, b_, cl_, od))), h', []) := by
  obtain ⟨e0_, oy⟩ := oy
  have n0_ : (0 : Int32).toInt = 0 := rfl
  have n1_ : (1 : Int32).toInt = 1 := rfl
  have n2_ : (2 : Int32).toInt = 2 := rfl
  obtain ⟨h1, m1_, e_⟩ := mbaRCB (v1_ := x1_) (v2 := z_) (v3 := y_) (v4_ := nn) (v5 := q_) (v13 := u13) (v11 := cl_) (v12 := od) (v15 := y15) (v14 := y14) (v10 := sh_) (v9 := bh) (v7 := s_) (v8 := b_) (v16 := y16) H_.1 oy
  have qn : ¬ q_ = 2 → ¬ q_ = 1 → ¬ q_ = 0 → q_.toInt < 2 → False := fun a1_ a2 a3 a4 => by
    by_cases c_ : q_.toInt = 0
    · exact a3 (Int32.toInt_inj.mp c_)
    · exact a2 (Int32.toInt_inj.mp (by omega))
  rcases e_ with ⟨g1, g2, g3_, g4, f_, r_⟩ | ⟨g1, g2, g3_, g4, g5_, f_, r_⟩ | ⟨g1, g2, g3_, g4, g5_, w0_, f_, r_⟩ | ⟨g1, g2, g3_, f_, r_⟩ | ⟨g1, g2, g3_, f_, r_⟩ | ⟨g1, g2, g3_, w0_, f_, r_⟩ | ⟨g1, g2, f_, r_⟩ | ⟨g1, g2, w0_, f_, r_⟩
  · have v_ : bgA q_ (s_, b_, cl_, od) = b_ := by unfold bgA; rw [if_neg g4, if_neg g3_]; exact if_neg g2
    rw [v_]
    exact ⟨h1, ⟨SM_fr H_ m1_ (fun c_ j_ _ => f_ c_ j_), m1_⟩, r_⟩
  · exact absurd trivial (fun _ : True => qn g3_ g4 g5_ (by omega))
  · exact absurd trivial (fun _ : True => qn g3_ g4 g5_ (by omega))
  · have v_ : bgA q_ (s_, b_, cl_, od) = s_ := by unfold bgA; rw [if_neg g3_, if_neg g2]; exact if_pos g1
    rw [v_]
    exact ⟨h1, ⟨SM_fr H_ m1_ (fun c_ j_ _ => f_ c_ j_), m1_⟩, r_⟩
  · have v_ : bgA q_ (s_, b_, cl_, od) = od := by unfold bgA; rw [if_neg g3_, if_pos g2]; exact if_neg g1
    rw [v_]
    exact ⟨h1, ⟨SM_fr H_ m1_ (fun c_ j_ _ => f_ c_ j_), m1_⟩, r_⟩
  · have v_ : bgA q_ (s_, b_, cl_, od) = Int32.ofInt (-1000002) := by unfold bgA; rw [if_neg g3_, if_pos g2]; exact if_pos g1
    rw [v_]
    exact ⟨h1, ⟨SM_e H_ m1_ f_, m1_⟩, r_⟩
  · have v_ : bgA q_ (s_, b_, cl_, od) = cl_ := by unfold bgA; rw [if_pos g2]; exact if_neg g1
    rw [v_]
    exact ⟨h1, ⟨SM_fr H_ m1_ (fun c_ j_ _ => f_ c_ j_), m1_⟩, r_⟩
  · have v_ : bgA q_ (s_, b_, cl_, od) = Int32.ofInt (-1000002) := by unfold bgA; rw [if_pos g2]; exact if_pos g1
    rw [v_]
    exact ⟨h1, ⟨SM_e H_ m1_ f_, m1_⟩, r_⟩
theorem mb_nA (K_ : okS W_ V) (H_ : SM W_ V h_) {x1_ z_ y_ nn q_ s_ b_ sh_ bh od t_ y14 y15 y16 : Int32} : ∃ h' y', frz 342 h_ h' ∧ bldD 64 216 220 [(12, .int od), (15, .int y15), (14, .int y14), (10, .int sh_), (9, .int bh), (13, .int t_), (11, .int (Int32.ofInt (-1))), (8, .int b_), (7, .int s_), (6, .int 1), (0, .index 338), (1, .int x1_), (2, .int z_), (3, .int y_), (4, .int nn), (5, .int q_)] [.int t_, .int 0, .int sh_, .int s_, .index 338] h_ 110 [(13, .int (t_ + 1)), (7, .int (nof W_ s_ sh_ 0 t_)), (8, .int (nof W_ b_ bh 1 t_)), (16, .int y'), (12, .int od), (15, .int y15), (14, .int y14), (10, .int sh_), (9, .int bh), (11, .int (Int32.ofInt (-1))), (6, .int 1), (0, .index 338), (1, .int x1_), (2, .int z_), (3, .int y_), (4, .int nn), (5, .int q_)] [] h' := by
  obtain ⟨h2, F2, r2⟩ := noM (o := s_) (u_ := sh_) (b_ := 0) (t_ := t_) K_ H_
  have ld2 := ycv (d_ := 62) (mi := 216) (pc := 220) (cm := 214) (lo_ := [(12, .int od), (15, .int y15), (14, .int y14), (10, .int sh_), (9, .int bh), (13, .int t_), (11, .int (Int32.ofInt (-1))), (8, .int b_), (7, .int s_), (6, .int 1), (0, .index 338), (1, .int x1_), (2, .int z_), (3, .int y_), (4, .int nn), (5, .int q_)]) (st_ := [.int t_, .int 0, .int sh_, .int s_, .index 338]) (as_ := [.int s_, .int sh_, .int 0, .int t_]) (s' := []) rfl rfl (bcq_of (n_ := 338) (z_ := (12, 26)) H_.1 rfl) rfl (xcc_l (List.forall_mem_cons.mpr ⟨rfl, List.forall_mem_cons.mpr ⟨rfl, List.forall_mem_cons.mpr ⟨rfl, List.forall_mem_cons.mpr ⟨rfl, List.forall_mem_cons.mpr ⟨rfl, List.forall_mem_cons.mpr ⟨rfl, List.forall_mem_cons.mpr ⟨rfl, List.forall_mem_cons.mpr ⟨rfl, List.forall_mem_cons.mpr ⟨rfl, List.forall_mem_cons.mpr ⟨rfl, List.forall_mem_cons.mpr ⟨xidx_i (bcq_lt (bcq_of (n_ := 338) (z_ := (12, 26)) H_.1 rfl)), List.forall_mem_cons.mpr ⟨rfl, List.forall_mem_cons.mpr ⟨rfl, List.forall_mem_cons.mpr ⟨rfl, List.forall_mem_cons.mpr ⟨rfl, List.forall_mem_cons.mpr ⟨rfl, fun q_ hq => absurd hq List.not_mem_nil⟩⟩⟩⟩⟩⟩⟩⟩⟩⟩⟩⟩⟩⟩⟩⟩) (fun t_ ht => absurd ht List.not_mem_nil) (Nat.le_of_ble_eq_true rfl)) r2
  have H2_ := frz_S H_ F2
  obtain ⟨h3, m3_, f3_, ld3⟩ := mbaWA (v1_ := x1_) (v2 := z_) (v3 := y_) (v4_ := nn) (v5 := q_) (v12 := od) (v15 := y15) (v14 := y14) (v10 := sh_) (v9 := bh) (v13 := t_) (v11 := (Int32.ofInt (-1))) (v8 := b_) (v7 := s_) (v21 := nof W_ s_ sh_ 0 t_) H2_.1
  have H3 := frz_S H2_ (frz_a m3_ f3_)
  obtain ⟨h4, F4, r4⟩ := noM (o := b_) (u_ := bh) (b_ := 1) (t_ := t_) K_ H3
  have ld4 := ycv (d_ := 62) (mi := 216) (pc := 233) (cm := 214) (lo_ := [(16, .int (nof W_ s_ sh_ 0 t_)), (12, .int od), (15, .int y15), (14, .int y14), (10, .int sh_), (9, .int bh), (13, .int t_), (11, .int (Int32.ofInt (-1))), (8, .int b_), (7, .int s_), (6, .int 1), (0, .index 338), (1, .int x1_), (2, .int z_), (3, .int y_), (4, .int nn), (5, .int q_)]) (st_ := [.int t_, .int 1, .int bh, .int b_, .index 338]) (as_ := [.int b_, .int bh, .int 1, .int t_]) (s' := []) rfl rfl (bcq_of (n_ := 338) (z_ := (12, 26)) H3.1 rfl) rfl (xcc_l (List.forall_mem_cons.mpr ⟨rfl, List.forall_mem_cons.mpr ⟨rfl, List.forall_mem_cons.mpr ⟨rfl, List.forall_mem_cons.mpr ⟨rfl, List.forall_mem_cons.mpr ⟨rfl, List.forall_mem_cons.mpr ⟨rfl, List.forall_mem_cons.mpr ⟨rfl, List.forall_mem_cons.mpr ⟨rfl, List.forall_mem_cons.mpr ⟨rfl, List.forall_mem_cons.mpr ⟨rfl, List.forall_mem_cons.mpr ⟨rfl, List.forall_mem_cons.mpr ⟨xidx_i (bcq_lt (bcq_of (n_ := 338) (z_ := (12, 26)) H3.1 rfl)), List.forall_mem_cons.mpr ⟨rfl, List.forall_mem_cons.mpr ⟨rfl, List.forall_mem_cons.mpr ⟨rfl, List.forall_mem_cons.mpr ⟨rfl, List.forall_mem_cons.mpr ⟨rfl, fun q_ hq => absurd hq List.not_mem_nil⟩⟩⟩⟩⟩⟩⟩⟩⟩⟩⟩⟩⟩⟩⟩⟩⟩) (fun t_ ht => absurd ht List.not_mem_nil) (Nat.le_of_ble_eq_true rfl)) r4
  obtain ⟨h5, m5_, f5_, ld5⟩ := mbaZA (v1_ := x1_) (v2 := z_) (v3 := y_) (v4_ := nn) (v5 := q_) (v16 := (nof W_ s_ sh_ 0 t_)) (v12 := od) (v15 := y15) (v14 := y14) (v10 := sh_) (v9 := bh) (v13 := t_) (v11 := (Int32.ofInt (-1))) (v8 := b_) (v7 := s_) (v22 := nof W_ b_ bh 1 t_) (frz_S H3 F4).1
  exact ⟨h5, nof W_ s_ sh_ 0 t_, frz_tr F2 (frz_tr (frz_a m3_ f3_) (frz_tr F4 (frz_a m5_ f5_))), fun D_ hD oo zq => ld2 D_ (by omega) _ (ld3 D_ (by omega) _ (ld4 D_ (by omega) _ (ld5 D_ (by omega) oo zq)))⟩
theorem mb_nB (K_ : okS W_ V) (H_ : SM W_ V h_) {x1_ z_ y_ nn q_ s_ b_ sh_ bh od t_ y14 y15 y16 : Int32} : ∃ h' y', frz 342 h_ h' ∧ bldD 64 216 220 [(12, .int od), (15, .int y15), (14, .int y14), (10, .int sh_), (9, .int bh), (13, .int t_), (7, .int s_), (8, .int b_), (16, .int y16), (11, .int (Int32.ofInt (-1))), (6, .int 1), (0, .index 338), (1, .int x1_), (2, .int z_), (3, .int y_), (4, .int nn), (5, .int q_)] [.int t_, .int 0, .int sh_, .int s_, .index 338] h_ 110 [(13, .int (t_ + 1)), (7, .int (nof W_ s_ sh_ 0 t_)), (8, .int (nof W_ b_ bh 1 t_)), (16, .int y'), (12, .int od), (15, .int y15), (14, .int y14), (10, .int sh_), (9, .int bh), (11, .int (Int32.ofInt (-1))), (6, .int 1), (0, .index 338), (1, .int x1_), (2, .int z_), (3, .int y_), (4, .int nn), (5, .int q_)] [] h' := by
  obtain ⟨h2, F2, r2⟩ := noM (o := s_) (u_ := sh_) (b_ := 0) (t_ := t_) K_ H_
  have ld2 := ycv (d_ := 62) (mi := 216) (pc := 220) (cm := 214) (lo_ := [(12, .int od), (15, .int y15), (14, .int y14), (10, .int sh_), (9, .int bh), (13, .int t_), (7, .int s_), (8, .int b_), (16, .int y16), (11, .int (Int32.ofInt (-1))), (6, .int 1), (0, .index 338), (1, .int x1_), (2, .int z_), (3, .int y_), (4, .int nn), (5, .int q_)]) (st_ := [.int t_, .int 0, .int sh_, .int s_, .index 338]) (as_ := [.int s_, .int sh_, .int 0, .int t_]) (s' := []) rfl rfl (bcq_of (n_ := 338) (z_ := (12, 26)) H_.1 rfl) rfl (xcc_l (List.forall_mem_cons.mpr ⟨rfl, List.forall_mem_cons.mpr ⟨rfl, List.forall_mem_cons.mpr ⟨rfl, List.forall_mem_cons.mpr ⟨rfl, List.forall_mem_cons.mpr ⟨rfl, List.forall_mem_cons.mpr ⟨rfl, List.forall_mem_cons.mpr ⟨rfl, List.forall_mem_cons.mpr ⟨rfl, List.forall_mem_cons.mpr ⟨rfl, List.forall_mem_cons.mpr ⟨rfl, List.forall_mem_cons.mpr ⟨rfl, List.forall_mem_cons.mpr ⟨xidx_i (bcq_lt (bcq_of (n_ := 338) (z_ := (12, 26)) H_.1 rfl)), List.forall_mem_cons.mpr ⟨rfl, List.forall_mem_cons.mpr ⟨rfl, List.forall_mem_cons.mpr ⟨rfl, List.forall_mem_cons.mpr ⟨rfl, List.forall_mem_cons.mpr ⟨rfl, fun q_ hq => absurd hq List.not_mem_nil⟩⟩⟩⟩⟩⟩⟩⟩⟩⟩⟩⟩⟩⟩⟩⟩⟩) (fun t_ ht => absurd ht List.not_mem_nil) (Nat.le_of_ble_eq_true rfl)) r2
  have H2_ := frz_S H_ F2
  obtain ⟨h3, m3_, f3_, ld3⟩ := mbaWB (v1_ := x1_) (v2 := z_) (v3 := y_) (v4_ := nn) (v5 := q_) (v12 := od) (v15 := y15) (v14 := y14) (v10 := sh_) (v9 := bh) (v13 := t_) (v7 := s_) (v8 := b_) (v16 := y16) (v11 := (Int32.ofInt (-1))) (v21 := nof W_ s_ sh_ 0 t_) H2_.1
  have H3 := frz_S H2_ (frz_a m3_ f3_)
  obtain ⟨h4, F4, r4⟩ := noM (o := b_) (u_ := bh) (b_ := 1) (t_ := t_) K_ H3
  have ld4 := ycv (d_ := 62) (mi := 216) (pc := 233) (cm := 214) (lo_ := [(16, .int (nof W_ s_ sh_ 0 t_)), (12, .int od), (15, .int y15), (14, .int y14), (10, .int sh_), (9, .int bh), (13, .int t_), (7, .int s_), (8, .int b_), (11, .int (Int32.ofInt (-1))), (6, .int 1), (0, .index 338), (1, .int x1_), (2, .int z_), (3, .int y_), (4, .int nn), (5, .int q_)]) (st_ := [.int t_, .int 1, .int bh, .int b_, .index 338]) (as_ := [.int b_, .int bh, .int 1, .int t_]) (s' := []) rfl rfl (bcq_of (n_ := 338) (z_ := (12, 26)) H3.1 rfl) rfl (xcc_l (List.forall_mem_cons.mpr ⟨rfl, List.forall_mem_cons.mpr ⟨rfl, List.forall_mem_cons.mpr ⟨rfl, List.forall_mem_cons.mpr ⟨rfl, List.forall_mem_cons.mpr ⟨rfl, List.forall_mem_cons.mpr ⟨rfl, List.forall_mem_cons.mpr ⟨rfl, List.forall_mem_cons.mpr ⟨rfl, List.forall_mem_cons.mpr ⟨rfl, List.forall_mem_cons.mpr ⟨rfl, List.forall_mem_cons.mpr ⟨rfl, List.forall_mem_cons.mpr ⟨xidx_i (bcq_lt (bcq_of (n_ := 338) (z_ := (12, 26)) H3.1 rfl)), List.forall_mem_cons.mpr ⟨rfl, List.forall_mem_cons.mpr ⟨rfl, List.forall_mem_cons.mpr ⟨rfl, List.forall_mem_cons.mpr ⟨rfl, List.forall_mem_cons.mpr ⟨rfl, fun q_ hq => absurd hq List.not_mem_nil⟩⟩⟩⟩⟩⟩⟩⟩⟩⟩⟩⟩⟩⟩⟩⟩⟩) (fun t_ ht => absurd ht List.not_mem_nil) (Nat.le_of_ble_eq_true rfl)) r4
  obtain ⟨h5, m5_, f5_, ld5⟩ := mbaZB (v1_ := x1_) (v2 := z_) (v3 := y_) (v4_ := nn) (v5 := q_) (v16 := (nof W_ s_ sh_ 0 t_)) (v12 := od) (v15 := y15) (v14 := y14) (v10 := sh_) (v9 := bh) (v13 := t_) (v7 := s_) (v8 := b_) (v11 := (Int32.ofInt (-1))) (v22 := nof W_ b_ bh 1 t_) (frz_S H3 F4).1
  exact ⟨h5, nof W_ s_ sh_ 0 t_, frz_tr F2 (frz_tr (frz_a m3_ f3_) (frz_tr F4 (frz_a m5_ f5_))), fun D_ hD oo zq => ld2 D_ (by omega) _ (ld3 D_ (by omega) _ (ld4 D_ (by omega) _ (ld5 D_ (by omega) oo zq)))⟩
theorem mb_lp (K_ : okS W_ V) {x1_ z_ y_ nn q_ : Int32} {N_ : Nat} (en : nn = Int32.ofNat N_) (hN_ : N_ ≤ 60) (gz : isW (nR V) z_) (gy : isW (nR V) y_) (q0 : 0 ≤ q_.toInt) (q3_ : q_.toInt ≤ 3) : ∀ (n_ t_ : Nat) (s_ b_ sh_ bh od : Int32) (h_ : xH) (lo_ : xL), t_ + n_ = N_ → SM W_ V h_ → (∃ e_ : Int32, bpat h_ 341 2 = some (.int e_)) → (-20 ≤ s_.toInt ∧ s_.toInt ≤ 19) → (-20 ≤ b_.toInt ∧ b_.toInt ≤ 19) → (od = Int32.ofInt (-1) ∨ 0 ≤ od.toInt) → (lo_ = [(13, .int (Int32.ofNat t_)), (12, .int od), (11, .int (Int32.ofInt (-1))), (10, .int sh_), (9, .int bh), (8, .int b_), (7, .int s_), (6, .int 1), (0, .index 338), (1, .int x1_), (2, .int z_), (3, .int y_), (4, .int nn), (5, .int q_)] ∨ ∃ y14 y15 y16 : Int32, lo_ = [(13, .int (Int32.ofNat t_)), (7, .int s_), (8, .int b_), (16, .int y16), (12, .int od), (15, .int y15), (14, .int y14), (10, .int sh_), (9, .int bh), (11, .int (Int32.ofInt (-1))), (6, .int 1), (0, .index 338), (1, .int x1_), (2, .int z_), (3, .int y_), (4, .int nn), (5, .int q_)]) → ∃ h', (SM W_ V h' ∧ ysm h_ h') ∧ ∀ D_, 72 ≤ D_ → xrun D_ 216 110 lo_ [] h_ (some (.int (bgA q_ (bgn W_ V z_ y_ n_ t_ s_ b_ sh_ bh od))), h', []) := by
  intro n_
  have zz : (0 : Int32).toInt = 0 := rfl
  induction n_ with
  | zero =>
    intro t_ s_ b_ sh_ bh od h_ lo_ hi_ H_ oy bs bb hod hd_
    obtain ⟨e0_, oy⟩ := oy
    rcases hd_ with rfl | ⟨y14, y15, y16, rfl⟩
    · obtain ⟨h1, m1_, f1_, ld1⟩ := mbaXA (v1_ := x1_) (v2 := z_) (v3 := y_) (v4_ := nn) (v5 := q_) (v13 := (Int32.ofNat t_)) (v12 := od) (v11 := (Int32.ofInt (-1))) (v10 := sh_) (v9 := bh) (v8 := b_) (v7 := s_) H_.1 (by rw [en, i32n (by omega), i32n (by omega)]; omega)
      obtain ⟨h2, ⟨H2_, M2_⟩, r2⟩ := mE_A (x1_ := x1_) (z_ := z_) (y_ := y_) (nn := nn) (q_ := q_) (s_ := s_) (b_ := b_) (sh_ := sh_) (bh := bh) (cl_ := Int32.ofInt (-1)) (od := od) (u13 := Int32.ofNat t_) (y14 := 0) (y15 := 0) (y16 := 0) (frz_S H_ (frz_a m1_ f1_)) ⟨e0_, (f1_ _ _).trans oy⟩ q0 q3_
      exact ⟨h2, ⟨H2_, ysm_tr m1_ M2_⟩, fun D_ hD => ld1 D_ (by omega) _ (r2 D_ (by omega))⟩
    · obtain ⟨h1, m1_, f1_, ld1⟩ := mbaXB (v1_ := x1_) (v2 := z_) (v3 := y_) (v4_ := nn) (v5 := q_) (v13 := (Int32.ofNat t_)) (v7 := s_) (v8 := b_) (v16 := y16) (v12 := od) (v15 := y15) (v14 := y14) (v10 := sh_) (v9 := bh) (v11 := (Int32.ofInt (-1))) H_.1 (by rw [en, i32n (by omega), i32n (by omega)]; omega)
      obtain ⟨h2, ⟨H2_, M2_⟩, r2⟩ := mE_B (x1_ := x1_) (z_ := z_) (y_ := y_) (nn := nn) (q_ := q_) (s_ := s_) (b_ := b_) (sh_ := sh_) (bh := bh) (cl_ := Int32.ofInt (-1)) (od := od) (u13 := Int32.ofNat t_) (y14 := y14) (y15 := y15) (y16 := y16) (frz_S H_ (frz_a m1_ f1_)) ⟨e0_, (f1_ _ _).trans oy⟩ q0 q3_
      exact ⟨h2, ⟨H2_, ysm_tr m1_ M2_⟩, fun D_ hD => ld1 D_ (by omega) _ (r2 D_ (by omega))⟩
  | succ n_ ih_ =>
    intro t_ s_ b_ sh_ bh od h_ lo_ hi_ H_ oy bs bb hod hd_
    rcases hd_ with rfl | ⟨y14, y15, y16, rfl⟩
    · have y16 : Int32 := 0
      obtain ⟨h1, m1_, f1_, ld1⟩ := mbaTA (v1_ := x1_) (v2 := z_) (v3 := y_) (v4_ := nn) (v5 := q_) (v13 := (Int32.ofNat t_)) (v12 := od) (v11 := (Int32.ofInt (-1))) (v10 := sh_) (v9 := bh) (v8 := b_) (v7 := s_) H_.1 rfl (by rw [en, i32n (by omega), i32n (by omega)]; omega)
      have H1_ := frz_S H_ (frz_a m1_ f1_)
      obtain ⟨h2, F2, r2⟩ := nhM (o := s_) (a_ := bh) K_ H1_ gz bs.1 bs.2
      have ld2 := ycv (d_ := 68) (mi := 216) (pc := 129) (cm := 215) (lo_ := [(13, .int (Int32.ofNat t_)), (12, .int od), (11, .int (Int32.ofInt (-1))), (10, .int sh_), (9, .int bh), (8, .int b_), (7, .int s_), (6, .int 1), (0, .index 338), (1, .int x1_), (2, .int z_), (3, .int y_), (4, .int nn), (5, .int q_)]) (st_ := [.int bh, .int z_, .int s_, .index 338]) (as_ := [.int s_, .int z_, .int bh]) (s' := []) rfl rfl (bcq_of (n_ := 338) (z_ := (12, 26)) H1_.1 rfl) rfl (xcc_l (List.forall_mem_cons.mpr ⟨rfl, List.forall_mem_cons.mpr ⟨rfl, List.forall_mem_cons.mpr ⟨rfl, List.forall_mem_cons.mpr ⟨rfl, List.forall_mem_cons.mpr ⟨rfl, List.forall_mem_cons.mpr ⟨rfl, List.forall_mem_cons.mpr ⟨rfl, List.forall_mem_cons.mpr ⟨rfl, List.forall_mem_cons.mpr ⟨xidx_i (bcq_lt (bcq_of (n_ := 338) (z_ := (12, 26)) H1_.1 rfl)), List.forall_mem_cons.mpr ⟨rfl, List.forall_mem_cons.mpr ⟨rfl, List.forall_mem_cons.mpr ⟨rfl, List.forall_mem_cons.mpr ⟨rfl, List.forall_mem_cons.mpr ⟨rfl, fun q_ hq => absurd hq List.not_mem_nil⟩⟩⟩⟩⟩⟩⟩⟩⟩⟩⟩⟩⟩⟩) (fun t_ ht => absurd ht List.not_mem_nil) (Nat.le_of_ble_eq_true rfl)) r2
      have H2_ := frz_S H1_ F2
      obtain ⟨h3, m3_, f3_, ld3⟩ := mbaUA (v1_ := x1_) (v2 := z_) (v3 := y_) (v4_ := nn) (v5 := q_) (v13 := (Int32.ofNat t_)) (v12 := od) (v11 := (Int32.ofInt (-1))) (v10 := sh_) (v9 := bh) (v8 := b_) (v7 := s_) (v20 := numH W_ V z_ s_ bh) H2_.1
      have H3 := frz_S H2_ (frz_a m3_ f3_)
      obtain ⟨h4, F4, r4⟩ := nhM (o := b_) (a_ := sh_) K_ H3 gy bb.1 bb.2
      have ld4 := ycv (d_ := 68) (mi := 216) (pc := 140) (cm := 215) (lo_ := [(9, .int (numH W_ V z_ s_ bh)), (13, .int (Int32.ofNat t_)), (12, .int od), (11, .int (Int32.ofInt (-1))), (10, .int sh_), (8, .int b_), (7, .int s_), (6, .int 1), (0, .index 338), (1, .int x1_), (2, .int z_), (3, .int y_), (4, .int nn), (5, .int q_)]) (st_ := [.int sh_, .int y_, .int b_, .index 338]) (as_ := [.int b_, .int y_, .int sh_]) (s' := []) rfl rfl (bcq_of (n_ := 338) (z_ := (12, 26)) H3.1 rfl) rfl (xcc_l (List.forall_mem_cons.mpr ⟨rfl, List.forall_mem_cons.mpr ⟨rfl, List.forall_mem_cons.mpr ⟨rfl, List.forall_mem_cons.mpr ⟨rfl, List.forall_mem_cons.mpr ⟨rfl, List.forall_mem_cons.mpr ⟨rfl, List.forall_mem_cons.mpr ⟨rfl, List.forall_mem_cons.mpr ⟨rfl, List.forall_mem_cons.mpr ⟨xidx_i (bcq_lt (bcq_of (n_ := 338) (z_ := (12, 26)) H3.1 rfl)), List.forall_mem_cons.mpr ⟨rfl, List.forall_mem_cons.mpr ⟨rfl, List.forall_mem_cons.mpr ⟨rfl, List.forall_mem_cons.mpr ⟨rfl, List.forall_mem_cons.mpr ⟨rfl, fun q_ hq => absurd hq List.not_mem_nil⟩⟩⟩⟩⟩⟩⟩⟩⟩⟩⟩⟩⟩⟩) (fun t_ ht => absurd ht List.not_mem_nil) (Nat.le_of_ble_eq_true rfl)) r4
      have H4 := frz_S H3 F4
      have F04 : frz 342 h_ h4 := frz_tr (frz_a m1_ f1_) (frz_tr F2 (frz_tr (frz_a m3_ f3_) F4))
      have om : od = Int32.ofInt (-1) → od.toInt < 0 := fun q_ => by rw [q_]; decide
      have op_ : ¬ od = Int32.ofInt (-1) → 0 ≤ od.toInt := fun q_ => by
        rcases hod with q2_ | q2_
        · exact absurd q2_ q_
        · exact q2_
      by_cases O_ : od = Int32.ofInt (-1)
      · have O2_ := om O_
        by_cases P_ : (numH W_ V z_ s_ bh).toInt ≤ b_.toInt
        · by_cases Q_ : s_.toInt ≤ (numH W_ V y_ b_ sh_).toInt
          · obtain ⟨h5, m5_, f5_, ld5⟩ := mbaV5A (v1_ := x1_) (v2 := z_) (v3 := y_) (v4_ := nn) (v5 := q_) (v9 := (numH W_ V z_ s_ bh)) (v13 := (Int32.ofNat t_)) (v12 := od) (v11 := (Int32.ofInt (-1))) (v10 := sh_) (v8 := b_) (v7 := s_) (v20 := numH W_ V y_ b_ sh_) H4.1 O_ (by omega) (by omega)
            rw [i32s] at ld5
            have H5 := frz_S H4 (frz_a m5_ f5_)
            have eb : bgn W_ V z_ y_ (n_ + 1) t_ s_ b_ sh_ bh od = (s_, b_, Int32.ofNat t_, od) := pif_t ⟨P_, Q_⟩
            rw [eb]
            have it := i32n (i_ := t_) (by omega)
            have it1 := i32n (i_ := t_ + 1) (by omega)
            have F5 : frz 342 h_ h5 := frz_tr F04 (frz_a m5_ f5_)
            obtain ⟨e0_, oy0⟩ := oy
            have nm1 : ¬ Int32.ofNat t_ = Int32.ofInt (-1) := fun q_ => by
              have q2_ := congrArg Int32.toInt q_
              rw [it, im1_] at q2_
              omega
            have xit : ∃ h6, (ysm h5 h6 ∧ ∀ c_ j_, bpat h6 c_ j_ = bpat h5 c_ j_) ∧ bldD 60 216 110 [(13, .int (Int32.ofNat (t_ + 1))), (11, .int (Int32.ofNat t_)), (12, .int od), (15, .int 1), (14, .int 1), (10, .int (numH W_ V y_ b_ sh_)), (9, .int (numH W_ V z_ s_ bh)), (8, .int b_), (7, .int s_), (6, .int 1), (0, .index 338), (1, .int x1_), (2, .int z_), (3, .int y_), (4, .int nn), (5, .int q_)] [] h5 248 [(13, .int (Int32.ofNat (t_ + 1))), (11, .int (Int32.ofNat t_)), (12, .int od), (15, .int 1), (14, .int 1), (10, .int (numH W_ V y_ b_ sh_)), (9, .int (numH W_ V z_ s_ bh)), (8, .int b_), (7, .int s_), (6, .int 1), (0, .index 338), (1, .int x1_), (2, .int z_), (3, .int y_), (4, .int nn), (5, .int q_)] [] h6 := by
              by_cases ge : t_ + 1 = N_
              · obtain ⟨h6, m6_, f6_, r6⟩ := mbaY2A (v1_ := x1_) (v2 := z_) (v3 := y_) (v4_ := nn) (v5 := q_) (v13 := (Int32.ofNat (t_ + 1))) (v11 := (Int32.ofNat t_)) (v12 := od) (v15 := 1) (v14 := 1) (v10 := (numH W_ V y_ b_ sh_)) (v9 := (numH W_ V z_ s_ bh)) (v8 := b_) (v7 := s_) m5_.1 (by rw [en, it1, i32n (by omega)]; omega)
                exact ⟨h6, ⟨m6_, f6_⟩, r6⟩
              · obtain ⟨h6, m6_, f6_, r6⟩ := mbaYA (v1_ := x1_) (v2 := z_) (v3 := y_) (v4_ := nn) (v5 := q_) (v13 := (Int32.ofNat (t_ + 1))) (v11 := (Int32.ofNat t_)) (v12 := od) (v15 := 1) (v14 := 1) (v10 := (numH W_ V y_ b_ sh_)) (v9 := (numH W_ V z_ s_ bh)) (v8 := b_) (v7 := s_) m5_.1 nm1 (by rw [en, it1, i32n (by omega)]; omega)
                exact ⟨h6, ⟨m6_, f6_⟩, r6⟩
            obtain ⟨h6, ⟨m6_, f6_⟩, ld6⟩ := xit
            obtain ⟨h7, ⟨H7, M7_⟩, r7⟩ := mE_CA (x1_ := x1_) (z_ := z_) (y_ := y_) (nn := nn) (q_ := q_) (s_ := s_) (b_ := b_) (sh_ := numH W_ V y_ b_ sh_) (bh := numH W_ V z_ s_ bh) (cl_ := Int32.ofNat t_) (od := od) (u13 := Int32.ofNat (t_ + 1)) (y14 := 1) (y15 := 1) (y16 := y16) (frz_S H5 (frz_a m6_ f6_)) ⟨e0_, (f6_ _ _).trans ((F5.2 341 2 (by omega) (by omega) (by omega)).trans oy0)⟩ q0 q3_
            exact ⟨h7, ⟨H7, ysm_tr F5.1 (ysm_tr m6_ M7_)⟩, fun D_ hD => ld1 D_ (by omega) _ (ld2 D_ (by omega) _ (ld3 D_ (by omega) _ (ld4 D_ (by omega) _ (ld5 D_ (by omega) _ (ld6 D_ (by omega) _ (r7 D_ (by omega)))))))⟩
          · obtain ⟨h5, m5_, f5_, ld5⟩ := mbaV3A (v1_ := x1_) (v2 := z_) (v3 := y_) (v4_ := nn) (v5 := q_) (v9 := (numH W_ V z_ s_ bh)) (v13 := (Int32.ofNat t_)) (v12 := od) (v11 := (Int32.ofInt (-1))) (v10 := sh_) (v8 := b_) (v7 := s_) (v20 := numH W_ V y_ b_ sh_) H4.1 O_ (by omega) (by omega)
            have H5 := frz_S H4 (frz_a m5_ f5_)
            obtain ⟨h6, y', F6, ld6⟩ := mb_nA (x1_ := x1_) (z_ := z_) (y_ := y_) (nn := nn) (q_ := q_) (s_ := s_) (b_ := b_) (sh_ := numH W_ V y_ b_ sh_) (bh := numH W_ V z_ s_ bh) (od := (Int32.ofNat t_)) (t_ := Int32.ofNat t_) (y14 := 1) (y15 := 0) (y16 := y16) K_ H5
            rw [i32s] at ld6
            have eo : odF od (Int32.ofNat t_) ((numH W_ V z_ s_ bh).toInt ≤ b_.toInt) (s_.toInt ≤ (numH W_ V y_ b_ sh_).toInt) = (Int32.ofNat t_) := by
              unfold odF
              exact pif_t ⟨by omega, by omega⟩
            have eb : bgn W_ V z_ y_ (n_ + 1) t_ s_ b_ sh_ bh od = bgn W_ V z_ y_ n_ (t_ + 1) (nof W_ s_ (numH W_ V y_ b_ sh_) 0 (Int32.ofNat t_)) (nof W_ b_ (numH W_ V z_ s_ bh) 1 (Int32.ofNat t_)) (numH W_ V y_ b_ sh_) (numH W_ V z_ s_ bh) (odF od (Int32.ofNat t_) ((numH W_ V z_ s_ bh).toInt ≤ b_.toInt) (s_.toInt ≤ (numH W_ V y_ b_ sh_).toInt)) := pif_f (fun q_ => by omega)
            have F_ : frz 342 h_ h6 := frz_tr F04 (frz_tr (frz_a m5_ f5_) F6)
            have ok_ := odF_ok (od := od) (t_ := t_) (P_ := (numH W_ V z_ s_ bh).toInt ≤ b_.toInt) (Q_ := s_.toInt ≤ (numH W_ V y_ b_ sh_).toInt) (by omega) hod
            obtain ⟨e0_, oy0⟩ := oy
            obtain ⟨h7, ⟨H7, M7_⟩, r7⟩ := ih_ (t_ + 1) (nof W_ s_ (numH W_ V y_ b_ sh_) 0 (Int32.ofNat t_)) (nof W_ b_ (numH W_ V z_ s_ bh) 1 (Int32.ofNat t_)) (numH W_ V y_ b_ sh_) (numH W_ V z_ s_ bh) (odF od (Int32.ofNat t_) ((numH W_ V z_ s_ bh).toInt ≤ b_.toInt) (s_.toInt ≤ (numH W_ V y_ b_ sh_).toInt)) h6 _ (by omega) (frz_S H_ F_) ⟨e0_, (F_.2 341 2 (by omega) (by omega) (by omega)).trans oy0⟩ hld_b hld_b ok_ (Or.inr ⟨1, 0, y', rfl⟩)
            rw [← eb, eo] at r7
            exact ⟨h7, ⟨H7, ysm_tr F_.1 M7_⟩, fun D_ hD => ld1 D_ (by omega) _ (ld2 D_ (by omega) _ (ld3 D_ (by omega) _ (ld4 D_ (by omega) _ (ld5 D_ (by omega) _ (ld6 D_ (by omega) _ (r7 D_ hD))))))⟩
        · by_cases Q_ : s_.toInt ≤ (numH W_ V y_ b_ sh_).toInt
          · obtain ⟨h5, m5_, f5_, ld5⟩ := mbaV1A (v1_ := x1_) (v2 := z_) (v3 := y_) (v4_ := nn) (v5 := q_) (v9 := (numH W_ V z_ s_ bh)) (v13 := (Int32.ofNat t_)) (v12 := od) (v11 := (Int32.ofInt (-1))) (v10 := sh_) (v8 := b_) (v7 := s_) (v20 := numH W_ V y_ b_ sh_) H4.1 O_ (by omega) (by omega)
            have H5 := frz_S H4 (frz_a m5_ f5_)
            obtain ⟨h6, y', F6, ld6⟩ := mb_nA (x1_ := x1_) (z_ := z_) (y_ := y_) (nn := nn) (q_ := q_) (s_ := s_) (b_ := b_) (sh_ := numH W_ V y_ b_ sh_) (bh := numH W_ V z_ s_ bh) (od := (Int32.ofNat t_)) (t_ := Int32.ofNat t_) (y14 := 0) (y15 := 1) (y16 := y16) K_ H5
            rw [i32s] at ld6
            have eo : odF od (Int32.ofNat t_) ((numH W_ V z_ s_ bh).toInt ≤ b_.toInt) (s_.toInt ≤ (numH W_ V y_ b_ sh_).toInt) = (Int32.ofNat t_) := by
              unfold odF
              exact pif_t ⟨by omega, by omega⟩
            have eb : bgn W_ V z_ y_ (n_ + 1) t_ s_ b_ sh_ bh od = bgn W_ V z_ y_ n_ (t_ + 1) (nof W_ s_ (numH W_ V y_ b_ sh_) 0 (Int32.ofNat t_)) (nof W_ b_ (numH W_ V z_ s_ bh) 1 (Int32.ofNat t_)) (numH W_ V y_ b_ sh_) (numH W_ V z_ s_ bh) (odF od (Int32.ofNat t_) ((numH W_ V z_ s_ bh).toInt ≤ b_.toInt) (s_.toInt ≤ (numH W_ V y_ b_ sh_).toInt)) := pif_f (fun q_ => by omega)
            have F_ : frz 342 h_ h6 := frz_tr F04 (frz_tr (frz_a m5_ f5_) F6)
            have ok_ := odF_ok (od := od) (t_ := t_) (P_ := (numH W_ V z_ s_ bh).toInt ≤ b_.toInt) (Q_ := s_.toInt ≤ (numH W_ V y_ b_ sh_).toInt) (by omega) hod
            obtain ⟨e0_, oy0⟩ := oy
            obtain ⟨h7, ⟨H7, M7_⟩, r7⟩ := ih_ (t_ + 1) (nof W_ s_ (numH W_ V y_ b_ sh_) 0 (Int32.ofNat t_)) (nof W_ b_ (numH W_ V z_ s_ bh) 1 (Int32.ofNat t_)) (numH W_ V y_ b_ sh_) (numH W_ V z_ s_ bh) (odF od (Int32.ofNat t_) ((numH W_ V z_ s_ bh).toInt ≤ b_.toInt) (s_.toInt ≤ (numH W_ V y_ b_ sh_).toInt)) h6 _ (by omega) (frz_S H_ F_) ⟨e0_, (F_.2 341 2 (by omega) (by omega) (by omega)).trans oy0⟩ hld_b hld_b ok_ (Or.inr ⟨0, 1, y', rfl⟩)
            rw [← eb, eo] at r7
            exact ⟨h7, ⟨H7, ysm_tr F_.1 M7_⟩, fun D_ hD => ld1 D_ (by omega) _ (ld2 D_ (by omega) _ (ld3 D_ (by omega) _ (ld4 D_ (by omega) _ (ld5 D_ (by omega) _ (ld6 D_ (by omega) _ (r7 D_ hD))))))⟩
          · obtain ⟨h5, m5_, f5_, ld5⟩ := mbaV0A (v1_ := x1_) (v2 := z_) (v3 := y_) (v4_ := nn) (v5 := q_) (v9 := (numH W_ V z_ s_ bh)) (v13 := (Int32.ofNat t_)) (v12 := od) (v11 := (Int32.ofInt (-1))) (v10 := sh_) (v8 := b_) (v7 := s_) (v20 := numH W_ V y_ b_ sh_) H4.1 O_ (by omega) (by omega)
            have H5 := frz_S H4 (frz_a m5_ f5_)
            obtain ⟨h6, y', F6, ld6⟩ := mb_nA (x1_ := x1_) (z_ := z_) (y_ := y_) (nn := nn) (q_ := q_) (s_ := s_) (b_ := b_) (sh_ := numH W_ V y_ b_ sh_) (bh := numH W_ V z_ s_ bh) (od := od) (t_ := Int32.ofNat t_) (y14 := 0) (y15 := 0) (y16 := y16) K_ H5
            rw [i32s] at ld6
            have eo : odF od (Int32.ofNat t_) ((numH W_ V z_ s_ bh).toInt ≤ b_.toInt) (s_.toInt ≤ (numH W_ V y_ b_ sh_).toInt) = od := by
              unfold odF
              exact pif_f (fun q_ => by omega)
            have eb : bgn W_ V z_ y_ (n_ + 1) t_ s_ b_ sh_ bh od = bgn W_ V z_ y_ n_ (t_ + 1) (nof W_ s_ (numH W_ V y_ b_ sh_) 0 (Int32.ofNat t_)) (nof W_ b_ (numH W_ V z_ s_ bh) 1 (Int32.ofNat t_)) (numH W_ V y_ b_ sh_) (numH W_ V z_ s_ bh) (odF od (Int32.ofNat t_) ((numH W_ V z_ s_ bh).toInt ≤ b_.toInt) (s_.toInt ≤ (numH W_ V y_ b_ sh_).toInt)) := pif_f (fun q_ => by omega)
            have F_ : frz 342 h_ h6 := frz_tr F04 (frz_tr (frz_a m5_ f5_) F6)
            have ok_ := odF_ok (od := od) (t_ := t_) (P_ := (numH W_ V z_ s_ bh).toInt ≤ b_.toInt) (Q_ := s_.toInt ≤ (numH W_ V y_ b_ sh_).toInt) (by omega) hod
            obtain ⟨e0_, oy0⟩ := oy
            obtain ⟨h7, ⟨H7, M7_⟩, r7⟩ := ih_ (t_ + 1) (nof W_ s_ (numH W_ V y_ b_ sh_) 0 (Int32.ofNat t_)) (nof W_ b_ (numH W_ V z_ s_ bh) 1 (Int32.ofNat t_)) (numH W_ V y_ b_ sh_) (numH W_ V z_ s_ bh) (odF od (Int32.ofNat t_) ((numH W_ V z_ s_ bh).toInt ≤ b_.toInt) (s_.toInt ≤ (numH W_ V y_ b_ sh_).toInt)) h6 _ (by omega) (frz_S H_ F_) ⟨e0_, (F_.2 341 2 (by omega) (by omega) (by omega)).trans oy0⟩ hld_b hld_b ok_ (Or.inr ⟨0, 0, y', rfl⟩)
            rw [← eb, eo] at r7
            exact ⟨h7, ⟨H7, ysm_tr F_.1 M7_⟩, fun D_ hD => ld1 D_ (by omega) _ (ld2 D_ (by omega) _ (ld3 D_ (by omega) _ (ld4 D_ (by omega) _ (ld5 D_ (by omega) _ (ld6 D_ (by omega) _ (r7 D_ hD))))))⟩
      · have O2_ := op_ O_
        by_cases P_ : (numH W_ V z_ s_ bh).toInt ≤ b_.toInt
        · by_cases Q_ : s_.toInt ≤ (numH W_ V y_ b_ sh_).toInt
          · obtain ⟨h5, m5_, f5_, ld5⟩ := mbaV5nA (v1_ := x1_) (v2 := z_) (v3 := y_) (v4_ := nn) (v5 := q_) (v9 := (numH W_ V z_ s_ bh)) (v13 := (Int32.ofNat t_)) (v12 := od) (v11 := (Int32.ofInt (-1))) (v10 := sh_) (v8 := b_) (v7 := s_) (v20 := numH W_ V y_ b_ sh_) H4.1 O_ (by omega) (by omega)
            rw [i32s] at ld5
            have H5 := frz_S H4 (frz_a m5_ f5_)
            have eb : bgn W_ V z_ y_ (n_ + 1) t_ s_ b_ sh_ bh od = (s_, b_, Int32.ofNat t_, od) := pif_t ⟨P_, Q_⟩
            rw [eb]
            have it := i32n (i_ := t_) (by omega)
            have it1 := i32n (i_ := t_ + 1) (by omega)
            have F5 : frz 342 h_ h5 := frz_tr F04 (frz_a m5_ f5_)
            obtain ⟨e0_, oy0⟩ := oy
            have nm1 : ¬ Int32.ofNat t_ = Int32.ofInt (-1) := fun q_ => by
              have q2_ := congrArg Int32.toInt q_
              rw [it, im1_] at q2_
              omega
            have xit : ∃ h6, (ysm h5 h6 ∧ ∀ c_ j_, bpat h6 c_ j_ = bpat h5 c_ j_) ∧ bldD 60 216 110 [(13, .int (Int32.ofNat (t_ + 1))), (11, .int (Int32.ofNat t_)), (12, .int od), (15, .int 1), (14, .int 1), (10, .int (numH W_ V y_ b_ sh_)), (9, .int (numH W_ V z_ s_ bh)), (8, .int b_), (7, .int s_), (6, .int 1), (0, .index 338), (1, .int x1_), (2, .int z_), (3, .int y_), (4, .int nn), (5, .int q_)] [] h5 248 [(13, .int (Int32.ofNat (t_ + 1))), (11, .int (Int32.ofNat t_)), (12, .int od), (15, .int 1), (14, .int 1), (10, .int (numH W_ V y_ b_ sh_)), (9, .int (numH W_ V z_ s_ bh)), (8, .int b_), (7, .int s_), (6, .int 1), (0, .index 338), (1, .int x1_), (2, .int z_), (3, .int y_), (4, .int nn), (5, .int q_)] [] h6 := by
              by_cases ge : t_ + 1 = N_
              · obtain ⟨h6, m6_, f6_, r6⟩ := mbaY2A (v1_ := x1_) (v2 := z_) (v3 := y_) (v4_ := nn) (v5 := q_) (v13 := (Int32.ofNat (t_ + 1))) (v11 := (Int32.ofNat t_)) (v12 := od) (v15 := 1) (v14 := 1) (v10 := (numH W_ V y_ b_ sh_)) (v9 := (numH W_ V z_ s_ bh)) (v8 := b_) (v7 := s_) m5_.1 (by rw [en, it1, i32n (by omega)]; omega)
                exact ⟨h6, ⟨m6_, f6_⟩, r6⟩
              · obtain ⟨h6, m6_, f6_, r6⟩ := mbaYA (v1_ := x1_) (v2 := z_) (v3 := y_) (v4_ := nn) (v5 := q_) (v13 := (Int32.ofNat (t_ + 1))) (v11 := (Int32.ofNat t_)) (v12 := od) (v15 := 1) (v14 := 1) (v10 := (numH W_ V y_ b_ sh_)) (v9 := (numH W_ V z_ s_ bh)) (v8 := b_) (v7 := s_) m5_.1 nm1 (by rw [en, it1, i32n (by omega)]; omega)
                exact ⟨h6, ⟨m6_, f6_⟩, r6⟩
            obtain ⟨h6, ⟨m6_, f6_⟩, ld6⟩ := xit
            obtain ⟨h7, ⟨H7, M7_⟩, r7⟩ := mE_CA (x1_ := x1_) (z_ := z_) (y_ := y_) (nn := nn) (q_ := q_) (s_ := s_) (b_ := b_) (sh_ := numH W_ V y_ b_ sh_) (bh := numH W_ V z_ s_ bh) (cl_ := Int32.ofNat t_) (od := od) (u13 := Int32.ofNat (t_ + 1)) (y14 := 1) (y15 := 1) (y16 := y16) (frz_S H5 (frz_a m6_ f6_)) ⟨e0_, (f6_ _ _).trans ((F5.2 341 2 (by omega) (by omega) (by omega)).trans oy0)⟩ q0 q3_
            exact ⟨h7, ⟨H7, ysm_tr F5.1 (ysm_tr m6_ M7_)⟩, fun D_ hD => ld1 D_ (by omega) _ (ld2 D_ (by omega) _ (ld3 D_ (by omega) _ (ld4 D_ (by omega) _ (ld5 D_ (by omega) _ (ld6 D_ (by omega) _ (r7 D_ (by omega)))))))⟩
          · obtain ⟨h5, m5_, f5_, ld5⟩ := mbaV4A (v1_ := x1_) (v2 := z_) (v3 := y_) (v4_ := nn) (v5 := q_) (v9 := (numH W_ V z_ s_ bh)) (v13 := (Int32.ofNat t_)) (v12 := od) (v11 := (Int32.ofInt (-1))) (v10 := sh_) (v8 := b_) (v7 := s_) (v20 := numH W_ V y_ b_ sh_) H4.1 O_ (by omega) (by omega)
            have H5 := frz_S H4 (frz_a m5_ f5_)
            obtain ⟨h6, y', F6, ld6⟩ := mb_nA (x1_ := x1_) (z_ := z_) (y_ := y_) (nn := nn) (q_ := q_) (s_ := s_) (b_ := b_) (sh_ := numH W_ V y_ b_ sh_) (bh := numH W_ V z_ s_ bh) (od := od) (t_ := Int32.ofNat t_) (y14 := 1) (y15 := 0) (y16 := y16) K_ H5
            rw [i32s] at ld6
            have eo : odF od (Int32.ofNat t_) ((numH W_ V z_ s_ bh).toInt ≤ b_.toInt) (s_.toInt ≤ (numH W_ V y_ b_ sh_).toInt) = od := by
              unfold odF
              exact pif_f (fun q_ => by omega)
            have eb : bgn W_ V z_ y_ (n_ + 1) t_ s_ b_ sh_ bh od = bgn W_ V z_ y_ n_ (t_ + 1) (nof W_ s_ (numH W_ V y_ b_ sh_) 0 (Int32.ofNat t_)) (nof W_ b_ (numH W_ V z_ s_ bh) 1 (Int32.ofNat t_)) (numH W_ V y_ b_ sh_) (numH W_ V z_ s_ bh) (odF od (Int32.ofNat t_) ((numH W_ V z_ s_ bh).toInt ≤ b_.toInt) (s_.toInt ≤ (numH W_ V y_ b_ sh_).toInt)) := pif_f (fun q_ => by omega)
            have F_ : frz 342 h_ h6 := frz_tr F04 (frz_tr (frz_a m5_ f5_) F6)
            have ok_ := odF_ok (od := od) (t_ := t_) (P_ := (numH W_ V z_ s_ bh).toInt ≤ b_.toInt) (Q_ := s_.toInt ≤ (numH W_ V y_ b_ sh_).toInt) (by omega) hod
            obtain ⟨e0_, oy0⟩ := oy
            obtain ⟨h7, ⟨H7, M7_⟩, r7⟩ := ih_ (t_ + 1) (nof W_ s_ (numH W_ V y_ b_ sh_) 0 (Int32.ofNat t_)) (nof W_ b_ (numH W_ V z_ s_ bh) 1 (Int32.ofNat t_)) (numH W_ V y_ b_ sh_) (numH W_ V z_ s_ bh) (odF od (Int32.ofNat t_) ((numH W_ V z_ s_ bh).toInt ≤ b_.toInt) (s_.toInt ≤ (numH W_ V y_ b_ sh_).toInt)) h6 _ (by omega) (frz_S H_ F_) ⟨e0_, (F_.2 341 2 (by omega) (by omega) (by omega)).trans oy0⟩ hld_b hld_b ok_ (Or.inr ⟨1, 0, y', rfl⟩)
            rw [← eb, eo] at r7
            exact ⟨h7, ⟨H7, ysm_tr F_.1 M7_⟩, fun D_ hD => ld1 D_ (by omega) _ (ld2 D_ (by omega) _ (ld3 D_ (by omega) _ (ld4 D_ (by omega) _ (ld5 D_ (by omega) _ (ld6 D_ (by omega) _ (r7 D_ hD))))))⟩
        · by_cases Q_ : s_.toInt ≤ (numH W_ V y_ b_ sh_).toInt
          · obtain ⟨h5, m5_, f5_, ld5⟩ := mbaV2A (v1_ := x1_) (v2 := z_) (v3 := y_) (v4_ := nn) (v5 := q_) (v9 := (numH W_ V z_ s_ bh)) (v13 := (Int32.ofNat t_)) (v12 := od) (v11 := (Int32.ofInt (-1))) (v10 := sh_) (v8 := b_) (v7 := s_) (v20 := numH W_ V y_ b_ sh_) H4.1 O_ (by omega) (by omega)
            have H5 := frz_S H4 (frz_a m5_ f5_)
            obtain ⟨h6, y', F6, ld6⟩ := mb_nA (x1_ := x1_) (z_ := z_) (y_ := y_) (nn := nn) (q_ := q_) (s_ := s_) (b_ := b_) (sh_ := numH W_ V y_ b_ sh_) (bh := numH W_ V z_ s_ bh) (od := od) (t_ := Int32.ofNat t_) (y14 := 0) (y15 := 1) (y16 := y16) K_ H5
            rw [i32s] at ld6
            have eo : odF od (Int32.ofNat t_) ((numH W_ V z_ s_ bh).toInt ≤ b_.toInt) (s_.toInt ≤ (numH W_ V y_ b_ sh_).toInt) = od := by
              unfold odF
              exact pif_f (fun q_ => by omega)
            have eb : bgn W_ V z_ y_ (n_ + 1) t_ s_ b_ sh_ bh od = bgn W_ V z_ y_ n_ (t_ + 1) (nof W_ s_ (numH W_ V y_ b_ sh_) 0 (Int32.ofNat t_)) (nof W_ b_ (numH W_ V z_ s_ bh) 1 (Int32.ofNat t_)) (numH W_ V y_ b_ sh_) (numH W_ V z_ s_ bh) (odF od (Int32.ofNat t_) ((numH W_ V z_ s_ bh).toInt ≤ b_.toInt) (s_.toInt ≤ (numH W_ V y_ b_ sh_).toInt)) := pif_f (fun q_ => by omega)
            have F_ : frz 342 h_ h6 := frz_tr F04 (frz_tr (frz_a m5_ f5_) F6)
            have ok_ := odF_ok (od := od) (t_ := t_) (P_ := (numH W_ V z_ s_ bh).toInt ≤ b_.toInt) (Q_ := s_.toInt ≤ (numH W_ V y_ b_ sh_).toInt) (by omega) hod
            obtain ⟨e0_, oy0⟩ := oy
            obtain ⟨h7, ⟨H7, M7_⟩, r7⟩ := ih_ (t_ + 1) (nof W_ s_ (numH W_ V y_ b_ sh_) 0 (Int32.ofNat t_)) (nof W_ b_ (numH W_ V z_ s_ bh) 1 (Int32.ofNat t_)) (numH W_ V y_ b_ sh_) (numH W_ V z_ s_ bh) (odF od (Int32.ofNat t_) ((numH W_ V z_ s_ bh).toInt ≤ b_.toInt) (s_.toInt ≤ (numH W_ V y_ b_ sh_).toInt)) h6 _ (by omega) (frz_S H_ F_) ⟨e0_, (F_.2 341 2 (by omega) (by omega) (by omega)).trans oy0⟩ hld_b hld_b ok_ (Or.inr ⟨0, 1, y', rfl⟩)
            rw [← eb, eo] at r7
            exact ⟨h7, ⟨H7, ysm_tr F_.1 M7_⟩, fun D_ hD => ld1 D_ (by omega) _ (ld2 D_ (by omega) _ (ld3 D_ (by omega) _ (ld4 D_ (by omega) _ (ld5 D_ (by omega) _ (ld6 D_ (by omega) _ (r7 D_ hD))))))⟩
          · obtain ⟨h5, m5_, f5_, ld5⟩ := mbaV0nA (v1_ := x1_) (v2 := z_) (v3 := y_) (v4_ := nn) (v5 := q_) (v9 := (numH W_ V z_ s_ bh)) (v13 := (Int32.ofNat t_)) (v12 := od) (v11 := (Int32.ofInt (-1))) (v10 := sh_) (v8 := b_) (v7 := s_) (v20 := numH W_ V y_ b_ sh_) H4.1 O_ (by omega) (by omega)
            have H5 := frz_S H4 (frz_a m5_ f5_)
            obtain ⟨h6, y', F6, ld6⟩ := mb_nA (x1_ := x1_) (z_ := z_) (y_ := y_) (nn := nn) (q_ := q_) (s_ := s_) (b_ := b_) (sh_ := numH W_ V y_ b_ sh_) (bh := numH W_ V z_ s_ bh) (od := od) (t_ := Int32.ofNat t_) (y14 := 0) (y15 := 0) (y16 := y16) K_ H5
            rw [i32s] at ld6
            have eo : odF od (Int32.ofNat t_) ((numH W_ V z_ s_ bh).toInt ≤ b_.toInt) (s_.toInt ≤ (numH W_ V y_ b_ sh_).toInt) = od := by
              unfold odF
              exact pif_f (fun q_ => by omega)
            have eb : bgn W_ V z_ y_ (n_ + 1) t_ s_ b_ sh_ bh od = bgn W_ V z_ y_ n_ (t_ + 1) (nof W_ s_ (numH W_ V y_ b_ sh_) 0 (Int32.ofNat t_)) (nof W_ b_ (numH W_ V z_ s_ bh) 1 (Int32.ofNat t_)) (numH W_ V y_ b_ sh_) (numH W_ V z_ s_ bh) (odF od (Int32.ofNat t_) ((numH W_ V z_ s_ bh).toInt ≤ b_.toInt) (s_.toInt ≤ (numH W_ V y_ b_ sh_).toInt)) := pif_f (fun q_ => by omega)
            have F_ : frz 342 h_ h6 := frz_tr F04 (frz_tr (frz_a m5_ f5_) F6)
            have ok_ := odF_ok (od := od) (t_ := t_) (P_ := (numH W_ V z_ s_ bh).toInt ≤ b_.toInt) (Q_ := s_.toInt ≤ (numH W_ V y_ b_ sh_).toInt) (by omega) hod
            obtain ⟨e0_, oy0⟩ := oy
            obtain ⟨h7, ⟨H7, M7_⟩, r7⟩ := ih_ (t_ + 1) (nof W_ s_ (numH W_ V y_ b_ sh_) 0 (Int32.ofNat t_)) (nof W_ b_ (numH W_ V z_ s_ bh) 1 (Int32.ofNat t_)) (numH W_ V y_ b_ sh_) (numH W_ V z_ s_ bh) (odF od (Int32.ofNat t_) ((numH W_ V z_ s_ bh).toInt ≤ b_.toInt) (s_.toInt ≤ (numH W_ V y_ b_ sh_).toInt)) h6 _ (by omega) (frz_S H_ F_) ⟨e0_, (F_.2 341 2 (by omega) (by omega) (by omega)).trans oy0⟩ hld_b hld_b ok_ (Or.inr ⟨0, 0, y', rfl⟩)
            rw [← eb, eo] at r7
            exact ⟨h7, ⟨H7, ysm_tr F_.1 M7_⟩, fun D_ hD => ld1 D_ (by omega) _ (ld2 D_ (by omega) _ (ld3 D_ (by omega) _ (ld4 D_ (by omega) _ (ld5 D_ (by omega) _ (ld6 D_ (by omega) _ (r7 D_ hD))))))⟩
    · obtain ⟨h1, m1_, f1_, ld1⟩ := mbaTB (v1_ := x1_) (v2 := z_) (v3 := y_) (v4_ := nn) (v5 := q_) (v13 := (Int32.ofNat t_)) (v7 := s_) (v8 := b_) (v16 := y16) (v12 := od) (v15 := y15) (v14 := y14) (v10 := sh_) (v9 := bh) (v11 := (Int32.ofInt (-1))) H_.1 rfl (by rw [en, i32n (by omega), i32n (by omega)]; omega)
      have H1_ := frz_S H_ (frz_a m1_ f1_)
      obtain ⟨h2, F2, r2⟩ := nhM (o := s_) (a_ := bh) K_ H1_ gz bs.1 bs.2
      have ld2 := ycv (d_ := 68) (mi := 216) (pc := 129) (cm := 215) (lo_ := [(13, .int (Int32.ofNat t_)), (7, .int s_), (8, .int b_), (16, .int y16), (12, .int od), (15, .int y15), (14, .int y14), (10, .int sh_), (9, .int bh), (11, .int (Int32.ofInt (-1))), (6, .int 1), (0, .index 338), (1, .int x1_), (2, .int z_), (3, .int y_), (4, .int nn), (5, .int q_)]) (st_ := [.int bh, .int z_, .int s_, .index 338]) (as_ := [.int s_, .int z_, .int bh]) (s' := []) rfl rfl (bcq_of (n_ := 338) (z_ := (12, 26)) H1_.1 rfl) rfl (xcc_l (List.forall_mem_cons.mpr ⟨rfl, List.forall_mem_cons.mpr ⟨rfl, List.forall_mem_cons.mpr ⟨rfl, List.forall_mem_cons.mpr ⟨rfl, List.forall_mem_cons.mpr ⟨rfl, List.forall_mem_cons.mpr ⟨rfl, List.forall_mem_cons.mpr ⟨rfl, List.forall_mem_cons.mpr ⟨rfl, List.forall_mem_cons.mpr ⟨rfl, List.forall_mem_cons.mpr ⟨rfl, List.forall_mem_cons.mpr ⟨rfl, List.forall_mem_cons.mpr ⟨xidx_i (bcq_lt (bcq_of (n_ := 338) (z_ := (12, 26)) H1_.1 rfl)), List.forall_mem_cons.mpr ⟨rfl, List.forall_mem_cons.mpr ⟨rfl, List.forall_mem_cons.mpr ⟨rfl, List.forall_mem_cons.mpr ⟨rfl, List.forall_mem_cons.mpr ⟨rfl, fun q_ hq => absurd hq List.not_mem_nil⟩⟩⟩⟩⟩⟩⟩⟩⟩⟩⟩⟩⟩⟩⟩⟩⟩) (fun t_ ht => absurd ht List.not_mem_nil) (Nat.le_of_ble_eq_true rfl)) r2
      have H2_ := frz_S H1_ F2
      obtain ⟨h3, m3_, f3_, ld3⟩ := mbaUB (v1_ := x1_) (v2 := z_) (v3 := y_) (v4_ := nn) (v5 := q_) (v13 := (Int32.ofNat t_)) (v7 := s_) (v8 := b_) (v16 := y16) (v12 := od) (v15 := y15) (v14 := y14) (v10 := sh_) (v9 := bh) (v11 := (Int32.ofInt (-1))) (v20 := numH W_ V z_ s_ bh) H2_.1
      have H3 := frz_S H2_ (frz_a m3_ f3_)
      obtain ⟨h4, F4, r4⟩ := nhM (o := b_) (a_ := sh_) K_ H3 gy bb.1 bb.2
      have ld4 := ycv (d_ := 68) (mi := 216) (pc := 140) (cm := 215) (lo_ := [(9, .int (numH W_ V z_ s_ bh)), (13, .int (Int32.ofNat t_)), (7, .int s_), (8, .int b_), (16, .int y16), (12, .int od), (15, .int y15), (14, .int y14), (10, .int sh_), (11, .int (Int32.ofInt (-1))), (6, .int 1), (0, .index 338), (1, .int x1_), (2, .int z_), (3, .int y_), (4, .int nn), (5, .int q_)]) (st_ := [.int sh_, .int y_, .int b_, .index 338]) (as_ := [.int b_, .int y_, .int sh_]) (s' := []) rfl rfl (bcq_of (n_ := 338) (z_ := (12, 26)) H3.1 rfl) rfl (xcc_l (List.forall_mem_cons.mpr ⟨rfl, List.forall_mem_cons.mpr ⟨rfl, List.forall_mem_cons.mpr ⟨rfl, List.forall_mem_cons.mpr ⟨rfl, List.forall_mem_cons.mpr ⟨rfl, List.forall_mem_cons.mpr ⟨rfl, List.forall_mem_cons.mpr ⟨rfl, List.forall_mem_cons.mpr ⟨rfl, List.forall_mem_cons.mpr ⟨rfl, List.forall_mem_cons.mpr ⟨rfl, List.forall_mem_cons.mpr ⟨rfl, List.forall_mem_cons.mpr ⟨xidx_i (bcq_lt (bcq_of (n_ := 338) (z_ := (12, 26)) H3.1 rfl)), List.forall_mem_cons.mpr ⟨rfl, List.forall_mem_cons.mpr ⟨rfl, List.forall_mem_cons.mpr ⟨rfl, List.forall_mem_cons.mpr ⟨rfl, List.forall_mem_cons.mpr ⟨rfl, fun q_ hq => absurd hq List.not_mem_nil⟩⟩⟩⟩⟩⟩⟩⟩⟩⟩⟩⟩⟩⟩⟩⟩⟩) (fun t_ ht => absurd ht List.not_mem_nil) (Nat.le_of_ble_eq_true rfl)) r4
      have H4 := frz_S H3 F4
      have F04 : frz 342 h_ h4 := frz_tr (frz_a m1_ f1_) (frz_tr F2 (frz_tr (frz_a m3_ f3_) F4))
      have om : od = Int32.ofInt (-1) → od.toInt < 0 := fun q_ => by rw [q_]; decide
      have op_ : ¬ od = Int32.ofInt (-1) → 0 ≤ od.toInt := fun q_ => by
        rcases hod with q2_ | q2_
        · exact absurd q2_ q_
        · exact q2_
      by_cases O_ : od = Int32.ofInt (-1)
      · have O2_ := om O_
        by_cases P_ : (numH W_ V z_ s_ bh).toInt ≤ b_.toInt
        · by_cases Q_ : s_.toInt ≤ (numH W_ V y_ b_ sh_).toInt
          · obtain ⟨h5, m5_, f5_, ld5⟩ := mbaV5B (v1_ := x1_) (v2 := z_) (v3 := y_) (v4_ := nn) (v5 := q_) (v9 := (numH W_ V z_ s_ bh)) (v13 := (Int32.ofNat t_)) (v7 := s_) (v8 := b_) (v16 := y16) (v12 := od) (v15 := y15) (v14 := y14) (v10 := sh_) (v11 := (Int32.ofInt (-1))) (v20 := numH W_ V y_ b_ sh_) H4.1 O_ (by omega) (by omega)
            rw [i32s] at ld5
            have H5 := frz_S H4 (frz_a m5_ f5_)
            have eb : bgn W_ V z_ y_ (n_ + 1) t_ s_ b_ sh_ bh od = (s_, b_, Int32.ofNat t_, od) := pif_t ⟨P_, Q_⟩
            rw [eb]
            have it := i32n (i_ := t_) (by omega)
            have it1 := i32n (i_ := t_ + 1) (by omega)
            have F5 : frz 342 h_ h5 := frz_tr F04 (frz_a m5_ f5_)
            obtain ⟨e0_, oy0⟩ := oy
            have nm1 : ¬ Int32.ofNat t_ = Int32.ofInt (-1) := fun q_ => by
              have q2_ := congrArg Int32.toInt q_
              rw [it, im1_] at q2_
              omega
            have xit : ∃ h6, (ysm h5 h6 ∧ ∀ c_ j_, bpat h6 c_ j_ = bpat h5 c_ j_) ∧ bldD 60 216 110 [(13, .int (Int32.ofNat (t_ + 1))), (11, .int (Int32.ofNat t_)), (12, .int od), (15, .int 1), (14, .int 1), (10, .int (numH W_ V y_ b_ sh_)), (9, .int (numH W_ V z_ s_ bh)), (7, .int s_), (8, .int b_), (16, .int y16), (6, .int 1), (0, .index 338), (1, .int x1_), (2, .int z_), (3, .int y_), (4, .int nn), (5, .int q_)] [] h5 248 [(13, .int (Int32.ofNat (t_ + 1))), (11, .int (Int32.ofNat t_)), (12, .int od), (15, .int 1), (14, .int 1), (10, .int (numH W_ V y_ b_ sh_)), (9, .int (numH W_ V z_ s_ bh)), (7, .int s_), (8, .int b_), (16, .int y16), (6, .int 1), (0, .index 338), (1, .int x1_), (2, .int z_), (3, .int y_), (4, .int nn), (5, .int q_)] [] h6 := by
              by_cases ge : t_ + 1 = N_
              · obtain ⟨h6, m6_, f6_, r6⟩ := mbaY2B (v1_ := x1_) (v2 := z_) (v3 := y_) (v4_ := nn) (v5 := q_) (v13 := (Int32.ofNat (t_ + 1))) (v11 := (Int32.ofNat t_)) (v12 := od) (v15 := 1) (v14 := 1) (v10 := (numH W_ V y_ b_ sh_)) (v9 := (numH W_ V z_ s_ bh)) (v7 := s_) (v8 := b_) (v16 := y16) m5_.1 (by rw [en, it1, i32n (by omega)]; omega)
                exact ⟨h6, ⟨m6_, f6_⟩, r6⟩
              · obtain ⟨h6, m6_, f6_, r6⟩ := mbaYB (v1_ := x1_) (v2 := z_) (v3 := y_) (v4_ := nn) (v5 := q_) (v13 := (Int32.ofNat (t_ + 1))) (v11 := (Int32.ofNat t_)) (v12 := od) (v15 := 1) (v14 := 1) (v10 := (numH W_ V y_ b_ sh_)) (v9 := (numH W_ V z_ s_ bh)) (v7 := s_) (v8 := b_) (v16 := y16) m5_.1 nm1 (by rw [en, it1, i32n (by omega)]; omega)
                exact ⟨h6, ⟨m6_, f6_⟩, r6⟩
            obtain ⟨h6, ⟨m6_, f6_⟩, ld6⟩ := xit
            obtain ⟨h7, ⟨H7, M7_⟩, r7⟩ := mE_CB (x1_ := x1_) (z_ := z_) (y_ := y_) (nn := nn) (q_ := q_) (s_ := s_) (b_ := b_) (sh_ := numH W_ V y_ b_ sh_) (bh := numH W_ V z_ s_ bh) (cl_ := Int32.ofNat t_) (od := od) (u13 := Int32.ofNat (t_ + 1)) (y14 := 1) (y15 := 1) (y16 := y16) (frz_S H5 (frz_a m6_ f6_)) ⟨e0_, (f6_ _ _).trans ((F5.2 341 2 (by omega) (by omega) (by omega)).trans oy0)⟩ q0 q3_
            exact ⟨h7, ⟨H7, ysm_tr F5.1 (ysm_tr m6_ M7_)⟩, fun D_ hD => ld1 D_ (by omega) _ (ld2 D_ (by omega) _ (ld3 D_ (by omega) _ (ld4 D_ (by omega) _ (ld5 D_ (by omega) _ (ld6 D_ (by omega) _ (r7 D_ (by omega)))))))⟩
          · obtain ⟨h5, m5_, f5_, ld5⟩ := mbaV3B (v1_ := x1_) (v2 := z_) (v3 := y_) (v4_ := nn) (v5 := q_) (v9 := (numH W_ V z_ s_ bh)) (v13 := (Int32.ofNat t_)) (v7 := s_) (v8 := b_) (v16 := y16) (v12 := od) (v15 := y15) (v14 := y14) (v10 := sh_) (v11 := (Int32.ofInt (-1))) (v20 := numH W_ V y_ b_ sh_) H4.1 O_ (by omega) (by omega)
            have H5 := frz_S H4 (frz_a m5_ f5_)
            obtain ⟨h6, y', F6, ld6⟩ := mb_nB (x1_ := x1_) (z_ := z_) (y_ := y_) (nn := nn) (q_ := q_) (s_ := s_) (b_ := b_) (sh_ := numH W_ V y_ b_ sh_) (bh := numH W_ V z_ s_ bh) (od := (Int32.ofNat t_)) (t_ := Int32.ofNat t_) (y14 := 1) (y15 := 0) (y16 := y16) K_ H5
            rw [i32s] at ld6
            have eo : odF od (Int32.ofNat t_) ((numH W_ V z_ s_ bh).toInt ≤ b_.toInt) (s_.toInt ≤ (numH W_ V y_ b_ sh_).toInt) = (Int32.ofNat t_) := by
              unfold odF
              exact pif_t ⟨by omega, by omega⟩
            have eb : bgn W_ V z_ y_ (n_ + 1) t_ s_ b_ sh_ bh od = bgn W_ V z_ y_ n_ (t_ + 1) (nof W_ s_ (numH W_ V y_ b_ sh_) 0 (Int32.ofNat t_)) (nof W_ b_ (numH W_ V z_ s_ bh) 1 (Int32.ofNat t_)) (numH W_ V y_ b_ sh_) (numH W_ V z_ s_ bh) (odF od (Int32.ofNat t_) ((numH W_ V z_ s_ bh).toInt ≤ b_.toInt) (s_.toInt ≤ (numH W_ V y_ b_ sh_).toInt)) := pif_f (fun q_ => by omega)
            have F_ : frz 342 h_ h6 := frz_tr F04 (frz_tr (frz_a m5_ f5_) F6)
            have ok_ := odF_ok (od := od) (t_ := t_) (P_ := (numH W_ V z_ s_ bh).toInt ≤ b_.toInt) (Q_ := s_.toInt ≤ (numH W_ V y_ b_ sh_).toInt) (by omega) hod
            obtain ⟨e0_, oy0⟩ := oy
            obtain ⟨h7, ⟨H7, M7_⟩, r7⟩ := ih_ (t_ + 1) (nof W_ s_ (numH W_ V y_ b_ sh_) 0 (Int32.ofNat t_)) (nof W_ b_ (numH W_ V z_ s_ bh) 1 (Int32.ofNat t_)) (numH W_ V y_ b_ sh_) (numH W_ V z_ s_ bh) (odF od (Int32.ofNat t_) ((numH W_ V z_ s_ bh).toInt ≤ b_.toInt) (s_.toInt ≤ (numH W_ V y_ b_ sh_).toInt)) h6 _ (by omega) (frz_S H_ F_) ⟨e0_, (F_.2 341 2 (by omega) (by omega) (by omega)).trans oy0⟩ hld_b hld_b ok_ (Or.inr ⟨1, 0, y', rfl⟩)
            rw [← eb, eo] at r7
            exact ⟨h7, ⟨H7, ysm_tr F_.1 M7_⟩, fun D_ hD => ld1 D_ (by omega) _ (ld2 D_ (by omega) _ (ld3 D_ (by omega) _ (ld4 D_ (by omega) _ (ld5 D_ (by omega) _ (ld6 D_ (by omega) _ (r7 D_ hD))))))⟩
        · by_cases Q_ : s_.toInt ≤ (numH W_ V y_ b_ sh_).toInt
          · obtain ⟨h5, m5_, f5_, ld5⟩ := mbaV1B (v1_ := x1_) (v2 := z_) (v3 := y_) (v4_ := nn) (v5 := q_) (v9 := (numH W_ V z_ s_ bh)) (v13 := (Int32.ofNat t_)) (v7 := s_) (v8 := b_) (v16 := y16) (v12 := od) (v15 := y15) (v14 := y14) (v10 := sh_) (v11 := (Int32.ofInt (-1))) (v20 := numH W_ V y_ b_ sh_) H4.1 O_ (by omega) (by omega)
            have H5 := frz_S H4 (frz_a m5_ f5_)
            obtain ⟨h6, y', F6, ld6⟩ := mb_nB (x1_ := x1_) (z_ := z_) (y_ := y_) (nn := nn) (q_ := q_) (s_ := s_) (b_ := b_) (sh_ := numH W_ V y_ b_ sh_) (bh := numH W_ V z_ s_ bh) (od := (Int32.ofNat t_)) (t_ := Int32.ofNat t_) (y14 := 0) (y15 := 1) (y16 := y16) K_ H5
            rw [i32s] at ld6
            have eo : odF od (Int32.ofNat t_) ((numH W_ V z_ s_ bh).toInt ≤ b_.toInt) (s_.toInt ≤ (numH W_ V y_ b_ sh_).toInt) = (Int32.ofNat t_) := by
              unfold odF
              exact pif_t ⟨by omega, by omega⟩
            have eb : bgn W_ V z_ y_ (n_ + 1) t_ s_ b_ sh_ bh od = bgn W_ V z_ y_ n_ (t_ + 1) (nof W_ s_ (numH W_ V y_ b_ sh_) 0 (Int32.ofNat t_)) (nof W_ b_ (numH W_ V z_ s_ bh) 1 (Int32.ofNat t_)) (numH W_ V y_ b_ sh_) (numH W_ V z_ s_ bh) (odF od (Int32.ofNat t_) ((numH W_ V z_ s_ bh).toInt ≤ b_.toInt) (s_.toInt ≤ (numH W_ V y_ b_ sh_).toInt)) := pif_f (fun q_ => by omega)
            have F_ : frz 342 h_ h6 := frz_tr F04 (frz_tr (frz_a m5_ f5_) F6)
            have ok_ := odF_ok (od := od) (t_ := t_) (P_ := (numH W_ V z_ s_ bh).toInt ≤ b_.toInt) (Q_ := s_.toInt ≤ (numH W_ V y_ b_ sh_).toInt) (by omega) hod
            obtain ⟨e0_, oy0⟩ := oy
            obtain ⟨h7, ⟨H7, M7_⟩, r7⟩ := ih_ (t_ + 1) (nof W_ s_ (numH W_ V y_ b_ sh_) 0 (Int32.ofNat t_)) (nof W_ b_ (numH W_ V z_ s_ bh) 1 (Int32.ofNat t_)) (numH W_ V y_ b_ sh_) (numH W_ V z_ s_ bh) (odF od (Int32.ofNat t_) ((numH W_ V z_ s_ bh).toInt ≤ b_.toInt) (s_.toInt ≤ (numH W_ V y_ b_ sh_).toInt)) h6 _ (by omega) (frz_S H_ F_) ⟨e0_, (F_.2 341 2 (by omega) (by omega) (by omega)).trans oy0⟩ hld_b hld_b ok_ (Or.inr ⟨0, 1, y', rfl⟩)
            rw [← eb, eo] at r7
            exact ⟨h7, ⟨H7, ysm_tr F_.1 M7_⟩, fun D_ hD => ld1 D_ (by omega) _ (ld2 D_ (by omega) _ (ld3 D_ (by omega) _ (ld4 D_ (by omega) _ (ld5 D_ (by omega) _ (ld6 D_ (by omega) _ (r7 D_ hD))))))⟩
          · obtain ⟨h5, m5_, f5_, ld5⟩ := mbaV0B (v1_ := x1_) (v2 := z_) (v3 := y_) (v4_ := nn) (v5 := q_) (v9 := (numH W_ V z_ s_ bh)) (v13 := (Int32.ofNat t_)) (v7 := s_) (v8 := b_) (v16 := y16) (v12 := od) (v15 := y15) (v14 := y14) (v10 := sh_) (v11 := (Int32.ofInt (-1))) (v20 := numH W_ V y_ b_ sh_) H4.1 O_ (by omega) (by omega)
            have H5 := frz_S H4 (frz_a m5_ f5_)
            obtain ⟨h6, y', F6, ld6⟩ := mb_nB (x1_ := x1_) (z_ := z_) (y_ := y_) (nn := nn) (q_ := q_) (s_ := s_) (b_ := b_) (sh_ := numH W_ V y_ b_ sh_) (bh := numH W_ V z_ s_ bh) (od := od) (t_ := Int32.ofNat t_) (y14 := 0) (y15 := 0) (y16 := y16) K_ H5
            rw [i32s] at ld6
            have eo : odF od (Int32.ofNat t_) ((numH W_ V z_ s_ bh).toInt ≤ b_.toInt) (s_.toInt ≤ (numH W_ V y_ b_ sh_).toInt) = od := by
              unfold odF
              exact pif_f (fun q_ => by omega)
            have eb : bgn W_ V z_ y_ (n_ + 1) t_ s_ b_ sh_ bh od = bgn W_ V z_ y_ n_ (t_ + 1) (nof W_ s_ (numH W_ V y_ b_ sh_) 0 (Int32.ofNat t_)) (nof W_ b_ (numH W_ V z_ s_ bh) 1 (Int32.ofNat t_)) (numH W_ V y_ b_ sh_) (numH W_ V z_ s_ bh) (odF od (Int32.ofNat t_) ((numH W_ V z_ s_ bh).toInt ≤ b_.toInt) (s_.toInt ≤ (numH W_ V y_ b_ sh_).toInt)) := pif_f (fun q_ => by omega)
            have F_ : frz 342 h_ h6 := frz_tr F04 (frz_tr (frz_a m5_ f5_) F6)
            have ok_ := odF_ok (od := od) (t_ := t_) (P_ := (numH W_ V z_ s_ bh).toInt ≤ b_.toInt) (Q_ := s_.toInt ≤ (numH W_ V y_ b_ sh_).toInt) (by omega) hod
            obtain ⟨e0_, oy0⟩ := oy
            obtain ⟨h7, ⟨H7, M7_⟩, r7⟩ := ih_ (t_ + 1) (nof W_ s_ (numH W_ V y_ b_ sh_) 0 (Int32.ofNat t_)) (nof W_ b_ (numH W_ V z_ s_ bh) 1 (Int32.ofNat t_)) (numH W_ V y_ b_ sh_) (numH W_ V z_ s_ bh) (odF od (Int32.ofNat t_) ((numH W_ V z_ s_ bh).toInt ≤ b_.toInt) (s_.toInt ≤ (numH W_ V y_ b_ sh_).toInt)) h6 _ (by omega) (frz_S H_ F_) ⟨e0_, (F_.2 341 2 (by omega) (by omega) (by omega)).trans oy0⟩ hld_b hld_b ok_ (Or.inr ⟨0, 0, y', rfl⟩)
            rw [← eb, eo] at r7
            exact ⟨h7, ⟨H7, ysm_tr F_.1 M7_⟩, fun D_ hD => ld1 D_ (by omega) _ (ld2 D_ (by omega) _ (ld3 D_ (by omega) _ (ld4 D_ (by omega) _ (ld5 D_ (by omega) _ (ld6 D_ (by omega) _ (r7 D_ hD))))))⟩
      · have O2_ := op_ O_
        by_cases P_ : (numH W_ V z_ s_ bh).toInt ≤ b_.toInt
        · by_cases Q_ : s_.toInt ≤ (numH W_ V y_ b_ sh_).toInt
          · obtain ⟨h5, m5_, f5_, ld5⟩ := mbaV5nB (v1_ := x1_) (v2 := z_) (v3 := y_) (v4_ := nn) (v5 := q_) (v9 := (numH W_ V z_ s_ bh)) (v13 := (Int32.ofNat t_)) (v7 := s_) (v8 := b_) (v16 := y16) (v12 := od) (v15 := y15) (v14 := y14) (v10 := sh_) (v11 := (Int32.ofInt (-1))) (v20 := numH W_ V y_ b_ sh_) H4.1 O_ (by omega) (by omega)
            rw [i32s] at ld5
            have H5 := frz_S H4 (frz_a m5_ f5_)
            have eb : bgn W_ V z_ y_ (n_ + 1) t_ s_ b_ sh_ bh od = (s_, b_, Int32.ofNat t_, od) := pif_t ⟨P_, Q_⟩
            rw [eb]
            have it := i32n (i_ := t_) (by omega)
            have it1 := i32n (i_ := t_ + 1) (by omega)
            have F5 : frz 342 h_ h5 := frz_tr F04 (frz_a m5_ f5_)
            obtain ⟨e0_, oy0⟩ := oy
            have nm1 : ¬ Int32.ofNat t_ = Int32.ofInt (-1) := fun q_ => by
              have q2_ := congrArg Int32.toInt q_
              rw [it, im1_] at q2_
              omega
            have xit : ∃ h6, (ysm h5 h6 ∧ ∀ c_ j_, bpat h6 c_ j_ = bpat h5 c_ j_) ∧ bldD 60 216 110 [(13, .int (Int32.ofNat (t_ + 1))), (11, .int (Int32.ofNat t_)), (12, .int od), (15, .int 1), (14, .int 1), (10, .int (numH W_ V y_ b_ sh_)), (9, .int (numH W_ V z_ s_ bh)), (7, .int s_), (8, .int b_), (16, .int y16), (6, .int 1), (0, .index 338), (1, .int x1_), (2, .int z_), (3, .int y_), (4, .int nn), (5, .int q_)] [] h5 248 [(13, .int (Int32.ofNat (t_ + 1))), (11, .int (Int32.ofNat t_)), (12, .int od), (15, .int 1), (14, .int 1), (10, .int (numH W_ V y_ b_ sh_)), (9, .int (numH W_ V z_ s_ bh)), (7, .int s_), (8, .int b_), (16, .int y16), (6, .int 1), (0, .index 338), (1, .int x1_), (2, .int z_), (3, .int y_), (4, .int nn), (5, .int q_)] [] h6 := by
              by_cases ge : t_ + 1 = N_
              · obtain ⟨h6, m6_, f6_, r6⟩ := mbaY2B (v1_ := x1_) (v2 := z_) (v3 := y_) (v4_ := nn) (v5 := q_) (v13 := (Int32.ofNat (t_ + 1))) (v11 := (Int32.ofNat t_)) (v12 := od) (v15 := 1) (v14 := 1) (v10 := (numH W_ V y_ b_ sh_)) (v9 := (numH W_ V z_ s_ bh)) (v7 := s_) (v8 := b_) (v16 := y16) m5_.1 (by rw [en, it1, i32n (by omega)]; omega)
                exact ⟨h6, ⟨m6_, f6_⟩, r6⟩
              · obtain ⟨h6, m6_, f6_, r6⟩ := mbaYB (v1_ := x1_) (v2 := z_) (v3 := y_) (v4_ := nn) (v5 := q_) (v13 := (Int32.ofNat (t_ + 1))) (v11 := (Int32.ofNat t_)) (v12 := od) (v15 := 1) (v14 := 1) (v10 := (numH W_ V y_ b_ sh_)) (v9 := (numH W_ V z_ s_ bh)) (v7 := s_) (v8 := b_) (v16 := y16) m5_.1 nm1 (by rw [en, it1, i32n (by omega)]; omega)
                exact ⟨h6, ⟨m6_, f6_⟩, r6⟩
            obtain ⟨h6, ⟨m6_, f6_⟩, ld6⟩ := xit
            obtain ⟨h7, ⟨H7, M7_⟩, r7⟩ := mE_CB (x1_ := x1_) (z_ := z_) (y_ := y_) (nn := nn) (q_ := q_) (s_ := s_) (b_ := b_) (sh_ := numH W_ V y_ b_ sh_) (bh := numH W_ V z_ s_ bh) (cl_ := Int32.ofNat t_) (od := od) (u13 := Int32.ofNat (t_ + 1)) (y14 := 1) (y15 := 1) (y16 := y16) (frz_S H5 (frz_a m6_ f6_)) ⟨e0_, (f6_ _ _).trans ((F5.2 341 2 (by omega) (by omega) (by omega)).trans oy0)⟩ q0 q3_
            exact ⟨h7, ⟨H7, ysm_tr F5.1 (ysm_tr m6_ M7_)⟩, fun D_ hD => ld1 D_ (by omega) _ (ld2 D_ (by omega) _ (ld3 D_ (by omega) _ (ld4 D_ (by omega) _ (ld5 D_ (by omega) _ (ld6 D_ (by omega) _ (r7 D_ (by omega)))))))⟩
          · obtain ⟨h5, m5_, f5_, ld5⟩ := mbaV4B (v1_ := x1_) (v2 := z_) (v3 := y_) (v4_ := nn) (v5 := q_) (v9 := (numH W_ V z_ s_ bh)) (v13 := (Int32.ofNat t_)) (v7 := s_) (v8 := b_) (v16 := y16) (v12 := od) (v15 := y15) (v14 := y14) (v10 := sh_) (v11 := (Int32.ofInt (-1))) (v20 := numH W_ V y_ b_ sh_) H4.1 O_ (by omega) (by omega)
            have H5 := frz_S H4 (frz_a m5_ f5_)
            obtain ⟨h6, y', F6, ld6⟩ := mb_nB (x1_ := x1_) (z_ := z_) (y_ := y_) (nn := nn) (q_ := q_) (s_ := s_) (b_ := b_) (sh_ := numH W_ V y_ b_ sh_) (bh := numH W_ V z_ s_ bh) (od := od) (t_ := Int32.ofNat t_) (y14 := 1) (y15 := 0) (y16 := y16) K_ H5
            rw [i32s] at ld6
            have eo : odF od (Int32.ofNat t_) ((numH W_ V z_ s_ bh).toInt ≤ b_.toInt) (s_.toInt ≤ (numH W_ V y_ b_ sh_).toInt) = od := by
              unfold odF
              exact pif_f (fun q_ => by omega)
            have eb : bgn W_ V z_ y_ (n_ + 1) t_ s_ b_ sh_ bh od = bgn W_ V z_ y_ n_ (t_ + 1) (nof W_ s_ (numH W_ V y_ b_ sh_) 0 (Int32.ofNat t_)) (nof W_ b_ (numH W_ V z_ s_ bh) 1 (Int32.ofNat t_)) (numH W_ V y_ b_ sh_) (numH W_ V z_ s_ bh) (odF od (Int32.ofNat t_) ((numH W_ V z_ s_ bh).toInt ≤ b_.toInt) (s_.toInt ≤ (numH W_ V y_ b_ sh_).toInt)) := pif_f (fun q_ => by omega)
            have F_ : frz 342 h_ h6 := frz_tr F04 (frz_tr (frz_a m5_ f5_) F6)
            have ok_ := odF_ok (od := od) (t_ := t_) (P_ := (numH W_ V z_ s_ bh).toInt ≤ b_.toInt) (Q_ := s_.toInt ≤ (numH W_ V y_ b_ sh_).toInt) (by omega) hod
            obtain ⟨e0_, oy0⟩ := oy
            obtain ⟨h7, ⟨H7, M7_⟩, r7⟩ := ih_ (t_ + 1) (nof W_ s_ (numH W_ V y_ b_ sh_) 0 (Int32.ofNat t_)) (nof W_ b_ (numH W_ V z_ s_ bh) 1 (Int32.ofNat t_)) (numH W_ V y_ b_ sh_) (numH W_ V z_ s_ bh) (odF od (Int32.ofNat t_) ((numH W_ V z_ s_ bh).toInt ≤ b_.toInt) (s_.toInt ≤ (numH W_ V y_ b_ sh_).toInt)) h6 _ (by omega) (frz_S H_ F_) ⟨e0_, (F_.2 341 2 (by omega) (by omega) (by omega)).trans oy0⟩ hld_b hld_b ok_ (Or.inr ⟨1, 0, y', rfl⟩)
            rw [← eb, eo] at r7
            exact ⟨h7, ⟨H7, ysm_tr F_.1 M7_⟩, fun D_ hD => ld1 D_ (by omega) _ (ld2 D_ (by omega) _ (ld3 D_ (by omega) _ (ld4 D_ (by omega) _ (ld5 D_ (by omega) _ (ld6 D_ (by omega) _ (r7 D_ hD))))))⟩
        · by_cases Q_ : s_.toInt ≤ (numH W_ V y_ b_ sh_).toInt
          · obtain ⟨h5, m5_, f5_, ld5⟩ := mbaV2B (v1_ := x1_) (v2 := z_) (v3 := y_) (v4_ := nn) (v5 := q_) (v9 := (numH W_ V z_ s_ bh)) (v13 := (Int32.ofNat t_)) (v7 := s_) (v8 := b_) (v16 := y16) (v12 := od) (v15 := y15) (v14 := y14) (v10 := sh_) (v11 := (Int32.ofInt (-1))) (v20 := numH W_ V y_ b_ sh_) H4.1 O_ (by omega) (by omega)
            have H5 := frz_S H4 (frz_a m5_ f5_)
            obtain ⟨h6, y', F6, ld6⟩ := mb_nB (x1_ := x1_) (z_ := z_) (y_ := y_) (nn := nn) (q_ := q_) (s_ := s_) (b_ := b_) (sh_ := numH W_ V y_ b_ sh_) (bh := numH W_ V z_ s_ bh) (od := od) (t_ := Int32.ofNat t_) (y14 := 0) (y15 := 1) (y16 := y16) K_ H5
            rw [i32s] at ld6
            have eo : odF od (Int32.ofNat t_) ((numH W_ V z_ s_ bh).toInt ≤ b_.toInt) (s_.toInt ≤ (numH W_ V y_ b_ sh_).toInt) = od := by
              unfold odF
              exact pif_f (fun q_ => by omega)
            have eb : bgn W_ V z_ y_ (n_ + 1) t_ s_ b_ sh_ bh od = bgn W_ V z_ y_ n_ (t_ + 1) (nof W_ s_ (numH W_ V y_ b_ sh_) 0 (Int32.ofNat t_)) (nof W_ b_ (numH W_ V z_ s_ bh) 1 (Int32.ofNat t_)) (numH W_ V y_ b_ sh_) (numH W_ V z_ s_ bh) (odF od (Int32.ofNat t_) ((numH W_ V z_ s_ bh).toInt ≤ b_.toInt) (s_.toInt ≤ (numH W_ V y_ b_ sh_).toInt)) := pif_f (fun q_ => by omega)
            have F_ : frz 342 h_ h6 := frz_tr F04 (frz_tr (frz_a m5_ f5_) F6)
            have ok_ := odF_ok (od := od) (t_ := t_) (P_ := (numH W_ V z_ s_ bh).toInt ≤ b_.toInt) (Q_ := s_.toInt ≤ (numH W_ V y_ b_ sh_).toInt) (by omega) hod
            obtain ⟨e0_, oy0⟩ := oy
            obtain ⟨h7, ⟨H7, M7_⟩, r7⟩ := ih_ (t_ + 1) (nof W_ s_ (numH W_ V y_ b_ sh_) 0 (Int32.ofNat t_)) (nof W_ b_ (numH W_ V z_ s_ bh) 1 (Int32.ofNat t_)) (numH W_ V y_ b_ sh_) (numH W_ V z_ s_ bh) (odF od (Int32.ofNat t_) ((numH W_ V z_ s_ bh).toInt ≤ b_.toInt) (s_.toInt ≤ (numH W_ V y_ b_ sh_).toInt)) h6 _ (by omega) (frz_S H_ F_) ⟨e0_, (F_.2 341 2 (by omega) (by omega) (by omega)).trans oy0⟩ hld_b hld_b ok_ (Or.inr ⟨0, 1, y', rfl⟩)
            rw [← eb, eo] at r7
            exact ⟨h7, ⟨H7, ysm_tr F_.1 M7_⟩, fun D_ hD => ld1 D_ (by omega) _ (ld2 D_ (by omega) _ (ld3 D_ (by omega) _ (ld4 D_ (by omega) _ (ld5 D_ (by omega) _ (ld6 D_ (by omega) _ (r7 D_ hD))))))⟩
          · obtain ⟨h5, m5_, f5_, ld5⟩ := mbaV0nB (v1_ := x1_) (v2 := z_) (v3 := y_) (v4_ := nn) (v5 := q_) (v9 := (numH W_ V z_ s_ bh)) (v13 := (Int32.ofNat t_)) (v7 := s_) (v8 := b_) (v16 := y16) (v12 := od) (v15 := y15) (v14 := y14) (v10 := sh_) (v11 := (Int32.ofInt (-1))) (v20 := numH W_ V y_ b_ sh_) H4.1 O_ (by omega) (by omega)
            have H5 := frz_S H4 (frz_a m5_ f5_)
            obtain ⟨h6, y', F6, ld6⟩ := mb_nB (x1_ := x1_) (z_ := z_) (y_ := y_) (nn := nn) (q_ := q_) (s_ := s_) (b_ := b_) (sh_ := numH W_ V y_ b_ sh_) (bh := numH W_ V z_ s_ bh) (od := od) (t_ := Int32.ofNat t_) (y14 := 0) (y15 := 0) (y16 := y16) K_ H5
            rw [i32s] at ld6
            have eo : odF od (Int32.ofNat t_) ((numH W_ V z_ s_ bh).toInt ≤ b_.toInt) (s_.toInt ≤ (numH W_ V y_ b_ sh_).toInt) = od := by
              unfold odF
              exact pif_f (fun q_ => by omega)
            have eb : bgn W_ V z_ y_ (n_ + 1) t_ s_ b_ sh_ bh od = bgn W_ V z_ y_ n_ (t_ + 1) (nof W_ s_ (numH W_ V y_ b_ sh_) 0 (Int32.ofNat t_)) (nof W_ b_ (numH W_ V z_ s_ bh) 1 (Int32.ofNat t_)) (numH W_ V y_ b_ sh_) (numH W_ V z_ s_ bh) (odF od (Int32.ofNat t_) ((numH W_ V z_ s_ bh).toInt ≤ b_.toInt) (s_.toInt ≤ (numH W_ V y_ b_ sh_).toInt)) := pif_f (fun q_ => by omega)
            have F_ : frz 342 h_ h6 := frz_tr F04 (frz_tr (frz_a m5_ f5_) F6)
            have ok_ := odF_ok (od := od) (t_ := t_) (P_ := (numH W_ V z_ s_ bh).toInt ≤ b_.toInt) (Q_ := s_.toInt ≤ (numH W_ V y_ b_ sh_).toInt) (by omega) hod
            obtain ⟨e0_, oy0⟩ := oy
            obtain ⟨h7, ⟨H7, M7_⟩, r7⟩ := ih_ (t_ + 1) (nof W_ s_ (numH W_ V y_ b_ sh_) 0 (Int32.ofNat t_)) (nof W_ b_ (numH W_ V z_ s_ bh) 1 (Int32.ofNat t_)) (numH W_ V y_ b_ sh_) (numH W_ V z_ s_ bh) (odF od (Int32.ofNat t_) ((numH W_ V z_ s_ bh).toInt ≤ b_.toInt) (s_.toInt ≤ (numH W_ V y_ b_ sh_).toInt)) h6 _ (by omega) (frz_S H_ F_) ⟨e0_, (F_.2 341 2 (by omega) (by omega) (by omega)).trans oy0⟩ hld_b hld_b ok_ (Or.inr ⟨0, 0, y', rfl⟩)
            rw [← eb, eo] at r7
            exact ⟨h7, ⟨H7, ysm_tr F_.1 M7_⟩, fun D_ hD => ld1 D_ (by omega) _ (ld2 D_ (by omega) _ (ld3 D_ (by omega) _ (ld4 D_ (by omega) _ (ld5 D_ (by omega) _ (ld6 D_ (by omega) _ (r7 D_ hD))))))⟩
noncomputable def bargainF (W_ : Nat → List Int32) (V : Nat → Int32) (x1_ z_ y_ nn q_ : Int32) : (Nat → List Int32) × (Nat → Int32) × Int32 := pif (((0 ≤ x1_.toInt ∧ (x1_.toInt / 100 < 40 ∧ x1_.toInt % 100 < 40)) ∧ ((1 ≤ nn.toInt ∧ nn.toInt ≤ 60) ∧ (0 ≤ q_.toInt ∧ q_.toInt ≤ 3))) ∧ (isW (nR V) z_ ∧ isW (nR V) y_)) (W_, V, bgA q_ (bgn W_ V z_ y_ nn.toInt.toNat 0 ((x1_ / (100 : Int32)) + (Int32.ofInt (-20))) ((x1_ - x1_ / (100 : Int32) * (100 : Int32)) + (Int32.ofInt (-20))) ((x1_ / (100 : Int32)) + (Int32.ofInt (-20))) ((x1_ - x1_ / (100 : Int32) * (100 : Int32)) + (Int32.ofInt (-20))) (Int32.ofInt (-1)))) (W_, V, Int32.ofInt (-1000001))
theorem ok_bargain (K_ : okS W_ V) (x1_ z_ y_ nn q_ : Int32) : okS (bargainF W_ V x1_ z_ y_ nn q_).1 (bargainF W_ V x1_ z_ y_ nn q_).2.1 := by
  unfold bargainF pif
  split <;> exact K_
theorem ab_f {x1_ : Int32} (g_ : 0 ≤ x1_.toInt) : (x1_ / (100 : Int32)).toInt = x1_.toInt / 100 ∧ (x1_ - x1_ / (100 : Int32) * (100 : Int32)).toInt = x1_.toInt % 100 := by
  have lt_ := Int32.toInt_lt x1_
  have e_ : x1_ = Int32.ofNat x1_.toInt.toNat := Int32.toInt_inj.mp (by rw [i32n (by omega)]; omega)
  have d1_ : Int32.ofNat x1_.toInt.toNat / (100 : Int32) = Int32.ofNat (x1_.toInt.toNat / 100) := i32d (k_ := 100) (by omega) (by omega) (by omega)
  have d2_ : Int32.ofNat x1_.toInt.toNat - Int32.ofNat x1_.toInt.toNat / (100 : Int32) * (100 : Int32) = Int32.ofNat (x1_.toInt.toNat % 100) := i32r (k_ := 100) (by omega) (by omega) (by omega)
  rw [← e_] at d1_ d2_
  rw [d2_, d1_, i32n (by omega), i32n (by omega)]
  omega
theorem ab_b {v_ : Int32} (h0 : 0 ≤ v_.toInt) (h1 : v_.toInt < 40) : -20 ≤ (v_ + Int32.ofInt (-20)).toInt ∧ (v_ + Int32.ofInt (-20)).toInt ≤ 19 := by
  have e_ : (v_ + Int32.ofInt (-20)).toInt = v_.toInt - 20 := by
    rw [Int32.toInt_add]
    have e8 : (Int32.ofInt (-20)).toInt = -20 := rfl
    rw [e8]
    exact Int.bmod_eq_of_le (by omega) (by omega)
  omega
theorem sub20 (v_ : Int32) : v_ - 20 = v_ + Int32.ofInt (-20) := by
  rw [Int32.sub_eq_add_neg]
  rfl
theorem bgn_od {z_ y_ : Int32} : ∀ (n_ t_ : Nat) (s_ b_ sh_ bh od : Int32), t_ + n_ ≤ 60 → (od = Int32.ofInt (-1) ∨ 0 ≤ od.toInt) → ((bgn W_ V z_ y_ n_ t_ s_ b_ sh_ bh od).2.2.2 = Int32.ofInt (-1) ∨ 0 ≤ (bgn W_ V z_ y_ n_ t_ s_ b_ sh_ bh od).2.2.2.toInt) ∧ ((bgn W_ V z_ y_ n_ t_ s_ b_ sh_ bh od).2.2.1 = Int32.ofInt (-1) ∨ 0 ≤ (bgn W_ V z_ y_ n_ t_ s_ b_ sh_ bh od).2.2.1.toInt) := by
  intro n_
  induction n_ with
  | zero => intro t_ s_ b_ sh_ bh od _ ho; exact ⟨ho, Or.inl rfl⟩
  | succ n_ ih_ =>
    intro t_ s_ b_ sh_ bh od hi_ ho
    have it := i32n (i_ := t_) (by omega)
    by_cases g_ : (numH W_ V z_ s_ bh).toInt ≤ b_.toInt ∧ s_.toInt ≤ (numH W_ V y_ b_ sh_).toInt
    · have e_ : bgn W_ V z_ y_ (n_ + 1) t_ s_ b_ sh_ bh od = (s_, b_, Int32.ofNat t_, od) := pif_t g_
      rw [e_]
      exact ⟨ho, Or.inr (by show 0 ≤ (Int32.ofNat t_).toInt; omega)⟩
    · have e_ : bgn W_ V z_ y_ (n_ + 1) t_ s_ b_ sh_ bh od = bgn W_ V z_ y_ n_ (t_ + 1) (nof W_ s_ (numH W_ V y_ b_ sh_) 0 (Int32.ofNat t_)) (nof W_ b_ (numH W_ V z_ s_ bh) 1 (Int32.ofNat t_)) (numH W_ V y_ b_ sh_) (numH W_ V z_ s_ bh) (odF od (Int32.ofNat t_) ((numH W_ V z_ s_ bh).toInt ≤ b_.toInt) (s_.toInt ≤ (numH W_ V y_ b_ sh_).toInt)) := pif_f g_
      rw [e_]
      exact ih_ (t_ + 1) _ _ _ _ _ (by omega) (odF_ok (by omega) ho)
end
theorem x_bargain {W_ : Nat → List Int32} {V : Nat → Int32} {h_ : xH} {x1_ z_ y_ nn q_ : Int32} (B_ : bInv bZ bIj h_) (K_ : okS W_ V) (H_ : SX W_ V h_) : ∃ h', ysm h_ h' ∧ (SX (bargainF W_ V x1_ z_ y_ nn q_).1 (bargainF W_ V x1_ z_ y_ nn q_).2.1 h' ∧ ∀ D_, 78 ≤ D_ → xrun D_ 104 0 [(0, .index 0), (1, .int x1_), (2, .int z_), (3, .int y_), (4, .int nn), (5, .int q_)] [] h_ (some (.int (bargainF W_ V x1_ z_ y_ nn q_).2.2), h', [])) := by
  obtain ⟨o1, oy⟩ := xerr (k_ := 1) B_ (by omega)
  obtain ⟨o2, oy2⟩ := xerr (k_ := 2) B_ (by omega)
  have zz := z0_
  have e1_ : (1 : Int32).toInt = 1 := rfl
  have e2_ : (2 : Int32).toInt = 2 := rfl
  have e3_ : (3 : Int32).toInt = 3 := rfl
  have e60 : (60 : Int32).toInt = 60 := rfl
  have e40 : (40 : Int32).toInt = 40 := rfl
  unfold bargainF
  have pn : ∀ P_ : Prop, ¬ P_ → ∀ a_ b_ : (Nat → List Int32) × (Nat → Int32) × Int32, pif P_ a_ b_ = b_ := fun P_ q_ a_ b_ => pif_f q_
  have af : 0 ≤ x1_.toInt → (x1_ / (100 : Int32)).toInt = x1_.toInt / 100 ∧ (x1_ - x1_ / (100 : Int32) * (100 : Int32)).toInt = x1_.toInt % 100 := ab_f
  obtain ⟨h0, m0_, e_⟩ := xbaE (v1_ := x1_) (v2 := z_) (v3 := y_) (v4_ := nn) (v5 := q_) H_.1 oy
  rcases e_ with ⟨g1, g2, g3_, g4, g5_, g6, g7, f_, r_⟩ | ⟨g1, w0_, f_, r_⟩ | ⟨g1, g2, w0_, f_, r_⟩ | ⟨g1, g2, g3_, w0_, f_, r_⟩ | ⟨g1, g2, g3_, g4, w0_, f_, r_⟩ | ⟨g1, g2, g3_, g4, g5_, w0_, f_, r_⟩ | ⟨g1, g2, g3_, g4, g5_, g6, w0_, f_, r_⟩ | ⟨g1, g2, g3_, g4, g5_, g6, g7, w0_, f_, r_⟩
  rotate_left
  · rw [pif_f (fun q2_ => by have q3_ := q2_.1; omega)]; exact ⟨h0, m0_, SX_e H_ m0_ f_, fun D_ hD => r_ D_ (by omega)⟩
  · rw [pif_f (fun q2_ => by have q3_ := q2_.1; omega)]; exact ⟨h0, m0_, SX_e H_ m0_ f_, fun D_ hD => r_ D_ (by omega)⟩
  · rw [pif_f (fun q2_ => by have q3_ := q2_.1; omega)]; exact ⟨h0, m0_, SX_e H_ m0_ f_, fun D_ hD => r_ D_ (by omega)⟩
  · rw [pif_f (fun q2_ => by have q3_ := q2_.1; omega)]; exact ⟨h0, m0_, SX_e H_ m0_ f_, fun D_ hD => r_ D_ (by omega)⟩
  · rw [pif_f (fun q2_ => by have q3_ := q2_.1; omega)]; exact ⟨h0, m0_, SX_e H_ m0_ f_, fun D_ hD => r_ D_ (by omega)⟩
  · rw [pif_f (fun q2_ => by have q3_ := q2_.1; omega)]; exact ⟨h0, m0_, SX_e H_ m0_ f_, fun D_ hD => r_ D_ (by omega)⟩
  · rw [pif_f (fun q2_ => by have q3_ := q2_.1; omega)]; exact ⟨h0, m0_, SX_e H_ m0_ f_, fun D_ hD => r_ D_ (by omega)⟩
  have H0 := SX_fr H_ m0_ (fun c_ j_ _ => f_ c_ j_)
  have x0_ : 0 ≤ x1_.toInt := by omega
  obtain ⟨fq, fr_⟩ := af x0_
  have fy0 : ∀ k_, bpat h0 323 k_ = bpat h_ 323 k_ := fun k_ => f_ _ _
  obtain ⟨h1, ⟨H1_, F1_⟩, c1_⟩ := c_rdw (mi := 104) (pc := 61) (lo_ := [(0, .index 0), (1, .int x1_), (2, .int z_), (3, .int y_), (4, .int nn), (5, .int q_)]) (z_ := z_) (s' := []) rfl (xcc_l (List.forall_mem_cons.mpr ⟨xidx_i (bcq_lt (bcq_of (n_ := 0) (z_ := (11, 15)) H0.1 rfl)), List.forall_mem_cons.mpr ⟨rfl, List.forall_mem_cons.mpr ⟨rfl, List.forall_mem_cons.mpr ⟨rfl, List.forall_mem_cons.mpr ⟨rfl, List.forall_mem_cons.mpr ⟨rfl, fun q_ hq => absurd hq List.not_mem_nil⟩⟩⟩⟩⟩⟩) (fun t_ ht => absurd ht List.not_mem_nil) (Nat.le_of_ble_eq_true rfl)) K_ H0 (Or.inl ⟨rfl, rfl⟩)
  have fy1 : ∀ k_, bpat h1 323 k_ = bpat h_ 323 k_ := fun k_ => (F1_.2 _ _ (by omega) (by omega)).trans (fy0 k_)
  rcases c1_ with ⟨gz, RZ, ld1⟩ | ⟨gz, ld1⟩
  rotate_left
  · rw [pif_f (fun q2_ => gz q2_.2.1)]
    obtain ⟨h2, m2_, w0_, f2_, r2⟩ := xbaG (v1_ := x1_) (v2 := z_) (v3 := y_) (v4_ := nn) (v5 := q_) H1_.1 ((fy1 1).trans oy)
    exact ⟨h2, ysm_tr m0_ (ysm_tr F1_.1 m2_), SX_e H1_ m2_ f2_, fun D_ hD => r_ D_ (by omega) _ (ld1 D_ (by omega) _ (r2 D_ (by omega)))⟩
  obtain ⟨h2, m2_, f2_, ld2⟩ := xbaF (v1_ := x1_) (v2 := z_) (v3 := y_) (v4_ := nn) (v5 := q_) H1_.1
  have H2_ := SX_fr H1_ m2_ (fun c_ j_ _ => f2_ c_ j_)
  obtain ⟨h3, ⟨H3, F3⟩, c3_⟩ := c_rdw (mi := 104) (pc := 76) (lo_ := [(0, .index 0), (1, .int x1_), (2, .int z_), (3, .int y_), (4, .int nn), (5, .int q_)]) (z_ := y_) (s' := []) rfl (xcc_l (List.forall_mem_cons.mpr ⟨xidx_i (bcq_lt (bcq_of (n_ := 0) (z_ := (11, 15)) H2_.1 rfl)), List.forall_mem_cons.mpr ⟨rfl, List.forall_mem_cons.mpr ⟨rfl, List.forall_mem_cons.mpr ⟨rfl, List.forall_mem_cons.mpr ⟨rfl, List.forall_mem_cons.mpr ⟨rfl, fun q_ hq => absurd hq List.not_mem_nil⟩⟩⟩⟩⟩⟩) (fun t_ ht => absurd ht List.not_mem_nil) (Nat.le_of_ble_eq_true rfl)) K_ H2_ (Or.inr ⟨rfl, rfl⟩)
  have fy3 : ∀ k_, bpat h3 323 k_ = bpat h_ 323 k_ := fun k_ => (F3.2 _ _ (by omega) (by omega)).trans ((f2_ _ _).trans (fy1 k_))
  have M3_ := ysm_tr m0_ (ysm_tr F1_.1 (ysm_tr m2_ F3.1))
  rcases c3_ with ⟨gy, RY, ld3⟩ | ⟨gy, ld3⟩
  rotate_left
  · rw [pif_f (fun q2_ => gy q2_.2.2)]
    obtain ⟨h4, m4_, w0_, f4_, r4⟩ := xbaI (v1_ := x1_) (v2 := z_) (v3 := y_) (v4_ := nn) (v5 := q_) H3.1 ((fy3 1).trans oy)
    exact ⟨h4, ysm_tr M3_ m4_, SX_e H3 m4_ f4_, fun D_ hD => r_ D_ (by omega) _ (ld1 D_ (by omega) _ (ld2 D_ (by omega) _ (ld3 D_ (by omega) _ (r4 D_ (by omega)))))⟩
  rw [pif_t ⟨⟨⟨x0_, by omega, by omega⟩, ⟨by omega, by omega⟩, by omega, by omega⟩, gz, gy⟩]
  have RZ3 := rwx_keep (rwx_keep RZ m2_ (fun c_ j_ _ => f2_ c_ j_)) F3.1 (fun c_ j_ q_ => F3.2 c_ j_ (by omega) (by omega))
  obtain ⟨h4, m4_, w5, w4_, w7_, w6_, w3_, w2_, f4_, ld4⟩ := xbaH (v1_ := x1_) (v2 := z_) (v3 := y_) (v4_ := nn) (v5 := q_) H3.1
  have G4 : gof h3 h4 := ⟨m4_, fun c_ j_ q1_ _ _ _ => f4_ c_ j_ (by omega) (by omega) (by omega) (by omega) (by omega) (by omega)⟩
  have H4 := gof_S H3 G4
  have en : nn = Int32.ofNat nn.toInt.toNat := Int32.toInt_inj.mp (by rw [i32n (by omega)]; omega)
  obtain ⟨h5, m5_, f5_, ld5⟩ := xgoE (v4_ := nn) H4.1
  have ga := ab_b (v_ := x1_ / (100 : Int32)) (by omega) (by omega)
  have gb := ab_b (v_ := x1_ - x1_ / (100 : Int32) * (100 : Int32)) (by omega) (by omega)
  have G5 : gof h3 h5 := gof_t G4 (gof_a m5_ f5_)
  obtain ⟨h6, ⟨H6, G6⟩, ⟨r2_, r3_, r4_, r5_⟩, r6⟩ := go_lp K_ en (by omega) gz gy nn.toInt.toNat 0 _ _ _ _ _ h5 _ (Nat.zero_add _) (gof_S H3 G5) (rwx_keep RZ3 G5.1 (fun c_ j_ q_ => G5.2 c_ j_ (by omega) (by omega) (by omega) (by omega))) (rwx_keep RY G5.1 (fun c_ j_ q_ => G5.2 c_ j_ (by omega) (by omega) (by omega) (by omega))) ((f5_ _ _).trans w2_) ((f5_ _ _).trans w3_) ((f5_ _ _).trans w4_) ((f5_ _ _).trans w5) ((f5_ _ _).trans w6_) ((f5_ _ _).trans w7_) ga gb (Or.inl rfl)
  have r6' : ∀ D_, 74 ≤ D_ → xrun D_ 2 0 [(0, .index 305), (1, .index 1), (2, .index 314), (3, .index 316), (4, .int nn)] [] h4 (none, h6, []) := fun D_ hD => ld5 D_ (by omega) _ (r6 D_ (by omega))
  have ld6 := ycv (d_ := 74) (mi := 104) (pc := 127) (cm := 2) (lo_ := [(0, .index 0), (1, .int x1_), (2, .int z_), (3, .int y_), (4, .int nn), (5, .int q_)]) (st_ := [.int nn, .index 316, .index 314, .index 1, .index 305]) (as_ := [.index 1, .index 314, .index 316, .int nn]) (s' := []) rfl rfl (bcq_of (n_ := 305) (z_ := (0, 8)) H4.1 rfl) rfl (xcc_l (List.forall_mem_cons.mpr ⟨xidx_i (bcq_lt (bcq_of (n_ := 0) (z_ := (11, 15)) H4.1 rfl)), List.forall_mem_cons.mpr ⟨rfl, List.forall_mem_cons.mpr ⟨rfl, List.forall_mem_cons.mpr ⟨rfl, List.forall_mem_cons.mpr ⟨rfl, List.forall_mem_cons.mpr ⟨rfl, fun q_ hq => absurd hq List.not_mem_nil⟩⟩⟩⟩⟩⟩) (fun t_ ht => absurd ht List.not_mem_nil) (Nat.le_of_ble_eq_true rfl)) r6'
  have fy6 : ∀ k_, bpat h6 323 k_ = bpat h_ 323 k_ := fun k_ => (G6.2 _ _ (by omega) (by omega) (by omega) (by omega)).trans ((G5.2 _ _ (by omega) (by omega) (by omega) (by omega)).trans (fy3 k_))
  have M6_ : ysm h_ h6 := ysm_tr M3_ (ysm_tr G5.1 G6.1)
  obtain ⟨od_ok, cl_ok⟩ := bgn_od (W_ := W_) (V := V) (z_ := z_) (y_ := y_) nn.toInt.toNat 0 (x1_ / (100 : Int32) + Int32.ofInt (-20)) (x1_ - x1_ / (100 : Int32) * (100 : Int32) + Int32.ofInt (-20)) (x1_ / (100 : Int32) + Int32.ofInt (-20)) (x1_ - x1_ / (100 : Int32) * (100 : Int32) + Int32.ofInt (-20)) (Int32.ofInt (-1)) (by omega) (Or.inl rfl)
  generalize bgn W_ V z_ y_ nn.toInt.toNat 0 (x1_ / (100 : Int32) + Int32.ofInt (-20)) (x1_ - x1_ / (100 : Int32) * (100 : Int32) + Int32.ofInt (-20)) (x1_ / (100 : Int32) + Int32.ofInt (-20)) (x1_ - x1_ / (100 : Int32) * (100 : Int32) + Int32.ofInt (-20)) (Int32.ofInt (-1)) = rr at *
  have im := im1_
  obtain ⟨h7, m7_, e7_⟩ := xbaR (v1_ := x1_) (v2 := z_) (v3 := y_) (v4_ := nn) (v5 := q_) H6.1 r5_ ((fy6 2).trans oy2) r4_ r3_ r2_
  have LD_ : ∀ (D_ : Nat) (oo : xO), 78 ≤ D_ → xrun D_ 104 130 [(0, .index 0), (1, .int x1_), (2, .int z_), (3, .int y_), (4, .int nn), (5, .int q_)] [] h6 oo → xrun D_ 104 0 [(0, .index 0), (1, .int x1_), (2, .int z_), (3, .int y_), (4, .int nn), (5, .int q_)] [] h_ oo := fun D_ oo hD z_ => r_ D_ (by omega) _ (ld1 D_ (by omega) _ (ld2 D_ (by omega) _ (ld3 D_ (by omega) _ (ld4 D_ (by omega) _ (ld6 D_ (by omega) _ z_)))))
  have q01 : ¬ q_ = 0 → q_.toInt < 2 → q_ = 1 := fun a_ b_ => Int32.toInt_inj.mp (by
    by_cases c_ : q_.toInt = 0
    · exact absurd (Int32.toInt_inj.mp c_) a_
    · omega)
  have lt0 : ∀ v_ : Int32, v_ = Int32.ofInt (-1) → v_.toInt < 0 := fun v_ q_ => by rw [q_, im]; omega
  have n1_ : ∀ v_ : Int32, (v_ = Int32.ofInt (-1) ∨ 0 ≤ v_.toInt) → v_.toInt < 0 → v_ = Int32.ofInt (-1) := fun v_ a_ b_ => by
    rcases a_ with a_ | a_
    · exact a_
    · omega
  rcases e7_ with ⟨g1, g2, g3_, f7_, r7⟩ | ⟨g1, g2, g3_, w0_, f7_, r7⟩ | ⟨g1, g2, g3_, f7_, r7⟩ | ⟨g1, g2, g3_, w0_, f7_, r7⟩ | ⟨g1, g2, f7_, r7⟩ | ⟨g1, g2, f7_, r7⟩
  · have v_ : bgA q_ rr = rr.2.2.2 := by unfold bgA; rw [if_neg g2, if_pos (q01 g2 (by omega))]; exact if_neg (fun a_ => by have := lt0 _ a_; omega)
    rw [v_]
    exact ⟨h7, ysm_tr M6_ m7_, SX_fr H6 m7_ (fun c_ j_ _ => f7_ c_ j_), fun D_ hD => LD_ D_ _ hD (r7 D_ (by omega))⟩
  · have v_ : bgA q_ rr = Int32.ofInt (-1000002) := by unfold bgA; rw [if_neg g2, if_pos (q01 g2 (by omega))]; exact if_pos (n1_ _ od_ok (by omega))
    rw [v_]
    exact ⟨h7, ysm_tr M6_ m7_, SX_e H6 m7_ f7_, fun D_ hD => LD_ D_ _ hD (r7 D_ (by omega))⟩
  · have v_ : bgA q_ rr = rr.2.2.1 := by unfold bgA; rw [if_pos g2]; exact if_neg (fun a_ => by have := lt0 _ a_; omega)
    rw [v_]
    exact ⟨h7, ysm_tr M6_ m7_, SX_fr H6 m7_ (fun c_ j_ _ => f7_ c_ j_), fun D_ hD => LD_ D_ _ hD (r7 D_ (by omega))⟩
  · have v_ : bgA q_ rr = Int32.ofInt (-1000002) := by unfold bgA; rw [if_pos g2]; exact if_pos (n1_ _ cl_ok (by omega))
    rw [v_]
    exact ⟨h7, ysm_tr M6_ m7_, SX_e H6 m7_ f7_, fun D_ hD => LD_ D_ _ hD (r7 D_ (by omega))⟩
  · have v_ : bgA q_ rr = rr.2.1 := by unfold bgA; rw [if_neg (fun a_ => by rw [a_, zz] at g2; omega), if_neg (fun a_ => by rw [a_, e1_] at g2; omega)]; exact if_neg g1
    rw [v_]
    exact ⟨h7, ysm_tr M6_ m7_, SX_fr H6 m7_ (fun c_ j_ _ => f7_ c_ j_), fun D_ hD => LD_ D_ _ hD (r7 D_ (by omega))⟩
  · have v_ : bgA q_ rr = rr.1 := by unfold bgA; rw [if_neg (fun a_ => by rw [a_, zz] at g2; omega), if_neg (fun a_ => by rw [a_, e1_] at g2; omega)]; exact if_pos g1
    rw [v_]
    exact ⟨h7, ysm_tr M6_ m7_, SX_fr H6 m7_ (fun c_ j_ _ => f7_ c_ j_), fun D_ hD => LD_ D_ _ hD (r7 D_ (by omega))⟩
theorem m_bargain {W_ : Nat → List Int32} {V : Nat → Int32} {h_ : xH} {x1_ z_ y_ nn q_ : Int32} (B_ : bInv bZ bIj h_) (K_ : okS W_ V) (H_ : SM W_ V h_) : ∃ h', ysm h_ h' ∧ (SM (bargainF W_ V x1_ z_ y_ nn q_).1 (bargainF W_ V x1_ z_ y_ nn q_).2.1 h' ∧ ∀ D_, 78 ≤ D_ → xrun D_ 216 0 [(0, .index 338), (1, .int x1_), (2, .int z_), (3, .int y_), (4, .int nn), (5, .int q_)] [] h_ (some (.int (bargainF W_ V x1_ z_ y_ nn q_).2.2), h', [])) := by
  obtain ⟨o1, oy⟩ := merr (k_ := 1) B_ (by omega)
  obtain ⟨o2, oy2⟩ := merr (k_ := 2) B_ (by omega)
  have zz := z0_
  have e1_ : (1 : Int32).toInt = 1 := rfl
  have e3_ : (3 : Int32).toInt = 3 := rfl
  have e60 : (60 : Int32).toInt = 60 := rfl
  have e40 : (40 : Int32).toInt = 40 := rfl
  have e39 : (3939 : Int32).toInt = 3939 := rfl
  unfold bargainF
  have af : 0 ≤ x1_.toInt → (x1_ / (100 : Int32)).toInt = x1_.toInt / 100 ∧ (x1_ - x1_ / (100 : Int32) * (100 : Int32)).toInt = x1_.toInt % 100 := ab_f
  obtain ⟨h0, m0_, e_⟩ := mbaE (v1_ := x1_) (v2 := z_) (v3 := y_) (v4_ := nn) (v5 := q_) H_.1 oy
  rcases e_ with ⟨g1, g2, g3_, f_, r_⟩ | ⟨g1, w0_, f_, r_⟩ | ⟨g1, g2, w0_, f_, r_⟩ | ⟨g1, g2, g3_, w0_, f_, r_⟩
  rotate_left
  · rw [pif_f (fun q2_ => by have q3_ := q2_.1; omega)]; exact ⟨h0, m0_, SM_e H_ m0_ f_, fun D_ hD => r_ D_ (by omega)⟩
  · rw [pif_f (fun q2_ => by have q3_ := q2_.1; omega)]; exact ⟨h0, m0_, SM_e H_ m0_ f_, fun D_ hD => r_ D_ (by omega)⟩
  · rw [pif_f (fun q2_ => by have q3_ := q2_.1; omega)]; exact ⟨h0, m0_, SM_e H_ m0_ f_, fun D_ hD => r_ D_ (by omega)⟩
  have H0 := SM_fr H_ m0_ (fun c_ j_ _ => f_ c_ j_)
  have x0_ : 0 ≤ x1_.toInt := by omega
  obtain ⟨fq, fr_⟩ := af x0_
  obtain ⟨h1, ⟨H1_, F1_⟩, c1_⟩ := c_isw (mi := 216) (pc := 22) (lo_ := [(0, .index 338), (1, .int x1_), (2, .int z_), (3, .int y_), (4, .int nn), (5, .int q_)]) (z_ := z_) (s' := []) rfl (xcc_l (List.forall_mem_cons.mpr ⟨xidx_i (bcq_lt (bcq_of (n_ := 338) (z_ := (12, 26)) H0.1 rfl)), List.forall_mem_cons.mpr ⟨rfl, List.forall_mem_cons.mpr ⟨rfl, List.forall_mem_cons.mpr ⟨rfl, List.forall_mem_cons.mpr ⟨rfl, List.forall_mem_cons.mpr ⟨rfl, fun q_ hq => absurd hq List.not_mem_nil⟩⟩⟩⟩⟩⟩) (fun t_ ht => absurd ht List.not_mem_nil) (Nat.le_of_ble_eq_true rfl)) K_ H0
  have fy1 : ∀ k_, bpat h1 341 k_ = bpat h_ 341 k_ := fun k_ => (F1_.2 _ _).trans (f_ _ _)
  rcases c1_ with ⟨gz, ld1⟩ | ⟨gz, ld1⟩
  rotate_left
  · rw [pif_f (fun q2_ => gz q2_.2.1)]
    obtain ⟨h2, m2_, w0_, f2_, r2⟩ := mbaG (v1_ := x1_) (v2 := z_) (v3 := y_) (v4_ := nn) (v5 := q_) H1_.1 ((fy1 1).trans oy)
    exact ⟨h2, ysm_tr m0_ (ysm_tr F1_.1 m2_), SM_e H1_ m2_ f2_, fun D_ hD => r_ D_ (by omega) _ (ld1 D_ (by omega) _ (r2 D_ (by omega)))⟩
  obtain ⟨h2, m2_, f2_, ld2⟩ := mbaF (v1_ := x1_) (v2 := z_) (v3 := y_) (v4_ := nn) (v5 := q_) H1_.1
  have H2_ := SM_fr H1_ m2_ (fun c_ j_ _ => f2_ c_ j_)
  obtain ⟨h3, ⟨H3, F3⟩, c3_⟩ := c_isw (mi := 216) (pc := 30) (lo_ := [(0, .index 338), (1, .int x1_), (2, .int z_), (3, .int y_), (4, .int nn), (5, .int q_)]) (z_ := y_) (s' := []) rfl (xcc_l (List.forall_mem_cons.mpr ⟨xidx_i (bcq_lt (bcq_of (n_ := 338) (z_ := (12, 26)) H2_.1 rfl)), List.forall_mem_cons.mpr ⟨rfl, List.forall_mem_cons.mpr ⟨rfl, List.forall_mem_cons.mpr ⟨rfl, List.forall_mem_cons.mpr ⟨rfl, List.forall_mem_cons.mpr ⟨rfl, fun q_ hq => absurd hq List.not_mem_nil⟩⟩⟩⟩⟩⟩) (fun t_ ht => absurd ht List.not_mem_nil) (Nat.le_of_ble_eq_true rfl)) K_ H2_
  have fy3 : ∀ k_, bpat h3 341 k_ = bpat h_ 341 k_ := fun k_ => (F3.2 _ _).trans ((f2_ _ _).trans (fy1 k_))
  have M3_ := ysm_tr m0_ (ysm_tr F1_.1 (ysm_tr m2_ F3.1))
  rcases c3_ with ⟨gy, ld3⟩ | ⟨gy, ld3⟩
  rotate_left
  · rw [pif_f (fun q2_ => gy q2_.2.2)]
    obtain ⟨h4, m4_, w0_, f4_, r4⟩ := mbaI (v1_ := x1_) (v2 := z_) (v3 := y_) (v4_ := nn) (v5 := q_) H3.1 ((fy3 1).trans oy)
    exact ⟨h4, ysm_tr M3_ m4_, SM_e H3 m4_ f4_, fun D_ hD => r_ D_ (by omega) _ (ld1 D_ (by omega) _ (ld2 D_ (by omega) _ (ld3 D_ (by omega) _ (r4 D_ (by omega)))))⟩
  have LD3 : ∀ (D_ : Nat) (oo : xO), 78 ≤ D_ → xrun D_ 216 33 [(0, .index 338), (1, .int x1_), (2, .int z_), (3, .int y_), (4, .int nn), (5, .int q_)] [.int 1] h3 oo → xrun D_ 216 0 [(0, .index 338), (1, .int x1_), (2, .int z_), (3, .int y_), (4, .int nn), (5, .int q_)] [] h_ oo := fun D_ oo hD z_ => r_ D_ (by omega) _ (ld1 D_ (by omega) _ (ld2 D_ (by omega) _ (ld3 D_ (by omega) _ z_)))
  obtain ⟨h4, m4_, e4_⟩ := mbaH (v1_ := x1_) (v2 := z_) (v3 := y_) (v4_ := nn) (v5 := q_) H3.1 ((fy3 1).trans oy)
  rcases e4_ with ⟨g1_, g2_, g3_, g4_, f4_, ld4⟩ | ⟨g1_, w0_, f4_, r4⟩ | ⟨g1_, g2_, w0_, f4_, r4⟩ | ⟨g1_, g2_, g3_, w0_, f4_, r4⟩ | ⟨g1_, g2_, g3_, g4_, w0_, f4_, r4⟩
  rotate_left
  · rw [pif_f (fun q2_ => by have q3_ := q2_.1; omega)]
    exact ⟨h4, ysm_tr M3_ m4_, SM_e H3 m4_ f4_, fun D_ hD => LD3 D_ _ hD (r4 D_ (by omega))⟩
  · rw [pif_f (fun q2_ => by have q3_ := q2_.1; omega)]
    exact ⟨h4, ysm_tr M3_ m4_, SM_e H3 m4_ f4_, fun D_ hD => LD3 D_ _ hD (r4 D_ (by omega))⟩
  · rw [pif_f (fun q2_ => by have q3_ := q2_.1; omega)]
    exact ⟨h4, ysm_tr M3_ m4_, SM_e H3 m4_ f4_, fun D_ hD => LD3 D_ _ hD (r4 D_ (by omega))⟩
  · rw [pif_f (fun q2_ => by have q3_ := q2_.1; omega)]
    exact ⟨h4, ysm_tr M3_ m4_, SM_e H3 m4_ f4_, fun D_ hD => LD3 D_ _ hD (r4 D_ (by omega))⟩
  rw [pif_t ⟨⟨⟨x0_, by omega, by omega⟩, ⟨by omega, by omega⟩, by omega, by omega⟩, gz, gy⟩]
  rw [sub20, sub20] at ld4
  have en : nn = Int32.ofNat nn.toInt.toNat := Int32.toInt_inj.mp (by rw [i32n (by omega)]; omega)
  have ga := ab_b (v_ := x1_ / (100 : Int32)) (by omega) (by omega)
  have gb := ab_b (v_ := x1_ - x1_ / (100 : Int32) * (100 : Int32)) (by omega) (by omega)
  have H4 := SM_fr H3 m4_ (fun c_ j_ _ => f4_ c_ j_)
  obtain ⟨h5, ⟨H5, M5_⟩, r5_⟩ := mb_lp (x1_ := x1_) (q_ := q_) K_ en (by omega) gz gy (by omega) (by omega) nn.toInt.toNat 0 _ _ (x1_ / (100 : Int32) + Int32.ofInt (-20)) (x1_ - x1_ / (100 : Int32) * (100 : Int32) + Int32.ofInt (-20)) (Int32.ofInt (-1)) h4 _ (Nat.zero_add _) H4 ⟨o2, (f4_ _ _).trans ((fy3 2).trans oy2)⟩ ga gb (Or.inl rfl) (Or.inl rfl)
  exact ⟨h5, ysm_tr M3_ (ysm_tr m4_ M5_), H5, fun D_ hD => LD3 D_ _ hD (ld4 D_ (by omega) _ (r5_ D_ (by omega)))⟩
