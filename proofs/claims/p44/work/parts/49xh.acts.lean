-- ===== echo
noncomputable def pif {A_ : Type} (P_ : Prop) (a_ b_ : A_) : A_ := @ite A_ P_ (Classical.propDecidable P_) a_ b_
theorem pif_t {A_ : Type} {P_ : Prop} {a_ b_ : A_} (h_ : P_) : pif P_ a_ b_ = a_ := @if_pos P_ (Classical.propDecidable P_) h_ A_ a_ b_
theorem pif_f {A_ : Type} {P_ : Prop} {a_ b_ : A_} (h_ : ¬ P_) : pif P_ a_ b_ = b_ := @if_neg P_ (Classical.propDecidable P_) h_ A_ a_ b_
theorem kl_l {n_ : Nat} {l : List Int32} : ∀ {i_ : Nat}, (kpt n_ l i_).length ≤ i_ := fun {i_} => kpt_len
-- xecE: 109 steps, 1 ends, 4 returns
def xecE_L : List (Nat × Nat × Nat) := []
def xecE_O : yO := [(0, .int 0, .index 1), (1, .int 9, .arg 310), (0, .int 13, .index 323), (323, .int 1, .arg 400), (0, .int 8, .index 314)]
def xecE_A : yA := (yZ xecE_L, [], [], [], [])
def xecE_C : List xB := []
def xecE_ss : List yS := [(25, [(0, .index 0), (1, .arg 1), (2, .arg 2), (3, .arg 3)], [.index 314, .arg 2, .index 1], [(0, .int 0, .index 1), (1, .int 9, .arg 310), (0, .int 13, .index 323), (323, .int 1, .arg 400), (0, .int 8, .index 314)], [(.lt, .arg 3, .arg 310, true), (.lt, .arg 3, .int 0, false), (.lt, .arg 1, .arg 310, true), (.lt, .arg 1, .int 0, false)], [])]
def xecE_rs : List yR := [(some (.int (Int32.ofInt (-1000001))), [(323, .int 1, .add (.arg 400) (.int 1)), (0, .int 0, .index 1), (1, .int 9, .arg 310), (0, .int 13, .index 323), (0, .int 8, .index 314)], [(.lt, .arg 1, .int 0, true)], [(323, .int 1)]),
  (some (.int (Int32.ofInt (-1000001))), [(323, .int 1, .add (.arg 400) (.int 1)), (0, .int 0, .index 1), (1, .int 9, .arg 310), (0, .int 13, .index 323), (0, .int 8, .index 314)], [(.lt, .arg 1, .arg 310, false), (.lt, .arg 1, .int 0, false)], [(323, .int 1)]),
  (some (.int (Int32.ofInt (-1000001))), [(323, .int 1, .add (.arg 400) (.int 1)), (0, .int 0, .index 1), (1, .int 9, .arg 310), (0, .int 13, .index 323), (0, .int 8, .index 314)], [(.lt, .arg 3, .int 0, true), (.lt, .arg 1, .arg 310, true), (.lt, .arg 1, .int 0, false)], [(323, .int 1)]),
  (some (.int (Int32.ofInt (-1000001))), [(323, .int 1, .add (.arg 400) (.int 1)), (0, .int 0, .index 1), (1, .int 9, .arg 310), (0, .int 13, .index 323), (0, .int 8, .index 314)], [(.lt, .arg 3, .arg 310, false), (.lt, .arg 3, .int 0, false), (.lt, .arg 1, .arg 310, true), (.lt, .arg 1, .int 0, false)], [(323, .int 1)])]
theorem xecE_w : ywa xecE_A xecE_ss xecE_rs = true := by decide +kernel
theorem xecE_k : yis (yev xecE_A 3000 60 90 [25] (0, [(0, .index 0), (1, .arg 1), (2, .arg 2), (3, .arg 3)], [], xecE_O, xecE_C, [])) xecE_ss xecE_rs = true := by decide +kernel
def xecE_r (v1_ v2 v3 v310 v400 : Int32) (k_ : Nat) : Value := bif Nat.beq k_ 1 then .int v1_ else (bif Nat.beq k_ 2 then .int v2 else (bif Nat.beq k_ 3 then .int v3 else (bif Nat.beq k_ 310 then .int v310 else (bif Nat.beq k_ 400 then .int v400 else (.int 0)))))
def xecE_s (n_ : Nat) : Nat := 0
theorem xecE {h_ : xH} {v1_ v2 v3 v310 v400 : Int32} (hs : sHp h_) (o0_ : bpat h_ 1 9 = some (.int v310)) (o1 : bpat h_ 323 1 = some (.int v400)) : ∃ h', ysm h_ h' ∧ (((v3.toInt < v310.toInt) ∧ ((0 : Int32).toInt ≤ v3.toInt) ∧ (v1_.toInt < v310.toInt) ∧ ((0 : Int32).toInt ≤ v1_.toInt) ∧ (∀ a_ j_ : Nat, bpat h' a_ j_ = bpat h_ a_ j_) ∧ (bldD 60 90 0 [(0, .index 0), (1, .int v1_), (2, .int v2), (3, .int v3)] [] h_ 25 [(0, .index 0), (1, .int v1_), (2, .int v2), (3, .int v3)] [.index 314, .int v2, .index 1] h'))
  ∨ ((v1_.toInt < (0 : Int32).toInt) ∧ (bpat h' 323 1 = some (.int (v400 + (1 : Int32)))) ∧ (∀ a_ j_ : Nat, ¬ (a_ = 323 ∧ j_ = 1) → bpat h' a_ j_ = bpat h_ a_ j_) ∧ (∀ D_, 60 ≤ D_ → xrun D_ 90 0 [(0, .index 0), (1, .int v1_), (2, .int v2), (3, .int v3)] [] h_ (some (.int (Int32.ofInt (-1000001))), h', [])))
  ∨ ((v310.toInt ≤ v1_.toInt) ∧ ((0 : Int32).toInt ≤ v1_.toInt) ∧ (bpat h' 323 1 = some (.int (v400 + (1 : Int32)))) ∧ (∀ a_ j_ : Nat, ¬ (a_ = 323 ∧ j_ = 1) → bpat h' a_ j_ = bpat h_ a_ j_) ∧ (∀ D_, 60 ≤ D_ → xrun D_ 90 0 [(0, .index 0), (1, .int v1_), (2, .int v2), (3, .int v3)] [] h_ (some (.int (Int32.ofInt (-1000001))), h', [])))
  ∨ ((v3.toInt < (0 : Int32).toInt) ∧ (v1_.toInt < v310.toInt) ∧ ((0 : Int32).toInt ≤ v1_.toInt) ∧ (bpat h' 323 1 = some (.int (v400 + (1 : Int32)))) ∧ (∀ a_ j_ : Nat, ¬ (a_ = 323 ∧ j_ = 1) → bpat h' a_ j_ = bpat h_ a_ j_) ∧ (∀ D_, 60 ≤ D_ → xrun D_ 90 0 [(0, .index 0), (1, .int v1_), (2, .int v2), (3, .int v3)] [] h_ (some (.int (Int32.ofInt (-1000001))), h', [])))
  ∨ ((v310.toInt ≤ v3.toInt) ∧ ((0 : Int32).toInt ≤ v3.toInt) ∧ (v1_.toInt < v310.toInt) ∧ ((0 : Int32).toInt ≤ v1_.toInt) ∧ (bpat h' 323 1 = some (.int (v400 + (1 : Int32)))) ∧ (∀ a_ j_ : Nat, ¬ (a_ = 323 ∧ j_ = 1) → bpat h' a_ j_ = bpat h_ a_ j_) ∧ (∀ D_, 60 ≤ D_ → xrun D_ 90 0 [(0, .index 0), (1, .int v1_), (2, .int v2), (3, .int v3)] [] h_ (some (.int (Int32.ofInt (-1000001))), h', [])))) := by
  have hA : yas xecE_A (xecE_r v1_ v2 v3 v310 v400) (yg xecE_s) := ⟨fun q_ hq => absurd hq List.not_mem_nil, fun q_ hq => absurd hq List.not_mem_nil, fun q_ hq => absurd hq List.not_mem_nil, fun n_ hn => yg_lo hn, fun q_ hq => absurd hq List.not_mem_nil⟩
  have Hs : ysh xecE_A.1 (yg xecE_s) h_ := ysh_of2 hs (fun q_ hq => absurd hq List.not_mem_nil)
  have Ho : ymem (xecE_r v1_ v2 v3 v310 v400) (yg xecE_s) xecE_O h_ := List.forall_mem_cons.mpr ⟨bpat_some (fxr_at hs.2 (show fxk fxl 0 0 = some 1 by decide +kernel)), List.forall_mem_cons.mpr ⟨bpat_some o0_, List.forall_mem_cons.mpr ⟨bpat_some (fxr_at hs.2 (show fxk fxl 0 13 = some 323 by decide +kernel)), List.forall_mem_cons.mpr ⟨bpat_some o1, List.forall_mem_cons.mpr ⟨bpat_some (fxr_at hs.2 (show fxk fxl 0 8 = some 314 by decide +kernel)), fun q_ hq => absurd hq List.not_mem_nil⟩⟩⟩⟩⟩
  have HC : ∀ q_ ∈ xecE_C, xhold (xecE_r v1_ v2 v3 v310 v400) q_ := fun q_ hq => absurd hq List.not_mem_nil
  rcases yrun (yis_ok xecE_k) hA Hs Ho HC with ⟨q_, hq, h', K_, G_⟩ | ⟨q_, hq, h', K_, G_⟩
  · have e_ := List.mem_singleton.mp hq
    subst e_
    exact ⟨h', yfr_sm K_.2.2.2 hs K_.1 (ywa_s xecE_w List.mem_cons_self), Or.inl (⟨xq_ltT rfl rfl (K_.2.2.1 _ List.mem_cons_self), xq_ltF rfl rfl (K_.2.2.1 _ (List.mem_cons_of_mem _ List.mem_cons_self)), xq_ltT rfl rfl (K_.2.2.1 _ (List.mem_cons_of_mem _ (List.mem_cons_of_mem _ List.mem_cons_self))), xq_ltF rfl rfl (K_.2.2.1 _ (List.mem_cons_of_mem _ (List.mem_cons_of_mem _ (List.mem_cons_of_mem _ List.mem_cons_self)))), fun a_ j_ => yfr_bp K_.2.2.2 (fun q_ hq => absurd hq List.not_mem_nil), G_⟩)⟩
  · rcases List.mem_cons.mp hq with e_ | hq
    · subst e_
      exact ⟨h', yfr_sm K_.2.2.2 hs K_.1 (ywa_r xecE_w List.mem_cons_self), Or.inr (Or.inl (⟨xq_ltT rfl rfl (K_.2.2.1 _ List.mem_cons_self), bpat_of (K_.2.1 _ List.mem_cons_self), fun a_ j_ n0_ => yfr_bp K_.2.2.2 (List.forall_mem_cons.mpr ⟨fun e_ => n0_ ⟨e_.1.symm, e_.2.symm⟩, fun q_ hq => absurd hq List.not_mem_nil⟩), G_⟩))⟩
    rcases List.mem_cons.mp hq with e_ | hq
    · subst e_
      exact ⟨h', yfr_sm K_.2.2.2 hs K_.1 (ywa_r xecE_w (List.mem_cons_of_mem _ List.mem_cons_self)), Or.inr (Or.inr (Or.inl (⟨xq_ltF rfl rfl (K_.2.2.1 _ List.mem_cons_self), xq_ltF rfl rfl (K_.2.2.1 _ (List.mem_cons_of_mem _ List.mem_cons_self)), bpat_of (K_.2.1 _ List.mem_cons_self), fun a_ j_ n0_ => yfr_bp K_.2.2.2 (List.forall_mem_cons.mpr ⟨fun e_ => n0_ ⟨e_.1.symm, e_.2.symm⟩, fun q_ hq => absurd hq List.not_mem_nil⟩), G_⟩)))⟩
    rcases List.mem_cons.mp hq with e_ | hq
    · subst e_
      exact ⟨h', yfr_sm K_.2.2.2 hs K_.1 (ywa_r xecE_w (List.mem_cons_of_mem _ (List.mem_cons_of_mem _ List.mem_cons_self))), Or.inr (Or.inr (Or.inr (Or.inl (⟨xq_ltT rfl rfl (K_.2.2.1 _ List.mem_cons_self), xq_ltT rfl rfl (K_.2.2.1 _ (List.mem_cons_of_mem _ List.mem_cons_self)), xq_ltF rfl rfl (K_.2.2.1 _ (List.mem_cons_of_mem _ (List.mem_cons_of_mem _ List.mem_cons_self))), bpat_of (K_.2.1 _ List.mem_cons_self), fun a_ j_ n0_ => yfr_bp K_.2.2.2 (List.forall_mem_cons.mpr ⟨fun e_ => n0_ ⟨e_.1.symm, e_.2.symm⟩, fun q_ hq => absurd hq List.not_mem_nil⟩), G_⟩))))⟩
    have e_ := List.mem_singleton.mp hq
    subst e_
    exact ⟨h', yfr_sm K_.2.2.2 hs K_.1 (ywa_r xecE_w (List.mem_cons_of_mem _ (List.mem_cons_of_mem _ (List.mem_cons_of_mem _ List.mem_cons_self)))), Or.inr (Or.inr (Or.inr (Or.inr (⟨xq_ltF rfl rfl (K_.2.2.1 _ List.mem_cons_self), xq_ltF rfl rfl (K_.2.2.1 _ (List.mem_cons_of_mem _ List.mem_cons_self)), xq_ltT rfl rfl (K_.2.2.1 _ (List.mem_cons_of_mem _ (List.mem_cons_of_mem _ List.mem_cons_self))), xq_ltF rfl rfl (K_.2.2.1 _ (List.mem_cons_of_mem _ (List.mem_cons_of_mem _ (List.mem_cons_of_mem _ List.mem_cons_self)))), bpat_of (K_.2.1 _ List.mem_cons_self), fun a_ j_ n0_ => yfr_bp K_.2.2.2 (List.forall_mem_cons.mpr ⟨fun e_ => n0_ ⟨e_.1.symm, e_.2.symm⟩, fun q_ hq => absurd hq List.not_mem_nil⟩), G_⟩))))⟩
-- xecF: 17 steps, 0 ends, 1 returns
def xecF_L : List (Nat × Nat × Nat) := []
def xecF_O : yO := [(0, .int 13, .index 323), (323, .int 1, .arg 400)]
def xecF_A : yA := (yZ xecF_L, [], [], [], [])
def xecF_C : List xB := []
def xecF_ss : List yS := []
def xecF_rs : List yR := [(some (.int (Int32.ofInt (-1000001))), [(323, .int 1, .add (.arg 400) (.int 1)), (0, .int 13, .index 323)], [], [(323, .int 1)])]
theorem xecF_w : ywa xecF_A xecF_ss xecF_rs = true := by decide +kernel
theorem xecF_k : yis (yev xecF_A 3000 60 90 [] (28, [(0, .index 0), (1, .arg 1), (2, .arg 2), (3, .arg 3)], [.int 0], xecF_O, xecF_C, [])) xecF_ss xecF_rs = true := by decide +kernel
def xecF_r (v1_ v2 v3 v400 : Int32) (k_ : Nat) : Value := bif Nat.beq k_ 1 then .int v1_ else (bif Nat.beq k_ 2 then .int v2 else (bif Nat.beq k_ 3 then .int v3 else (bif Nat.beq k_ 400 then .int v400 else (.int 0))))
def xecF_s (n_ : Nat) : Nat := 0
theorem xecF {h_ : xH} {v1_ v2 v3 v400 : Int32} (hs : sHp h_) (o0_ : bpat h_ 323 1 = some (.int v400)) : ∃ h', ysm h_ h' ∧ (((bpat h' 323 1 = some (.int (v400 + (1 : Int32)))) ∧ (∀ a_ j_ : Nat, ¬ (a_ = 323 ∧ j_ = 1) → bpat h' a_ j_ = bpat h_ a_ j_) ∧ (∀ D_, 60 ≤ D_ → xrun D_ 90 28 [(0, .index 0), (1, .int v1_), (2, .int v2), (3, .int v3)] [.int (0 : Int32)] h_ (some (.int (Int32.ofInt (-1000001))), h', [])))) := by
  have hA : yas xecF_A (xecF_r v1_ v2 v3 v400) (yg xecF_s) := ⟨fun q_ hq => absurd hq List.not_mem_nil, fun q_ hq => absurd hq List.not_mem_nil, fun q_ hq => absurd hq List.not_mem_nil, fun n_ hn => yg_lo hn, fun q_ hq => absurd hq List.not_mem_nil⟩
  have Hs : ysh xecF_A.1 (yg xecF_s) h_ := ysh_of2 hs (fun q_ hq => absurd hq List.not_mem_nil)
  have Ho : ymem (xecF_r v1_ v2 v3 v400) (yg xecF_s) xecF_O h_ := List.forall_mem_cons.mpr ⟨bpat_some (fxr_at hs.2 (show fxk fxl 0 13 = some 323 by decide +kernel)), List.forall_mem_cons.mpr ⟨bpat_some o0_, fun q_ hq => absurd hq List.not_mem_nil⟩⟩
  have HC : ∀ q_ ∈ xecF_C, xhold (xecF_r v1_ v2 v3 v400) q_ := fun q_ hq => absurd hq List.not_mem_nil
  rcases yrun (yis_ok xecF_k) hA Hs Ho HC with ⟨q_, hq, h', K_, G_⟩ | ⟨q_, hq, h', K_, G_⟩
  · cases hq
  · have e_ := List.mem_singleton.mp hq
    subst e_
    exact ⟨h', yfr_sm K_.2.2.2 hs K_.1 (ywa_r xecF_w List.mem_cons_self), ⟨bpat_of (K_.2.1 _ List.mem_cons_self), fun a_ j_ n0_ => yfr_bp K_.2.2.2 (List.forall_mem_cons.mpr ⟨fun e_ => n0_ ⟨e_.1.symm, e_.2.symm⟩, fun q_ hq => absurd hq List.not_mem_nil⟩), G_⟩⟩
-- xecG: 12 steps, 1 ends, 0 returns
def xecG_L : List (Nat × Nat × Nat) := [(1000, 6, 2)]
def xecG_O : yO := [(0, .int 0, .index 1), (1, .int 0, .index 2), (2, .arg 1, .index 1000), (0, .int 8, .index 314), (0, .int 10, .index 318)]
def xecG_A : yA := (yZ xecG_L, [(.arg 1, 12)], [], [], [])
def xecG_C : List xB := []
def xecG_ss : List yS := [(58, [(0, .index 0), (1, .arg 1), (2, .arg 2), (3, .arg 3)], [.index 318, .index 314, .index 1000, .index 1], [(0, .int 0, .index 1), (1, .int 0, .index 2), (2, .arg 1, .index 1000), (0, .int 8, .index 314), (0, .int 10, .index 318)], [], [])]
def xecG_rs : List yR := []
theorem xecG_w : ywa xecG_A xecG_ss xecG_rs = true := by decide +kernel
theorem xecG_k : yis (yev xecG_A 3000 60 90 [58] (28, [(0, .index 0), (1, .arg 1), (2, .arg 2), (3, .arg 3)], [.int 1], xecG_O, xecG_C, [])) xecG_ss xecG_rs = true := by decide +kernel
def xecG_r (v1_ v2 v3 : Int32) (k_ : Nat) : Value := bif Nat.beq k_ 1 then .int v1_ else (bif Nat.beq k_ 2 then .int v2 else (bif Nat.beq k_ 3 then .int v3 else (.int 0)))
def xecG_s (a1000 : Nat) (n_ : Nat) : Nat := bif Nat.beq n_ 1000 then a1000 else (0)
theorem xecG {h_ : xH} {a1000 : Nat} {v1_ v2 v3 : Int32} (hs : sHp h_) (k1000 : bcq h_ a1000 6 2) (o0_ : bpat h_ 2 (v1_).toInt.toNat = some (.index a1000)) (b0 : 0 ≤ (v1_).toInt ∧ (v1_).toInt < 12) : ∃ h', ysm h_ h' ∧ (((∀ a_ j_ : Nat, bpat h' a_ j_ = bpat h_ a_ j_) ∧ (bldD 60 90 28 [(0, .index 0), (1, .int v1_), (2, .int v2), (3, .int v3)] [.int (1 : Int32)] h_ 58 [(0, .index 0), (1, .int v1_), (2, .int v2), (3, .int v3)] [.index 318, .index 314, .index a1000, .index 1] h'))) := by
  have hA : yas xecG_A (xecG_r v1_ v2 v3) (yg (xecG_s a1000)) := ⟨List.forall_mem_cons.mpr ⟨b0, fun q_ hq => absurd hq List.not_mem_nil⟩, fun q_ hq => absurd hq List.not_mem_nil, fun q_ hq => absurd hq List.not_mem_nil, fun n_ hn => yg_lo hn, fun q_ hq => absurd hq List.not_mem_nil⟩
  have Hs : ysh xecG_A.1 (yg (xecG_s a1000)) h_ := ysh_of2 hs (List.forall_mem_cons.mpr ⟨⟨by decide, k1000⟩, fun q_ hq => absurd hq List.not_mem_nil⟩)
  have Ho : ymem (xecG_r v1_ v2 v3) (yg (xecG_s a1000)) xecG_O h_ := List.forall_mem_cons.mpr ⟨bpat_some (fxr_at hs.2 (show fxk fxl 0 0 = some 1 by decide +kernel)), List.forall_mem_cons.mpr ⟨bpat_some (fxr_at hs.2 (show fxk fxl 1 0 = some 2 by decide +kernel)), List.forall_mem_cons.mpr ⟨bpat_some o0_, List.forall_mem_cons.mpr ⟨bpat_some (fxr_at hs.2 (show fxk fxl 0 8 = some 314 by decide +kernel)), List.forall_mem_cons.mpr ⟨bpat_some (fxr_at hs.2 (show fxk fxl 0 10 = some 318 by decide +kernel)), fun q_ hq => absurd hq List.not_mem_nil⟩⟩⟩⟩⟩
  have HC : ∀ q_ ∈ xecG_C, xhold (xecG_r v1_ v2 v3) q_ := fun q_ hq => absurd hq List.not_mem_nil
  rcases yrun (yis_ok xecG_k) hA Hs Ho HC with ⟨q_, hq, h', K_, G_⟩ | ⟨q_, hq, h', K_, G_⟩
  · have e_ := List.mem_singleton.mp hq
    subst e_
    exact ⟨h', yfr_sm K_.2.2.2 hs K_.1 (ywa_s xecG_w List.mem_cons_self), ⟨fun a_ j_ => yfr_bp K_.2.2.2 (fun q_ hq => absurd hq List.not_mem_nil), G_⟩⟩
  · cases hq
-- xecH: 7 steps, 1 ends, 0 returns
def xecH_L : List (Nat × Nat × Nat) := [(1001, 6, 2)]
def xecH_O : yO := [(0, .int 0, .index 1), (1, .int 0, .index 2), (2, .arg 3, .index 1001), (0, .int 10, .index 318)]
def xecH_A : yA := (yZ xecH_L, [(.arg 3, 12)], [], [], [])
def xecH_C : List xB := []
def xecH_ss : List yS := [(74, [(0, .index 0), (1, .arg 1), (2, .arg 2), (3, .arg 3)], [.index 318, .index 1001], [(0, .int 0, .index 1), (1, .int 0, .index 2), (2, .arg 3, .index 1001), (0, .int 10, .index 318)], [], [])]
def xecH_rs : List yR := []
theorem xecH_w : ywa xecH_A xecH_ss xecH_rs = true := by decide +kernel
theorem xecH_k : yis (yev xecH_A 3000 60 90 [74] (61, [(0, .index 0), (1, .arg 1), (2, .arg 2), (3, .arg 3)], [], xecH_O, xecH_C, [])) xecH_ss xecH_rs = true := by decide +kernel
def xecH_r (v1_ v2 v3 : Int32) (k_ : Nat) : Value := bif Nat.beq k_ 1 then .int v1_ else (bif Nat.beq k_ 2 then .int v2 else (bif Nat.beq k_ 3 then .int v3 else (.int 0)))
def xecH_s (a1001 : Nat) (n_ : Nat) : Nat := bif Nat.beq n_ 1001 then a1001 else (0)
theorem xecH {h_ : xH} {a1001 : Nat} {v1_ v2 v3 : Int32} (hs : sHp h_) (k1001 : bcq h_ a1001 6 2) (o0_ : bpat h_ 2 (v3).toInt.toNat = some (.index a1001)) (b0 : 0 ≤ (v3).toInt ∧ (v3).toInt < 12) : ∃ h', ysm h_ h' ∧ (((∀ a_ j_ : Nat, bpat h' a_ j_ = bpat h_ a_ j_) ∧ (bldD 60 90 61 [(0, .index 0), (1, .int v1_), (2, .int v2), (3, .int v3)] [] h_ 74 [(0, .index 0), (1, .int v1_), (2, .int v2), (3, .int v3)] [.index 318, .index a1001] h'))) := by
  have hA : yas xecH_A (xecH_r v1_ v2 v3) (yg (xecH_s a1001)) := ⟨List.forall_mem_cons.mpr ⟨b0, fun q_ hq => absurd hq List.not_mem_nil⟩, fun q_ hq => absurd hq List.not_mem_nil, fun q_ hq => absurd hq List.not_mem_nil, fun n_ hn => yg_lo hn, fun q_ hq => absurd hq List.not_mem_nil⟩
  have Hs : ysh xecH_A.1 (yg (xecH_s a1001)) h_ := ysh_of2 hs (List.forall_mem_cons.mpr ⟨⟨by decide, k1001⟩, fun q_ hq => absurd hq List.not_mem_nil⟩)
  have Ho : ymem (xecH_r v1_ v2 v3) (yg (xecH_s a1001)) xecH_O h_ := List.forall_mem_cons.mpr ⟨bpat_some (fxr_at hs.2 (show fxk fxl 0 0 = some 1 by decide +kernel)), List.forall_mem_cons.mpr ⟨bpat_some (fxr_at hs.2 (show fxk fxl 1 0 = some 2 by decide +kernel)), List.forall_mem_cons.mpr ⟨bpat_some o0_, List.forall_mem_cons.mpr ⟨bpat_some (fxr_at hs.2 (show fxk fxl 0 10 = some 318 by decide +kernel)), fun q_ hq => absurd hq List.not_mem_nil⟩⟩⟩⟩
  have HC : ∀ q_ ∈ xecH_C, xhold (xecH_r v1_ v2 v3) q_ := fun q_ hq => absurd hq List.not_mem_nil
  rcases yrun (yis_ok xecH_k) hA Hs Ho HC with ⟨q_, hq, h', K_, G_⟩ | ⟨q_, hq, h', K_, G_⟩
  · have e_ := List.mem_singleton.mp hq
    subst e_
    exact ⟨h', yfr_sm K_.2.2.2 hs K_.1 (ywa_s xecH_w List.mem_cons_self), ⟨fun a_ j_ => yfr_bp K_.2.2.2 (fun q_ hq => absurd hq List.not_mem_nil), G_⟩⟩
  · cases hq
-- xecR: 4 steps, 0 ends, 1 returns
def xecR_L : List (Nat × Nat × Nat) := []
def xecR_O : yO := [(0, .int 10, .index 318), (318, .int 1, .arg 311)]
def xecR_A : yA := (yZ xecR_L, [], [], [], [])
def xecR_C : List xB := []
def xecR_ss : List yS := []
def xecR_rs : List yR := [(some (.arg 311), [(0, .int 10, .index 318), (318, .int 1, .arg 311)], [], [])]
theorem xecR_w : ywa xecR_A xecR_ss xecR_rs = true := by decide +kernel
theorem xecR_k : yis (yev xecR_A 3000 60 90 [] (77, [(0, .index 0), (1, .arg 1), (2, .arg 2), (3, .arg 3)], [], xecR_O, xecR_C, [])) xecR_ss xecR_rs = true := by decide +kernel
def xecR_r (v1_ v2 v3 v311 : Int32) (k_ : Nat) : Value := bif Nat.beq k_ 1 then .int v1_ else (bif Nat.beq k_ 2 then .int v2 else (bif Nat.beq k_ 3 then .int v3 else (bif Nat.beq k_ 311 then .int v311 else (.int 0))))
def xecR_s (n_ : Nat) : Nat := 0
theorem xecR {h_ : xH} {v1_ v2 v3 v311 : Int32} (hs : sHp h_) (o0_ : bpat h_ 318 1 = some (.int v311)) : ∃ h', ysm h_ h' ∧ (((∀ a_ j_ : Nat, bpat h' a_ j_ = bpat h_ a_ j_) ∧ (∀ D_, 60 ≤ D_ → xrun D_ 90 77 [(0, .index 0), (1, .int v1_), (2, .int v2), (3, .int v3)] [] h_ (some (.int v311), h', [])))) := by
  have hA : yas xecR_A (xecR_r v1_ v2 v3 v311) (yg xecR_s) := ⟨fun q_ hq => absurd hq List.not_mem_nil, fun q_ hq => absurd hq List.not_mem_nil, fun q_ hq => absurd hq List.not_mem_nil, fun n_ hn => yg_lo hn, fun q_ hq => absurd hq List.not_mem_nil⟩
  have Hs : ysh xecR_A.1 (yg xecR_s) h_ := ysh_of2 hs (fun q_ hq => absurd hq List.not_mem_nil)
  have Ho : ymem (xecR_r v1_ v2 v3 v311) (yg xecR_s) xecR_O h_ := List.forall_mem_cons.mpr ⟨bpat_some (fxr_at hs.2 (show fxk fxl 0 10 = some 318 by decide +kernel)), List.forall_mem_cons.mpr ⟨bpat_some o0_, fun q_ hq => absurd hq List.not_mem_nil⟩⟩
  have HC : ∀ q_ ∈ xecR_C, xhold (xecR_r v1_ v2 v3 v311) q_ := fun q_ hq => absurd hq List.not_mem_nil
  rcases yrun (yis_ok xecR_k) hA Hs Ho HC with ⟨q_, hq, h', K_, G_⟩ | ⟨q_, hq, h', K_, G_⟩
  · cases hq
  · have e_ := List.mem_singleton.mp hq
    subst e_
    exact ⟨h', yfr_sm K_.2.2.2 hs K_.1 (ywa_r xecR_w List.mem_cons_self), ⟨fun a_ j_ => yfr_bp K_.2.2.2 (fun q_ hq => absurd hq List.not_mem_nil), G_⟩⟩
-- mecE: 65 steps, 1 ends, 2 returns
def mecE_L : List (Nat × Nat × Nat) := []
def mecE_O : yO := [(338, .int 0, .index 339), (339, .int 0, .arg 310), (338, .int 3, .index 341), (341, .int 1, .arg 400)]
def mecE_A : yA := (yZ mecE_L, [], [], [], [])
def mecE_C : List xB := []
def mecE_ss : List yS := [(10, [(0, .index 338), (1, .arg 1), (2, .arg 2), (3, .arg 3)], [.arg 2, .index 338], [(338, .int 0, .index 339), (339, .int 0, .arg 310), (338, .int 3, .index 341), (341, .int 1, .arg 400)], [(.le, .arg 1, .sub (.arg 310) (.int 1), true), (.lt, .arg 1, .int 0, false)], [])]
def mecE_rs : List yR := [(some (.int (Int32.ofInt (-1000001))), [(341, .int 1, .add (.arg 400) (.int 1)), (338, .int 0, .index 339), (339, .int 0, .arg 310), (338, .int 3, .index 341)], [(.lt, .arg 1, .int 0, true)], [(341, .int 1)]),
  (some (.int (Int32.ofInt (-1000001))), [(341, .int 1, .add (.arg 400) (.int 1)), (338, .int 0, .index 339), (339, .int 0, .arg 310), (338, .int 3, .index 341)], [(.le, .arg 1, .sub (.arg 310) (.int 1), false), (.lt, .arg 1, .int 0, false)], [(341, .int 1)])]
theorem mecE_w : ywa mecE_A mecE_ss mecE_rs = true := by decide +kernel
theorem mecE_k : yis (yev mecE_A 3000 60 191 [10] (0, [(0, .index 338), (1, .arg 1), (2, .arg 2), (3, .arg 3)], [], mecE_O, mecE_C, [])) mecE_ss mecE_rs = true := by decide +kernel
def mecE_r (v1_ v2 v3 v310 v400 : Int32) (k_ : Nat) : Value := bif Nat.beq k_ 1 then .int v1_ else (bif Nat.beq k_ 2 then .int v2 else (bif Nat.beq k_ 3 then .int v3 else (bif Nat.beq k_ 310 then .int v310 else (bif Nat.beq k_ 400 then .int v400 else (.int 0)))))
def mecE_s (n_ : Nat) : Nat := 0
theorem mecE {h_ : xH} {v1_ v2 v3 v310 v400 : Int32} (hs : sHp h_) (o0_ : bpat h_ 339 0 = some (.int v310)) (o1 : bpat h_ 341 1 = some (.int v400)) : ∃ h', ysm h_ h' ∧ (((v1_.toInt ≤ (v310 - (1 : Int32)).toInt) ∧ ((0 : Int32).toInt ≤ v1_.toInt) ∧ (∀ a_ j_ : Nat, bpat h' a_ j_ = bpat h_ a_ j_) ∧ (bldD 60 191 0 [(0, .index 338), (1, .int v1_), (2, .int v2), (3, .int v3)] [] h_ 10 [(0, .index 338), (1, .int v1_), (2, .int v2), (3, .int v3)] [.int v2, .index 338] h'))
  ∨ ((v1_.toInt < (0 : Int32).toInt) ∧ (bpat h' 341 1 = some (.int (v400 + (1 : Int32)))) ∧ (∀ a_ j_ : Nat, ¬ (a_ = 341 ∧ j_ = 1) → bpat h' a_ j_ = bpat h_ a_ j_) ∧ (∀ D_, 60 ≤ D_ → xrun D_ 191 0 [(0, .index 338), (1, .int v1_), (2, .int v2), (3, .int v3)] [] h_ (some (.int (Int32.ofInt (-1000001))), h', [])))
  ∨ (((v310 - (1 : Int32)).toInt < v1_.toInt) ∧ ((0 : Int32).toInt ≤ v1_.toInt) ∧ (bpat h' 341 1 = some (.int (v400 + (1 : Int32)))) ∧ (∀ a_ j_ : Nat, ¬ (a_ = 341 ∧ j_ = 1) → bpat h' a_ j_ = bpat h_ a_ j_) ∧ (∀ D_, 60 ≤ D_ → xrun D_ 191 0 [(0, .index 338), (1, .int v1_), (2, .int v2), (3, .int v3)] [] h_ (some (.int (Int32.ofInt (-1000001))), h', [])))) := by
  have hA : yas mecE_A (mecE_r v1_ v2 v3 v310 v400) (yg mecE_s) := ⟨fun q_ hq => absurd hq List.not_mem_nil, fun q_ hq => absurd hq List.not_mem_nil, fun q_ hq => absurd hq List.not_mem_nil, fun n_ hn => yg_lo hn, fun q_ hq => absurd hq List.not_mem_nil⟩
  have Hs : ysh mecE_A.1 (yg mecE_s) h_ := ysh_of2 hs (fun q_ hq => absurd hq List.not_mem_nil)
  have Ho : ymem (mecE_r v1_ v2 v3 v310 v400) (yg mecE_s) mecE_O h_ := List.forall_mem_cons.mpr ⟨bpat_some (fxr_at hs.2 (show fxk fxl 338 0 = some 339 by decide +kernel)), List.forall_mem_cons.mpr ⟨bpat_some o0_, List.forall_mem_cons.mpr ⟨bpat_some (fxr_at hs.2 (show fxk fxl 338 3 = some 341 by decide +kernel)), List.forall_mem_cons.mpr ⟨bpat_some o1, fun q_ hq => absurd hq List.not_mem_nil⟩⟩⟩⟩
  have HC : ∀ q_ ∈ mecE_C, xhold (mecE_r v1_ v2 v3 v310 v400) q_ := fun q_ hq => absurd hq List.not_mem_nil
  rcases yrun (yis_ok mecE_k) hA Hs Ho HC with ⟨q_, hq, h', K_, G_⟩ | ⟨q_, hq, h', K_, G_⟩
  · have e_ := List.mem_singleton.mp hq
    subst e_
    exact ⟨h', yfr_sm K_.2.2.2 hs K_.1 (ywa_s mecE_w List.mem_cons_self), Or.inl (⟨xq_leT rfl (yv_sub2 rfl rfl) (K_.2.2.1 _ List.mem_cons_self), xq_ltF rfl rfl (K_.2.2.1 _ (List.mem_cons_of_mem _ List.mem_cons_self)), fun a_ j_ => yfr_bp K_.2.2.2 (fun q_ hq => absurd hq List.not_mem_nil), G_⟩)⟩
  · rcases List.mem_cons.mp hq with e_ | hq
    · subst e_
      exact ⟨h', yfr_sm K_.2.2.2 hs K_.1 (ywa_r mecE_w List.mem_cons_self), Or.inr (Or.inl (⟨xq_ltT rfl rfl (K_.2.2.1 _ List.mem_cons_self), bpat_of (K_.2.1 _ List.mem_cons_self), fun a_ j_ n0_ => yfr_bp K_.2.2.2 (List.forall_mem_cons.mpr ⟨fun e_ => n0_ ⟨e_.1.symm, e_.2.symm⟩, fun q_ hq => absurd hq List.not_mem_nil⟩), G_⟩))⟩
    have e_ := List.mem_singleton.mp hq
    subst e_
    exact ⟨h', yfr_sm K_.2.2.2 hs K_.1 (ywa_r mecE_w (List.mem_cons_of_mem _ List.mem_cons_self)), Or.inr (Or.inr (⟨xq_leF rfl (yv_sub2 rfl rfl) (K_.2.2.1 _ List.mem_cons_self), xq_ltF rfl rfl (K_.2.2.1 _ (List.mem_cons_of_mem _ List.mem_cons_self)), bpat_of (K_.2.1 _ List.mem_cons_self), fun a_ j_ n0_ => yfr_bp K_.2.2.2 (List.forall_mem_cons.mpr ⟨fun e_ => n0_ ⟨e_.1.symm, e_.2.symm⟩, fun q_ hq => absurd hq List.not_mem_nil⟩), G_⟩))⟩
-- mecF: 17 steps, 0 ends, 1 returns
def mecF_L : List (Nat × Nat × Nat) := []
def mecF_O : yO := [(338, .int 3, .index 341), (341, .int 1, .arg 400)]
def mecF_A : yA := (yZ mecF_L, [], [], [], [])
def mecF_C : List xB := []
def mecF_ss : List yS := []
def mecF_rs : List yR := [(some (.int (Int32.ofInt (-1000001))), [(341, .int 1, .add (.arg 400) (.int 1)), (338, .int 3, .index 341)], [], [(341, .int 1)])]
theorem mecF_w : ywa mecF_A mecF_ss mecF_rs = true := by decide +kernel
theorem mecF_k : yis (yev mecF_A 3000 60 191 [] (13, [(0, .index 338), (1, .arg 1), (2, .arg 2), (3, .arg 3)], [.int 0], mecF_O, mecF_C, [])) mecF_ss mecF_rs = true := by decide +kernel
def mecF_r (v1_ v2 v3 v400 : Int32) (k_ : Nat) : Value := bif Nat.beq k_ 1 then .int v1_ else (bif Nat.beq k_ 2 then .int v2 else (bif Nat.beq k_ 3 then .int v3 else (bif Nat.beq k_ 400 then .int v400 else (.int 0))))
def mecF_s (n_ : Nat) : Nat := 0
theorem mecF {h_ : xH} {v1_ v2 v3 v400 : Int32} (hs : sHp h_) (o0_ : bpat h_ 341 1 = some (.int v400)) : ∃ h', ysm h_ h' ∧ (((bpat h' 341 1 = some (.int (v400 + (1 : Int32)))) ∧ (∀ a_ j_ : Nat, ¬ (a_ = 341 ∧ j_ = 1) → bpat h' a_ j_ = bpat h_ a_ j_) ∧ (∀ D_, 60 ≤ D_ → xrun D_ 191 13 [(0, .index 338), (1, .int v1_), (2, .int v2), (3, .int v3)] [.int (0 : Int32)] h_ (some (.int (Int32.ofInt (-1000001))), h', [])))) := by
  have hA : yas mecF_A (mecF_r v1_ v2 v3 v400) (yg mecF_s) := ⟨fun q_ hq => absurd hq List.not_mem_nil, fun q_ hq => absurd hq List.not_mem_nil, fun q_ hq => absurd hq List.not_mem_nil, fun n_ hn => yg_lo hn, fun q_ hq => absurd hq List.not_mem_nil⟩
  have Hs : ysh mecF_A.1 (yg mecF_s) h_ := ysh_of2 hs (fun q_ hq => absurd hq List.not_mem_nil)
  have Ho : ymem (mecF_r v1_ v2 v3 v400) (yg mecF_s) mecF_O h_ := List.forall_mem_cons.mpr ⟨bpat_some (fxr_at hs.2 (show fxk fxl 338 3 = some 341 by decide +kernel)), List.forall_mem_cons.mpr ⟨bpat_some o0_, fun q_ hq => absurd hq List.not_mem_nil⟩⟩
  have HC : ∀ q_ ∈ mecF_C, xhold (mecF_r v1_ v2 v3 v400) q_ := fun q_ hq => absurd hq List.not_mem_nil
  rcases yrun (yis_ok mecF_k) hA Hs Ho HC with ⟨q_, hq, h', K_, G_⟩ | ⟨q_, hq, h', K_, G_⟩
  · cases hq
  · have e_ := List.mem_singleton.mp hq
    subst e_
    exact ⟨h', yfr_sm K_.2.2.2 hs K_.1 (ywa_r mecF_w List.mem_cons_self), ⟨bpat_of (K_.2.1 _ List.mem_cons_self), fun a_ j_ n0_ => yfr_bp K_.2.2.2 (List.forall_mem_cons.mpr ⟨fun e_ => n0_ ⟨e_.1.symm, e_.2.symm⟩, fun q_ hq => absurd hq List.not_mem_nil⟩), G_⟩⟩
-- mecG: 69 steps, 1 ends, 2 returns
def mecG_L : List (Nat × Nat × Nat) := []
def mecG_O : yO := [(338, .int 0, .index 339), (339, .int 0, .arg 310), (338, .int 3, .index 341), (341, .int 1, .arg 400), (338, .int 4, .index 342)]
def mecG_A : yA := (yZ mecG_L, [], [], [], [])
def mecG_C : List xB := []
def mecG_ss : List yS := [(37, [(0, .index 338), (1, .arg 1), (2, .arg 2), (3, .arg 3)], [.index 342, .arg 2, .arg 1, .index 338], [(338, .int 0, .index 339), (339, .int 0, .arg 310), (338, .int 3, .index 341), (341, .int 1, .arg 400), (338, .int 4, .index 342)], [(.le, .arg 3, .sub (.arg 310) (.int 1), true), (.lt, .arg 3, .int 0, false)], [])]
def mecG_rs : List yR := [(some (.int (Int32.ofInt (-1000001))), [(341, .int 1, .add (.arg 400) (.int 1)), (338, .int 0, .index 339), (339, .int 0, .arg 310), (338, .int 3, .index 341), (338, .int 4, .index 342)], [(.lt, .arg 3, .int 0, true)], [(341, .int 1)]),
  (some (.int (Int32.ofInt (-1000001))), [(341, .int 1, .add (.arg 400) (.int 1)), (338, .int 0, .index 339), (339, .int 0, .arg 310), (338, .int 3, .index 341), (338, .int 4, .index 342)], [(.le, .arg 3, .sub (.arg 310) (.int 1), false), (.lt, .arg 3, .int 0, false)], [(341, .int 1)])]
theorem mecG_w : ywa mecG_A mecG_ss mecG_rs = true := by decide +kernel
theorem mecG_k : yis (yev mecG_A 3000 60 191 [37] (13, [(0, .index 338), (1, .arg 1), (2, .arg 2), (3, .arg 3)], [.int 1], mecG_O, mecG_C, [])) mecG_ss mecG_rs = true := by decide +kernel
def mecG_r (v1_ v2 v3 v310 v400 : Int32) (k_ : Nat) : Value := bif Nat.beq k_ 1 then .int v1_ else (bif Nat.beq k_ 2 then .int v2 else (bif Nat.beq k_ 3 then .int v3 else (bif Nat.beq k_ 310 then .int v310 else (bif Nat.beq k_ 400 then .int v400 else (.int 0)))))
def mecG_s (n_ : Nat) : Nat := 0
theorem mecG {h_ : xH} {v1_ v2 v3 v310 v400 : Int32} (hs : sHp h_) (o0_ : bpat h_ 339 0 = some (.int v310)) (o1 : bpat h_ 341 1 = some (.int v400)) : ∃ h', ysm h_ h' ∧ (((v3.toInt ≤ (v310 - (1 : Int32)).toInt) ∧ ((0 : Int32).toInt ≤ v3.toInt) ∧ (∀ a_ j_ : Nat, bpat h' a_ j_ = bpat h_ a_ j_) ∧ (bldD 60 191 13 [(0, .index 338), (1, .int v1_), (2, .int v2), (3, .int v3)] [.int (1 : Int32)] h_ 37 [(0, .index 338), (1, .int v1_), (2, .int v2), (3, .int v3)] [.index 342, .int v2, .int v1_, .index 338] h'))
  ∨ ((v3.toInt < (0 : Int32).toInt) ∧ (bpat h' 341 1 = some (.int (v400 + (1 : Int32)))) ∧ (∀ a_ j_ : Nat, ¬ (a_ = 341 ∧ j_ = 1) → bpat h' a_ j_ = bpat h_ a_ j_) ∧ (∀ D_, 60 ≤ D_ → xrun D_ 191 13 [(0, .index 338), (1, .int v1_), (2, .int v2), (3, .int v3)] [.int (1 : Int32)] h_ (some (.int (Int32.ofInt (-1000001))), h', [])))
  ∨ (((v310 - (1 : Int32)).toInt < v3.toInt) ∧ ((0 : Int32).toInt ≤ v3.toInt) ∧ (bpat h' 341 1 = some (.int (v400 + (1 : Int32)))) ∧ (∀ a_ j_ : Nat, ¬ (a_ = 341 ∧ j_ = 1) → bpat h' a_ j_ = bpat h_ a_ j_) ∧ (∀ D_, 60 ≤ D_ → xrun D_ 191 13 [(0, .index 338), (1, .int v1_), (2, .int v2), (3, .int v3)] [.int (1 : Int32)] h_ (some (.int (Int32.ofInt (-1000001))), h', [])))) := by
  have hA : yas mecG_A (mecG_r v1_ v2 v3 v310 v400) (yg mecG_s) := ⟨fun q_ hq => absurd hq List.not_mem_nil, fun q_ hq => absurd hq List.not_mem_nil, fun q_ hq => absurd hq List.not_mem_nil, fun n_ hn => yg_lo hn, fun q_ hq => absurd hq List.not_mem_nil⟩
  have Hs : ysh mecG_A.1 (yg mecG_s) h_ := ysh_of2 hs (fun q_ hq => absurd hq List.not_mem_nil)
  have Ho : ymem (mecG_r v1_ v2 v3 v310 v400) (yg mecG_s) mecG_O h_ := List.forall_mem_cons.mpr ⟨bpat_some (fxr_at hs.2 (show fxk fxl 338 0 = some 339 by decide +kernel)), List.forall_mem_cons.mpr ⟨bpat_some o0_, List.forall_mem_cons.mpr ⟨bpat_some (fxr_at hs.2 (show fxk fxl 338 3 = some 341 by decide +kernel)), List.forall_mem_cons.mpr ⟨bpat_some o1, List.forall_mem_cons.mpr ⟨bpat_some (fxr_at hs.2 (show fxk fxl 338 4 = some 342 by decide +kernel)), fun q_ hq => absurd hq List.not_mem_nil⟩⟩⟩⟩⟩
  have HC : ∀ q_ ∈ mecG_C, xhold (mecG_r v1_ v2 v3 v310 v400) q_ := fun q_ hq => absurd hq List.not_mem_nil
  rcases yrun (yis_ok mecG_k) hA Hs Ho HC with ⟨q_, hq, h', K_, G_⟩ | ⟨q_, hq, h', K_, G_⟩
  · have e_ := List.mem_singleton.mp hq
    subst e_
    exact ⟨h', yfr_sm K_.2.2.2 hs K_.1 (ywa_s mecG_w List.mem_cons_self), Or.inl (⟨xq_leT rfl (yv_sub2 rfl rfl) (K_.2.2.1 _ List.mem_cons_self), xq_ltF rfl rfl (K_.2.2.1 _ (List.mem_cons_of_mem _ List.mem_cons_self)), fun a_ j_ => yfr_bp K_.2.2.2 (fun q_ hq => absurd hq List.not_mem_nil), G_⟩)⟩
  · rcases List.mem_cons.mp hq with e_ | hq
    · subst e_
      exact ⟨h', yfr_sm K_.2.2.2 hs K_.1 (ywa_r mecG_w List.mem_cons_self), Or.inr (Or.inl (⟨xq_ltT rfl rfl (K_.2.2.1 _ List.mem_cons_self), bpat_of (K_.2.1 _ List.mem_cons_self), fun a_ j_ n0_ => yfr_bp K_.2.2.2 (List.forall_mem_cons.mpr ⟨fun e_ => n0_ ⟨e_.1.symm, e_.2.symm⟩, fun q_ hq => absurd hq List.not_mem_nil⟩), G_⟩))⟩
    have e_ := List.mem_singleton.mp hq
    subst e_
    exact ⟨h', yfr_sm K_.2.2.2 hs K_.1 (ywa_r mecG_w (List.mem_cons_of_mem _ List.mem_cons_self)), Or.inr (Or.inr (⟨xq_leF rfl (yv_sub2 rfl rfl) (K_.2.2.1 _ List.mem_cons_self), xq_ltF rfl rfl (K_.2.2.1 _ (List.mem_cons_of_mem _ List.mem_cons_self)), bpat_of (K_.2.1 _ List.mem_cons_self), fun a_ j_ n0_ => yfr_bp K_.2.2.2 (List.forall_mem_cons.mpr ⟨fun e_ => n0_ ⟨e_.1.symm, e_.2.symm⟩, fun q_ hq => absurd hq List.not_mem_nil⟩), G_⟩))⟩
-- mecH: 8 steps, 1 ends, 0 returns
def mecH_L : List (Nat × Nat × Nat) := []
def mecH_O : yO := [(338, .int 4, .index 342)]
def mecH_A : yA := (yZ mecH_L, [], [], [], [])
def mecH_C : List xB := []
def mecH_ss : List yS := [(52, [(0, .index 338), (1, .arg 1), (2, .arg 2), (3, .arg 3)], [.add (.int 34) (.mul (.int 13) (.arg 3)), .index 342, .index 338], [(338, .int 4, .index 342)], [], [])]
def mecH_rs : List yR := []
theorem mecH_w : ywa mecH_A mecH_ss mecH_rs = true := by decide +kernel
theorem mecH_k : yis (yev mecH_A 3000 60 191 [52] (40, [(0, .index 338), (1, .arg 1), (2, .arg 2), (3, .arg 3)], [], mecH_O, mecH_C, [])) mecH_ss mecH_rs = true := by decide +kernel
def mecH_r (v1_ v2 v3 : Int32) (k_ : Nat) : Value := bif Nat.beq k_ 1 then .int v1_ else (bif Nat.beq k_ 2 then .int v2 else (bif Nat.beq k_ 3 then .int v3 else (.int 0)))
def mecH_s (n_ : Nat) : Nat := 0
theorem mecH {h_ : xH} {v1_ v2 v3 : Int32} (hs : sHp h_) : ∃ h', ysm h_ h' ∧ (((∀ a_ j_ : Nat, bpat h' a_ j_ = bpat h_ a_ j_) ∧ (bldD 60 191 40 [(0, .index 338), (1, .int v1_), (2, .int v2), (3, .int v3)] [] h_ 52 [(0, .index 338), (1, .int v1_), (2, .int v2), (3, .int v3)] [.int ((34 : Int32) + ((13 : Int32) * v3)), .index 342, .index 338] h'))) := by
  have hA : yas mecH_A (mecH_r v1_ v2 v3) (yg mecH_s) := ⟨fun q_ hq => absurd hq List.not_mem_nil, fun q_ hq => absurd hq List.not_mem_nil, fun q_ hq => absurd hq List.not_mem_nil, fun n_ hn => yg_lo hn, fun q_ hq => absurd hq List.not_mem_nil⟩
  have Hs : ysh mecH_A.1 (yg mecH_s) h_ := ysh_of2 hs (fun q_ hq => absurd hq List.not_mem_nil)
  have Ho : ymem (mecH_r v1_ v2 v3) (yg mecH_s) mecH_O h_ := List.forall_mem_cons.mpr ⟨bpat_some (fxr_at hs.2 (show fxk fxl 338 4 = some 342 by decide +kernel)), fun q_ hq => absurd hq List.not_mem_nil⟩
  have HC : ∀ q_ ∈ mecH_C, xhold (mecH_r v1_ v2 v3) q_ := fun q_ hq => absurd hq List.not_mem_nil
  rcases yrun (yis_ok mecH_k) hA Hs Ho HC with ⟨q_, hq, h', K_, G_⟩ | ⟨q_, hq, h', K_, G_⟩
  · have e_ := List.mem_singleton.mp hq
    subst e_
    exact ⟨h', yfr_sm K_.2.2.2 hs K_.1 (ywa_s mecH_w List.mem_cons_self), ⟨fun a_ j_ => yfr_bp K_.2.2.2 (fun q_ hq => absurd hq List.not_mem_nil), G_⟩⟩
  · cases hq
-- mecR: 5 steps, 0 ends, 1 returns
def mecR_L : List (Nat × Nat × Nat) := []
def mecR_O : yO := [(338, .int 4, .index 342), (342, .int 0, .arg 311)]
def mecR_A : yA := (yZ mecR_L, [], [], [], [])
def mecR_C : List xB := []
def mecR_ss : List yS := []
def mecR_rs : List yR := [(some (.arg 311), [(338, .int 4, .index 342), (342, .int 0, .arg 311)], [], [])]
theorem mecR_w : ywa mecR_A mecR_ss mecR_rs = true := by decide +kernel
theorem mecR_k : yis (yev mecR_A 3000 60 191 [] (55, [(0, .index 338), (1, .arg 1), (2, .arg 2), (3, .arg 3)], [], mecR_O, mecR_C, [])) mecR_ss mecR_rs = true := by decide +kernel
def mecR_r (v1_ v2 v3 v311 : Int32) (k_ : Nat) : Value := bif Nat.beq k_ 1 then .int v1_ else (bif Nat.beq k_ 2 then .int v2 else (bif Nat.beq k_ 3 then .int v3 else (bif Nat.beq k_ 311 then .int v311 else (.int 0))))
def mecR_s (n_ : Nat) : Nat := 0
theorem mecR {h_ : xH} {v1_ v2 v3 v311 : Int32} (hs : sHp h_) (o0_ : bpat h_ 342 0 = some (.int v311)) : ∃ h', ysm h_ h' ∧ (((∀ a_ j_ : Nat, bpat h' a_ j_ = bpat h_ a_ j_) ∧ (∀ D_, 60 ≤ D_ → xrun D_ 191 55 [(0, .index 338), (1, .int v1_), (2, .int v2), (3, .int v3)] [] h_ (some (.int v311), h', [])))) := by
  have hA : yas mecR_A (mecR_r v1_ v2 v3 v311) (yg mecR_s) := ⟨fun q_ hq => absurd hq List.not_mem_nil, fun q_ hq => absurd hq List.not_mem_nil, fun q_ hq => absurd hq List.not_mem_nil, fun n_ hn => yg_lo hn, fun q_ hq => absurd hq List.not_mem_nil⟩
  have Hs : ysh mecR_A.1 (yg mecR_s) h_ := ysh_of2 hs (fun q_ hq => absurd hq List.not_mem_nil)
  have Ho : ymem (mecR_r v1_ v2 v3 v311) (yg mecR_s) mecR_O h_ := List.forall_mem_cons.mpr ⟨bpat_some (fxr_at hs.2 (show fxk fxl 338 4 = some 342 by decide +kernel)), List.forall_mem_cons.mpr ⟨bpat_some o0_, fun q_ hq => absurd hq List.not_mem_nil⟩⟩
  have HC : ∀ q_ ∈ mecR_C, xhold (mecR_r v1_ v2 v3 v311) q_ := fun q_ hq => absurd hq List.not_mem_nil
  rcases yrun (yis_ok mecR_k) hA Hs Ho HC with ⟨q_, hq, h', K_, G_⟩ | ⟨q_, hq, h', K_, G_⟩
  · cases hq
  · have e_ := List.mem_singleton.mp hq
    subst e_
    exact ⟨h', yfr_sm K_.2.2.2 hs K_.1 (ywa_r mecR_w List.mem_cons_self), ⟨fun a_ j_ => yfr_bp K_.2.2.2 (fun q_ hq => absurd hq List.not_mem_nil), G_⟩⟩
-- elay: 2 steps, 1 ends, 0 returns
def elay_L : List (Nat × Nat × Nat) := [(1001, 20, 13)]
def elay_O : yO := []
def elay_A : yA := (yZ elay_L, [], [], [], [])
def elay_C : List xB := []
def elay_ss : List yS := [(2, [(3, .int 0), (0, .index 338), (1, .index 1001), (2, .arg 2)], [], [], [], [])]
def elay_rs : List yR := []
theorem elay_w : ywa elay_A elay_ss elay_rs = true := by decide +kernel
theorem elay_k : yis (yev elay_A 3000 60 146 [2] (0, [(0, .index 338), (1, .index 1001), (2, .arg 2)], [], elay_O, elay_C, [])) elay_ss elay_rs = true := by decide +kernel
def elay_r (v2 : Int32) (k_ : Nat) : Value := bif Nat.beq k_ 2 then .int v2 else (.int 0)
def elay_s (a1001 : Nat) (n_ : Nat) : Nat := bif Nat.beq n_ 1001 then a1001 else (0)
theorem elay {h_ : xH} {a1001 : Nat} {v2 : Int32} (hs : sHp h_) (k1001 : bcq h_ a1001 20 13) : ∃ h', ysm h_ h' ∧ (((∀ a_ j_ : Nat, bpat h' a_ j_ = bpat h_ a_ j_) ∧ (bldD 60 146 0 [(0, .index 338), (1, .index a1001), (2, .int v2)] [] h_ 2 [(3, .int (0 : Int32)), (0, .index 338), (1, .index a1001), (2, .int v2)] [] h'))) := by
  have hA : yas elay_A (elay_r v2) (yg (elay_s a1001)) := ⟨fun q_ hq => absurd hq List.not_mem_nil, fun q_ hq => absurd hq List.not_mem_nil, fun q_ hq => absurd hq List.not_mem_nil, fun n_ hn => yg_lo hn, fun q_ hq => absurd hq List.not_mem_nil⟩
  have Hs : ysh elay_A.1 (yg (elay_s a1001)) h_ := ysh_of2 hs (List.forall_mem_cons.mpr ⟨⟨by decide, k1001⟩, fun q_ hq => absurd hq List.not_mem_nil⟩)
  have Ho : ymem (elay_r v2) (yg (elay_s a1001)) elay_O h_ := fun q_ hq => absurd hq List.not_mem_nil
  have HC : ∀ q_ ∈ elay_C, xhold (elay_r v2) q_ := fun q_ hq => absurd hq List.not_mem_nil
  rcases yrun (yis_ok elay_k) hA Hs Ho HC with ⟨q_, hq, h', K_, G_⟩ | ⟨q_, hq, h', K_, G_⟩
  · have e_ := List.mem_singleton.mp hq
    subst e_
    exact ⟨h', yfr_sm K_.2.2.2 hs K_.1 (ywa_s elay_w List.mem_cons_self), ⟨fun a_ j_ => yfr_bp K_.2.2.2 (fun q_ hq => absurd hq List.not_mem_nil), G_⟩⟩
  · cases hq
-- tla1: 20 steps, 1 ends, 0 returns
def tla1_L : List (Nat × Nat × Nat) := [(1001, 20, 13)]
def tla1_O : yO := [(338, .int 0, .index 339), (1001, .int 0, .arg 300), (1001, .arg 3, .arg 301)]
def tla1_A : yA := (yZ tla1_L, [(.add (.arg 2) (.arg 3), 768), (.arg 3, 13)], [], [], [])
def tla1_C : List xB := [(.le, .arg 3, .arg 300, true), (.lt, .arg 3, .int 13, true)]
def tla1_ss : List yS := [(2, [(3, .add (.arg 3) (.int 1)), (0, .index 338), (1, .index 1001), (2, .arg 2)], [], [(339, .add (.arg 2) (.arg 3), .arg 301), (338, .int 0, .index 339)], [(.le, .arg 3, .arg 300, true), (.lt, .arg 3, .int 13, true)], [(339, .add (.arg 2) (.arg 3))])]
def tla1_rs : List yR := []
theorem tla1_w : ywa tla1_A tla1_ss tla1_rs = true := by decide +kernel
theorem tla1_k : yis (yev tla1_A 3000 60 146 [2] (2, [(3, .arg 3), (0, .index 338), (1, .index 1001), (2, .arg 2)], [], tla1_O, tla1_C, [])) tla1_ss tla1_rs = true := by decide +kernel
def tla1_r (v2 v3 v300 v301 : Int32) (k_ : Nat) : Value := bif Nat.beq k_ 2 then .int v2 else (bif Nat.beq k_ 3 then .int v3 else (bif Nat.beq k_ 300 then .int v300 else (bif Nat.beq k_ 301 then .int v301 else (.int 0))))
def tla1_s (a1001 : Nat) (n_ : Nat) : Nat := bif Nat.beq n_ 1001 then a1001 else (0)
theorem tla1 {h_ : xH} {a1001 : Nat} {v2 v3 v300 v301 : Int32} (hs : sHp h_) (k1001 : bcq h_ a1001 20 13) (o0_ : bpat h_ a1001 0 = some (.int v300)) (o1 : bpat h_ a1001 (v3).toInt.toNat = some (.int v301)) (b0 : 0 ≤ ((v2 + v3)).toInt ∧ ((v2 + v3)).toInt < 768) (b1 : 0 ≤ (v3).toInt ∧ (v3).toInt < 13) (c0_ : v3.toInt ≤ v300.toInt) (c1_ : v3.toInt < (13 : Int32).toInt) : ∃ h', ysm h_ h' ∧ (((bpat h' 339 ((v2 + v3)).toInt.toNat = some (.int v301)) ∧ (∀ a_ j_ : Nat, ¬ (a_ = 339 ∧ j_ = ((v2 + v3)).toInt.toNat) → bpat h' a_ j_ = bpat h_ a_ j_) ∧ (bldD 60 146 2 [(3, .int v3), (0, .index 338), (1, .index a1001), (2, .int v2)] [] h_ 2 [(3, .int (v3 + (1 : Int32))), (0, .index 338), (1, .index a1001), (2, .int v2)] [] h'))) := by
  have hA : yas tla1_A (tla1_r v2 v3 v300 v301) (yg (tla1_s a1001)) := ⟨List.forall_mem_cons.mpr ⟨b0, List.forall_mem_cons.mpr ⟨b1, fun q_ hq => absurd hq List.not_mem_nil⟩⟩, fun q_ hq => absurd hq List.not_mem_nil, fun q_ hq => absurd hq List.not_mem_nil, fun n_ hn => yg_lo hn, fun q_ hq => absurd hq List.not_mem_nil⟩
  have Hs : ysh tla1_A.1 (yg (tla1_s a1001)) h_ := ysh_of2 hs (List.forall_mem_cons.mpr ⟨⟨by decide, k1001⟩, fun q_ hq => absurd hq List.not_mem_nil⟩)
  have Ho : ymem (tla1_r v2 v3 v300 v301) (yg (tla1_s a1001)) tla1_O h_ := List.forall_mem_cons.mpr ⟨bpat_some (fxr_at hs.2 (show fxk fxl 338 0 = some 339 by decide +kernel)), List.forall_mem_cons.mpr ⟨bpat_some o0_, List.forall_mem_cons.mpr ⟨bpat_some o1, fun q_ hq => absurd hq List.not_mem_nil⟩⟩⟩
  have HC : ∀ q_ ∈ tla1_C, xhold (tla1_r v2 v3 v300 v301) q_ := List.forall_mem_cons.mpr ⟨xh_leT c0_, List.forall_mem_cons.mpr ⟨xh_ltT c1_, fun q_ hq => absurd hq List.not_mem_nil⟩⟩
  rcases yrun (yis_ok tla1_k) hA Hs Ho HC with ⟨q_, hq, h', K_, G_⟩ | ⟨q_, hq, h', K_, G_⟩
  · have e_ := List.mem_singleton.mp hq
    subst e_
    exact ⟨h', yfr_sm K_.2.2.2 hs K_.1 (ywa_s tla1_w List.mem_cons_self), ⟨bpat_of (K_.2.1 _ List.mem_cons_self), fun a_ j_ n0_ => yfr_bp K_.2.2.2 (List.forall_mem_cons.mpr ⟨fun e_ => n0_ ⟨e_.1.symm, e_.2.symm⟩, fun q_ hq => absurd hq List.not_mem_nil⟩), G_⟩⟩
  · cases hq
-- tla0: 17 steps, 1 ends, 0 returns
def tla0_L : List (Nat × Nat × Nat) := [(1001, 20, 13)]
def tla0_O : yO := [(338, .int 0, .index 339), (1001, .int 0, .arg 300)]
def tla0_A : yA := (yZ tla0_L, [(.add (.arg 2) (.arg 3), 768), (.arg 3, 13)], [], [], [])
def tla0_C : List xB := [(.le, .arg 3, .arg 300, false), (.lt, .arg 3, .int 13, true)]
def tla0_ss : List yS := [(2, [(3, .add (.arg 3) (.int 1)), (0, .index 338), (1, .index 1001), (2, .arg 2)], [], [(339, .add (.arg 2) (.arg 3), .int 0), (338, .int 0, .index 339)], [(.le, .arg 3, .arg 300, false), (.lt, .arg 3, .int 13, true)], [(339, .add (.arg 2) (.arg 3))])]
def tla0_rs : List yR := []
theorem tla0_w : ywa tla0_A tla0_ss tla0_rs = true := by decide +kernel
theorem tla0_k : yis (yev tla0_A 3000 60 146 [2] (2, [(3, .arg 3), (0, .index 338), (1, .index 1001), (2, .arg 2)], [], tla0_O, tla0_C, [])) tla0_ss tla0_rs = true := by decide +kernel
def tla0_r (v2 v3 v300 : Int32) (k_ : Nat) : Value := bif Nat.beq k_ 2 then .int v2 else (bif Nat.beq k_ 3 then .int v3 else (bif Nat.beq k_ 300 then .int v300 else (.int 0)))
def tla0_s (a1001 : Nat) (n_ : Nat) : Nat := bif Nat.beq n_ 1001 then a1001 else (0)
theorem tla0 {h_ : xH} {a1001 : Nat} {v2 v3 v300 : Int32} (hs : sHp h_) (k1001 : bcq h_ a1001 20 13) (o0_ : bpat h_ a1001 0 = some (.int v300)) (b0 : 0 ≤ ((v2 + v3)).toInt ∧ ((v2 + v3)).toInt < 768) (b1 : 0 ≤ (v3).toInt ∧ (v3).toInt < 13) (c0_ : v300.toInt < v3.toInt) (c1_ : v3.toInt < (13 : Int32).toInt) : ∃ h', ysm h_ h' ∧ (((bpat h' 339 ((v2 + v3)).toInt.toNat = some (.int (0 : Int32))) ∧ (∀ a_ j_ : Nat, ¬ (a_ = 339 ∧ j_ = ((v2 + v3)).toInt.toNat) → bpat h' a_ j_ = bpat h_ a_ j_) ∧ (bldD 60 146 2 [(3, .int v3), (0, .index 338), (1, .index a1001), (2, .int v2)] [] h_ 2 [(3, .int (v3 + (1 : Int32))), (0, .index 338), (1, .index a1001), (2, .int v2)] [] h'))) := by
  have hA : yas tla0_A (tla0_r v2 v3 v300) (yg (tla0_s a1001)) := ⟨List.forall_mem_cons.mpr ⟨b0, List.forall_mem_cons.mpr ⟨b1, fun q_ hq => absurd hq List.not_mem_nil⟩⟩, fun q_ hq => absurd hq List.not_mem_nil, fun q_ hq => absurd hq List.not_mem_nil, fun n_ hn => yg_lo hn, fun q_ hq => absurd hq List.not_mem_nil⟩
  have Hs : ysh tla0_A.1 (yg (tla0_s a1001)) h_ := ysh_of2 hs (List.forall_mem_cons.mpr ⟨⟨by decide, k1001⟩, fun q_ hq => absurd hq List.not_mem_nil⟩)
  have Ho : ymem (tla0_r v2 v3 v300) (yg (tla0_s a1001)) tla0_O h_ := List.forall_mem_cons.mpr ⟨bpat_some (fxr_at hs.2 (show fxk fxl 338 0 = some 339 by decide +kernel)), List.forall_mem_cons.mpr ⟨bpat_some o0_, fun q_ hq => absurd hq List.not_mem_nil⟩⟩
  have HC : ∀ q_ ∈ tla0_C, xhold (tla0_r v2 v3 v300) q_ := List.forall_mem_cons.mpr ⟨xh_leF c0_, List.forall_mem_cons.mpr ⟨xh_ltT c1_, fun q_ hq => absurd hq List.not_mem_nil⟩⟩
  rcases yrun (yis_ok tla0_k) hA Hs Ho HC with ⟨q_, hq, h', K_, G_⟩ | ⟨q_, hq, h', K_, G_⟩
  · have e_ := List.mem_singleton.mp hq
    subst e_
    exact ⟨h', yfr_sm K_.2.2.2 hs K_.1 (ywa_s tla0_w List.mem_cons_self), ⟨bpat_of (K_.2.1 _ List.mem_cons_self), fun a_ j_ n0_ => yfr_bp K_.2.2.2 (List.forall_mem_cons.mpr ⟨fun e_ => n0_ ⟨e_.1.symm, e_.2.symm⟩, fun q_ hq => absurd hq List.not_mem_nil⟩), G_⟩⟩
  · cases hq
-- xlay: 4 steps, 0 ends, 1 returns
def xlay_L : List (Nat × Nat × Nat) := [(1001, 20, 13)]
def xlay_O : yO := []
def xlay_A : yA := (yZ xlay_L, [], [], [], [])
def xlay_C : List xB := [(.lt, .arg 3, .int 13, false)]
def xlay_ss : List yS := []
def xlay_rs : List yR := [(none, [], [(.lt, .arg 3, .int 13, false)], [])]
theorem xlay_w : ywa xlay_A xlay_ss xlay_rs = true := by decide +kernel
theorem xlay_k : yis (yev xlay_A 3000 60 146 [] (2, [(3, .arg 3), (0, .index 338), (1, .index 1001), (2, .arg 2)], [], xlay_O, xlay_C, [])) xlay_ss xlay_rs = true := by decide +kernel
def xlay_r (v2 v3 : Int32) (k_ : Nat) : Value := bif Nat.beq k_ 2 then .int v2 else (bif Nat.beq k_ 3 then .int v3 else (.int 0))
def xlay_s (a1001 : Nat) (n_ : Nat) : Nat := bif Nat.beq n_ 1001 then a1001 else (0)
theorem xlay {h_ : xH} {a1001 : Nat} {v2 v3 : Int32} (hs : sHp h_) (k1001 : bcq h_ a1001 20 13) (c0_ : (13 : Int32).toInt ≤ v3.toInt) : ∃ h', ysm h_ h' ∧ (((∀ a_ j_ : Nat, bpat h' a_ j_ = bpat h_ a_ j_) ∧ (∀ D_, 60 ≤ D_ → xrun D_ 146 2 [(3, .int v3), (0, .index 338), (1, .index a1001), (2, .int v2)] [] h_ (none, h', [])))) := by
  have hA : yas xlay_A (xlay_r v2 v3) (yg (xlay_s a1001)) := ⟨fun q_ hq => absurd hq List.not_mem_nil, fun q_ hq => absurd hq List.not_mem_nil, fun q_ hq => absurd hq List.not_mem_nil, fun n_ hn => yg_lo hn, fun q_ hq => absurd hq List.not_mem_nil⟩
  have Hs : ysh xlay_A.1 (yg (xlay_s a1001)) h_ := ysh_of2 hs (List.forall_mem_cons.mpr ⟨⟨by decide, k1001⟩, fun q_ hq => absurd hq List.not_mem_nil⟩)
  have Ho : ymem (xlay_r v2 v3) (yg (xlay_s a1001)) xlay_O h_ := fun q_ hq => absurd hq List.not_mem_nil
  have HC : ∀ q_ ∈ xlay_C, xhold (xlay_r v2 v3) q_ := List.forall_mem_cons.mpr ⟨xh_ltF c0_, fun q_ hq => absurd hq List.not_mem_nil⟩
  rcases yrun (yis_ok xlay_k) hA Hs Ho HC with ⟨q_, hq, h', K_, G_⟩ | ⟨q_, hq, h', K_, G_⟩
  · cases hq
  · have e_ := List.mem_singleton.mp hq
    subst e_
    exact ⟨h', yfr_sm K_.2.2.2 hs K_.1 (ywa_r xlay_w List.mem_cons_self), ⟨fun a_ j_ => yfr_bp K_.2.2.2 (fun q_ hq => absurd hq List.not_mem_nil), G_⟩⟩
/-- lay: a row into the numbers, the reference -/
theorem la_lp {b_ q_ : Nat} {l : List Int32} (nb : ¬ b_ = 339) (hq : q_ + 13 ≤ 768) (hl : l.length ≤ 12) : ∀ (k_ i_ : Nat) (h_ : xH), i_ + k_ = 13 → rM b_ h_ l → (∀ j_ y_, j_ < i_ → (Int32.ofNat l.length :: l)[j_]? = some y_ → bpat h_ 339 (q_ + j_) = some (.int y_)) → ∃ h', rM b_ h' l ∧ (∀ j_ y_, j_ < 13 → (Int32.ofNat l.length :: l)[j_]? = some y_ → bpat h' 339 (q_ + j_) = some (.int y_)) ∧ ysm h_ h' ∧ (∀ c_ j_, ¬ (c_ = 339 ∧ (q_ ≤ j_ ∧ j_ < q_ + 13)) → bpat h' c_ j_ = bpat h_ c_ j_) ∧ ∀ D_, 60 ≤ D_ → xrun D_ 146 2 [(3, .int (Int32.ofNat i_)), (0, .index 338), (1, .index b_), (2, .int (Int32.ofNat q_))] [] h_ (none, h', []) := by
  have z13_ : (13 : Int32).toInt = 13 := rfl
  intro k_
  induction k_ with
  | zero =>
    intro i_ h_ hi_ R_ P_
    obtain ⟨h1, m1_, f1_, r1_⟩ := xlay (v2 := Int32.ofNat q_) (v3 := Int32.ofNat i_) R_.1 R_.2.1.1 (by rw [i32n (by omega)]; omega)
    exact ⟨h1, rM_all R_ m1_ f1_, fun j_ y_ hj hy => (f1_ _ _).trans (P_ j_ y_ (by omega) hy), m1_, fun c_ j_ _ => f1_ c_ j_, r1_⟩
  | succ k_ ih_ =>
    intro i_ h_ hi_ R_ P_
    have ia : (Int32.ofNat q_ + Int32.ofNat i_).toInt.toNat = q_ + i_ ∧ (0 ≤ (Int32.ofNat q_ + Int32.ofNat i_).toInt ∧ (Int32.ofNat q_ + Int32.ofNat i_).toInt < 768) := by
      rw [i32p, i32n (by omega)]
      omega
    have bi : 0 ≤ (Int32.ofNat i_).toInt ∧ (Int32.ofNat i_).toInt < 13 := by
      rw [i32n (by omega)]
      omega
    have fin_ : ∀ h1 : xH, ysm h_ h1 → (∀ y_, (Int32.ofNat l.length :: l)[i_]? = some y_ → bpat h1 339 (q_ + i_) = some (.int y_)) → (∀ c_ j_, ¬ (c_ = 339 ∧ j_ = q_ + i_) → bpat h1 c_ j_ = bpat h_ c_ j_) → bldD 60 146 2 [(3, .int (Int32.ofNat i_)), (0, .index 338), (1, .index b_), (2, .int (Int32.ofNat q_))] [] h_ 2 [(3, .int (Int32.ofNat (i_ + 1))), (0, .index 338), (1, .index b_), (2, .int (Int32.ofNat q_))] [] h1 → ∃ h', rM b_ h' l ∧ (∀ j_ y_, j_ < 13 → (Int32.ofNat l.length :: l)[j_]? = some y_ → bpat h' 339 (q_ + j_) = some (.int y_)) ∧ ysm h_ h' ∧ (∀ c_ j_, ¬ (c_ = 339 ∧ (q_ ≤ j_ ∧ j_ < q_ + 13)) → bpat h' c_ j_ = bpat h_ c_ j_) ∧ ∀ D_, 60 ≤ D_ → xrun D_ 146 2 [(3, .int (Int32.ofNat i_)), (0, .index 338), (1, .index b_), (2, .int (Int32.ofNat q_))] [] h_ (none, h', []) := by
      intro h1 m1_ e1_ f1_ ld
      have R1 : rM b_ h1 l := ⟨m1_.1, rwm_keep R_.2.1 m1_ (fun j_ _ _ => f1_ b_ j_ (fun q2_ => nb q2_.1)), R_.2.2⟩
      obtain ⟨h2, R2, P2_, m2_, f2_, r2⟩ := ih_ (i_ + 1) h1 (by omega) R1 (fun j_ y_ hj hy => by
        rcases Nat.lt_or_ge j_ i_ with g_ | g_
        · exact (f1_ _ _ (fun q2_ => by have q2_ := q2_.2; omega)).trans (P_ j_ y_ g_ hy)
        · have ej : j_ = i_ := by omega
          subst ej
          exact e1_ y_ hy)
      exact ⟨h2, R2, P2_, ysm_tr m1_ m2_, fun c_ j_ n1_ => (f2_ c_ j_ n1_).trans (f1_ c_ j_ (fun q2_ => n1_ ⟨q2_.1, by have q2_ := q2_.2; omega⟩)), fun D_ hD => ld D_ hD _ (r2 D_ hD)⟩
    by_cases g_ : i_ ≤ l.length
    · have ex_ : ∃ y_, (Int32.ofNat l.length :: l)[i_]? = some y_ := ⟨_, List.getElem?_eq_getElem (by rw [List.length_cons]; omega)⟩
      obtain ⟨y_, hy⟩ := ex_
      have oy : bpat h_ b_ (Int32.ofNat i_).toInt.toNat = some (.int y_) := by
        rw [i32t (by omega)]
        cases i_ with
        | zero => cases hy; exact R_.2.1.2.1
        | succ i_ =>
          have e_ := R_.2.1.2.2 i_ y_ hy
          rw [show 0 + 1 + i_ = i_ + 1 by omega] at e_
          exact e_
      obtain ⟨h1, m1_, e1_, f1_, ld⟩ := tla1 (v2 := Int32.ofNat q_) (v3 := Int32.ofNat i_) R_.1 R_.2.1.1 R_.2.1.2.1 oy ia.2 bi (by rw [i32n (by omega), i32n (by omega)]; omega) (by rw [i32n (by omega)]; omega)
      rw [ia.1] at e1_ f1_
      rw [i32s] at ld
      exact fin_ h1 m1_ (fun y2 hy2 => by rw [hy] at hy2; cases hy2; exact e1_) f1_ ld
    · obtain ⟨h1, m1_, e1_, f1_, ld⟩ := tla0 (v2 := Int32.ofNat q_) (v3 := Int32.ofNat i_) R_.1 R_.2.1.1 R_.2.1.2.1 ia.2 bi (by rw [i32n (by omega), i32n (by omega)]; omega) (by rw [i32n (by omega)]; omega)
      rw [ia.1] at e1_ f1_
      rw [i32s] at ld
      exact fin_ h1 m1_ (fun y2 hy2 => by
        have lj := (List.getElem?_eq_some_iff.mp hy2).1
        rw [List.length_cons] at lj
        omega) f1_ ld
theorem layM {b_ q_ : Nat} {l : List Int32} {h_ : xH} (nb : ¬ b_ = 339) (hq : q_ + 13 ≤ 768) (R_ : rM b_ h_ l) : ∃ h', rM b_ h' l ∧ rwq h' 339 q_ (q_ + 1) 1 l ∧ ysm h_ h' ∧ (∀ c_ j_, ¬ (c_ = 339 ∧ (q_ ≤ j_ ∧ j_ < q_ + 13)) → bpat h' c_ j_ = bpat h_ c_ j_) ∧ ∀ D_, 60 ≤ D_ → xrun D_ 146 0 [(0, .index 338), (1, .index b_), (2, .int (Int32.ofNat q_))] [] h_ (none, h', []) := by
  obtain ⟨h0, m0_, f0_, ld0⟩ := elay (v2 := Int32.ofNat q_) R_.1 R_.2.1.1
  obtain ⟨h1, R1, P1_, m1_, f1_, r1_⟩ := la_lp nb hq R_.2.2 13 0 h0 (by omega) (rM_all R_ m0_ f0_) (fun j_ y_ hj => by omega)
  have hl := R_.2.2
  refine ⟨h1, R1, ⟨P1_ 0 _ (by omega) rfl, fun j_ y_ hy => ?_⟩, ysm_tr m0_ m1_, fun c_ j_ n_ => (f1_ c_ j_ n_).trans (f0_ c_ j_), fun D_ hD => ld0 D_ hD _ (r1_ D_ hD)⟩
  have lj := (List.getElem?_eq_some_iff.mp hy).1
  have e_ := P1_ (j_ + 1) y_ (by omega) hy
  rw [show q_ + 1 + 1 * j_ = q_ + (j_ + 1) by omega]
  exact e_
noncomputable def echoF (W_ : Nat → List Int32) (V : Nat → Int32) (z_ d_ i_ : Int32) : (Nat → List Int32) × (Nat → Int32) × Int32 := pif (((0 ≤ z_.toInt ∧ z_.toInt < (V 0).toInt) ∧ (0 ≤ i_.toInt ∧ i_.toInt < (V 0).toInt)) ∧ isW (nR V) d_) (upR W_ i_.toInt.toNat (hrd W_ V d_ (W_ z_.toInt.toNat)), V, Int32.ofNat (hrd W_ V d_ (W_ z_.toInt.toNat)).length) (W_, V, Int32.ofInt (-1000001))
theorem x_echo {W_ : Nat → List Int32} {V : Nat → Int32} {h_ : xH} {z_ d_ i_ : Int32} (B_ : bInv bZ bIj h_) (K_ : okS W_ V) (H_ : SX W_ V h_) : ∃ h', ysm h_ h' ∧ (SX (echoF W_ V z_ d_ i_).1 (echoF W_ V z_ d_ i_).2.1 h' ∧ ∀ D_, 70 ≤ D_ → xrun D_ 90 0 [(0, .index 0), (1, .int z_), (2, .int d_), (3, .int i_)] [] h_ (some (.int (echoF W_ V z_ d_ i_).2.2), h', [])) := by
  obtain ⟨y_, oy⟩ := xerr (k_ := 1) B_ (by omega)
  have zz := z0_
  unfold echoF
  obtain ⟨h0, m0_, e_⟩ := xecE (v1_ := z_) (v2 := d_) (v3 := i_) H_.1 (xNc H_) oy
  rcases e_ with ⟨g1, g2, g3_, g4, f_, r_⟩ | ⟨g1, w0_, f_, r_⟩ | ⟨g1, g2, w0_, f_, r_⟩ | ⟨g1, g2, g3_, w0_, f_, r_⟩ | ⟨g1, g2, g3_, g4, w0_, f_, r_⟩
  rotate_left
  · rw [pif_f (fun q_ => by omega)]; exact ⟨h0, m0_, SX_e H_ m0_ f_, fun D_ hD => r_ D_ (by omega)⟩
  · rw [pif_f (fun q_ => by omega)]; exact ⟨h0, m0_, SX_e H_ m0_ f_, fun D_ hD => r_ D_ (by omega)⟩
  · rw [pif_f (fun q_ => by omega)]; exact ⟨h0, m0_, SX_e H_ m0_ f_, fun D_ hD => r_ D_ (by omega)⟩
  · rw [pif_f (fun q_ => by omega)]; exact ⟨h0, m0_, SX_e H_ m0_ f_, fun D_ hD => r_ D_ (by omega)⟩
  have H0 := SX_fr H_ m0_ (fun c_ j_ _ => f_ c_ j_)
  obtain ⟨c_, hc_, hN_, rfl, ec⟩ := isC_n (z_ := z_) K_ ⟨by omega, g3_⟩
  obtain ⟨c2_, hc2, hN2, rfl, ec2⟩ := isC_n (z_ := i_) K_ ⟨by omega, g1⟩
  obtain ⟨h1, ⟨H1_, F1_⟩, e1_⟩ := c_rdw (mi := 90) (pc := 25) (lo_ := [(0, .index 0), (1, .int (Int32.ofNat c_)), (2, .int d_), (3, .int (Int32.ofNat c2_))]) (z_ := d_) (s' := []) rfl (xcc_l (List.forall_mem_cons.mpr ⟨xidx_i (bcq_lt (bcq_of (n_ := 0) (z_ := (11, 15)) H0.1 rfl)), List.forall_mem_cons.mpr ⟨rfl, List.forall_mem_cons.mpr ⟨rfl, List.forall_mem_cons.mpr ⟨rfl, fun q_ hq => absurd hq List.not_mem_nil⟩⟩⟩⟩) (fun t_ ht => absurd ht List.not_mem_nil) (Nat.le_of_ble_eq_true rfl)) K_ H0 (Or.inl ⟨rfl, rfl⟩)
  have fy : ∀ k_, bpat h1 323 k_ = bpat h_ 323 k_ := fun k_ => (F1_.2 _ _ (by omega) (by omega)).trans (f_ _ _)
  rcases e1_ with ⟨gw, RW, ld1⟩ | ⟨gw, ld1⟩
  · rw [pif_t ⟨⟨⟨by omega, by omega⟩, by omega, by omega⟩, gw⟩, ec, ec2]
    obtain ⟨s1_, s2_, s3_⟩ := cl_s H1_.1 hc_
    obtain ⟨h2, m2_, f2_, ld2⟩ := xecG (v1_ := Int32.ofNat c_) (v2 := d_) (v3 := Int32.ofNat c2_) H1_.1 s2_ (by rw [ec]; exact s1_) ⟨by omega, by omega⟩
    have H2_ := SX_fr H1_ m2_ (fun c_ j_ _ => f2_ c_ j_)
    obtain ⟨h3, ⟨H3, F3⟩, R3, ld3⟩ := c_hear (mi := 90) (pc := 58) (lo_ := [(0, .index 0), (1, .int (Int32.ofNat c_)), (2, .int d_), (3, .int (Int32.ofNat c2_))]) (s' := []) rfl (xcc_l (List.forall_mem_cons.mpr ⟨xidx_i (bcq_lt (bcq_of (n_ := 0) (z_ := (11, 15)) H2_.1 rfl)), List.forall_mem_cons.mpr ⟨rfl, List.forall_mem_cons.mpr ⟨rfl, List.forall_mem_cons.mpr ⟨rfl, fun q_ hq => absurd hq List.not_mem_nil⟩⟩⟩⟩) (fun t_ ht => absurd ht List.not_mem_nil) (Nat.le_of_ble_eq_true rfl)) K_ H2_ (Or.inl ⟨rfl, rfl⟩) (Or.inl ⟨rfl, rfl⟩) hc_ gw (rwx_keep RW m2_ (fun c_ j_ _ => f2_ c_ j_))
    obtain ⟨t1_, t2_, t3_⟩ := cl_s H3.1 hc2
    obtain ⟨h4, m4_, f4_, ld4⟩ := xecH (v1_ := Int32.ofNat c_) (v2 := d_) (v3 := Int32.ofNat c2_) H3.1 t2_ (by rw [ec2]; exact t1_) ⟨by omega, by omega⟩
    have H4 := SX_fr H3 m4_ (fun c_ j_ _ => f4_ c_ j_)
    have R4 := rW_all R3 m4_ f4_
    have RI := SX_w H4 (cl_x hc2)
    obtain ⟨h5, S5, R5, m5_, f5_, r5_⟩ := copyFrom12 H4.1 RI.1.1 RI.1.2 RI.2.1.1 R4.2.2 R4.2.1
    have ld5 := ycv (mi := 90) (pc := 74) (lo_ := [(0, .index 0), (1, .int (Int32.ofNat c_)), (2, .int d_), (3, .int (Int32.ofNat c2_))]) (st_ := [.index 318, .index (34 + 2 * c2_)]) (as_ := [.index 318]) (s' := []) rfl rfl RI.1.1 rfl (xcc_l (List.forall_mem_cons.mpr ⟨xidx_i (bcq_lt (bcq_of (n_ := 0) (z_ := (11, 15)) H4.1 rfl)), List.forall_mem_cons.mpr ⟨rfl, List.forall_mem_cons.mpr ⟨rfl, List.forall_mem_cons.mpr ⟨rfl, fun q_ hq => absurd hq List.not_mem_nil⟩⟩⟩⟩) (fun t_ ht => absurd ht List.not_mem_nil) (Nat.le_of_ble_eq_true rfl)) r5_
    obtain ⟨h6, m6_, f6_, r6⟩ := xecR (v1_ := Int32.ofNat c_) (v2 := d_) (v3 := Int32.ofNat c2_) S5 (by rw [f5_ 318 1 (by omega) (by omega)]; exact R4.2.1.2.1.2)
    have MM : ysm h4 h6 := ysm_tr m5_ m6_
    exact ⟨h6, ysm_tr m0_ (ysm_tr F1_.1 (ysm_tr m2_ (ysm_tr F3.1 (ysm_tr m4_ MM)))), SX_r H4 MM (cl_x hc2) (rwx_keep R5 m6_ (fun c_ j_ _ => f6_ c_ j_)) (fun c_ j_ _ n1_ n2_ => (f6_ c_ j_).trans (f5_ c_ j_ n1_ n2_)), fun D_ hD => r_ D_ (by omega) _ (ld1 D_ (by omega) _ (ld2 D_ (by omega) _ (ld3 D_ (by omega) _ (ld4 D_ (by omega) _ (ld5 D_ (by omega) _ (r6 D_ (by omega)))))))⟩
  · rw [pif_f (fun q_ => gw q_.2)]
    obtain ⟨h2, m2_, w0_, f2_, r2⟩ := xecF (v1_ := Int32.ofNat c_) (v2 := d_) (v3 := Int32.ofNat c2_) H1_.1 (by rw [fy]; exact oy)
    exact ⟨h2, ysm_tr m0_ (ysm_tr F1_.1 m2_), SX_e H1_ m2_ f2_, fun D_ hD => r_ D_ (by omega) _ (ld1 D_ (by omega) _ (r2 D_ (by omega)))⟩
theorem m_echo {W_ : Nat → List Int32} {V : Nat → Int32} {h_ : xH} {z_ d_ i_ : Int32} (B_ : bInv bZ bIj h_) (K_ : okS W_ V) (H_ : SM W_ V h_) : ∃ h', ysm h_ h' ∧ (SM (echoF W_ V z_ d_ i_).1 (echoF W_ V z_ d_ i_).2.1 h' ∧ ∀ D_, 70 ≤ D_ → xrun D_ 191 0 [(0, .index 338), (1, .int z_), (2, .int d_), (3, .int i_)] [] h_ (some (.int (echoF W_ V z_ d_ i_).2.2), h', [])) := by
  obtain ⟨y_, oy⟩ := merr (k_ := 1) B_ (by omega)
  have zz := z0_
  have kN_ := okN K_
  have n1_ := i32j (V 0) kN_.1 (by omega)
  have hz := m339 B_
  unfold echoF
  obtain ⟨h0, m0_, e_⟩ := mecE (v1_ := z_) (v2 := d_) (v3 := i_) H_.1 (mNc H_) oy
  rcases e_ with ⟨g1, g2, f_, r_⟩ | ⟨g1, w0_, f_, r_⟩ | ⟨g1, g2, w0_, f_, r_⟩
  rotate_left
  · rw [pif_f (fun q_ => by omega)]; exact ⟨h0, m0_, SM_e H_ m0_ f_, fun D_ hD => r_ D_ (by omega)⟩
  · rw [pif_f (fun q_ => by omega)]; exact ⟨h0, m0_, SM_e H_ m0_ f_, fun D_ hD => r_ D_ (by omega)⟩
  have H0 := SM_fr H_ m0_ (fun c_ j_ _ => f_ c_ j_)
  obtain ⟨c_, hc_, hN_, rfl, ec⟩ := isC_n (z_ := z_) K_ ⟨by omega, by omega⟩
  obtain ⟨h1, ⟨H1_, F1_⟩, e1_⟩ := c_isw (mi := 191) (pc := 10) (lo_ := [(0, .index 338), (1, .int (Int32.ofNat c_)), (2, .int d_), (3, .int i_)]) (z_ := d_) (s' := []) rfl (xcc_l (List.forall_mem_cons.mpr ⟨xidx_i (bcq_lt (bcq_of (n_ := 338) (z_ := (12, 26)) H0.1 rfl)), List.forall_mem_cons.mpr ⟨rfl, List.forall_mem_cons.mpr ⟨rfl, List.forall_mem_cons.mpr ⟨rfl, fun q_ hq => absurd hq List.not_mem_nil⟩⟩⟩⟩) (fun t_ ht => absurd ht List.not_mem_nil) (Nat.le_of_ble_eq_true rfl)) K_ H0
  have fy : ∀ k_, bpat h1 341 k_ = bpat h_ 341 k_ := fun k_ => (F1_.2 _ _).trans (f_ _ _)
  rcases e1_ with ⟨gw, ld1⟩ | ⟨gw, ld1⟩
  · obtain ⟨h2, m2_, e_⟩ := mecG (v1_ := Int32.ofNat c_) (v2 := d_) (v3 := i_) H1_.1 (mNc H1_) (by rw [fy]; exact oy)
    rcases e_ with ⟨g1, g2, f2_, ld2⟩ | ⟨g1, w0_, f2_, ld2⟩ | ⟨g1, g2, w0_, f2_, ld2⟩
    rotate_left
    · rw [pif_f (fun q_ => by omega)]; exact ⟨h2, ysm_tr m0_ (ysm_tr F1_.1 m2_), SM_e H1_ m2_ f2_, fun D_ hD => r_ D_ (by omega) _ (ld1 D_ (by omega) _ (ld2 D_ (by omega)))⟩
    · rw [pif_f (fun q_ => by omega)]; exact ⟨h2, ysm_tr m0_ (ysm_tr F1_.1 m2_), SM_e H1_ m2_ f2_, fun D_ hD => r_ D_ (by omega) _ (ld1 D_ (by omega) _ (ld2 D_ (by omega)))⟩
    have H2_ := SM_fr H1_ m2_ (fun c_ j_ _ => f2_ c_ j_)
    obtain ⟨c2_, hc2, hN2, rfl, ec2⟩ := isC_n (z_ := i_) K_ ⟨by omega, by omega⟩
    rw [pif_t ⟨⟨⟨by omega, by omega⟩, by omega, by omega⟩, gw⟩, ec, ec2]
    obtain ⟨h3, ⟨H3, F3⟩, R3, ld3⟩ := c_hears (mi := 191) (pc := 37) (lo_ := [(0, .index 338), (1, .int (Int32.ofNat c_)), (2, .int d_), (3, .int (Int32.ofNat c2_))]) (s' := []) rfl (xcc_l (List.forall_mem_cons.mpr ⟨xidx_i (bcq_lt (bcq_of (n_ := 338) (z_ := (12, 26)) H2_.1 rfl)), List.forall_mem_cons.mpr ⟨rfl, List.forall_mem_cons.mpr ⟨rfl, List.forall_mem_cons.mpr ⟨rfl, fun q_ hq => absurd hq List.not_mem_nil⟩⟩⟩⟩) (fun t_ ht => absurd ht List.not_mem_nil) (Nat.le_of_ble_eq_true rfl)) K_ H2_ (Or.inl rfl) hc_ gw (fun j_ hj => by rw [f2_, F1_.2, f_]; exact hz j_ hj)
    obtain ⟨h4, m4_, f4_, ld4⟩ := mecH (v1_ := Int32.ofNat c_) (v2 := d_) (v3 := Int32.ofNat c2_) H3.1
    have H4 := SM_fr H3 m4_ (fun c_ j_ _ => f4_ c_ j_)
    have R4 := rM_all R3 m4_ f4_
    have ei : (34 : Int32) + 13 * Int32.ofNat c2_ = Int32.ofNat (34 + 13 * c2_) := by
      have k_ : (List.range 12).all (fun c_ => decide ((34 : Int32) + 13 * Int32.ofNat c_ = Int32.ofNat (34 + 13 * c_))) = true := by decide +kernel
      exact of_decide_eq_true (List.all_eq_true.mp k_ c2_ (List.mem_range.mpr hc2))
    rw [ei] at ld4
    obtain ⟨h5, R5, Q5, m5_, f5_, r5_⟩ := layM (q_ := 34 + 13 * c2_) (by omega) (by omega) R4
    have ld5 := ycv (mi := 191) (pc := 52) (lo_ := [(0, .index 338), (1, .int (Int32.ofNat c_)), (2, .int d_), (3, .int (Int32.ofNat c2_))]) (st_ := [.int (Int32.ofNat (34 + 13 * c2_)), .index 342, .index 338]) (as_ := [.index 342, .int (Int32.ofNat (34 + 13 * c2_))]) (s' := []) rfl rfl (bcq_of (n_ := 338) (z_ := (12, 26)) H4.1 rfl) rfl (xcc_l (List.forall_mem_cons.mpr ⟨xidx_i (bcq_lt (bcq_of (n_ := 338) (z_ := (12, 26)) H4.1 rfl)), List.forall_mem_cons.mpr ⟨rfl, List.forall_mem_cons.mpr ⟨rfl, List.forall_mem_cons.mpr ⟨rfl, fun q_ hq => absurd hq List.not_mem_nil⟩⟩⟩⟩) (fun t_ ht => absurd ht List.not_mem_nil) (Nat.le_of_ble_eq_true rfl)) r5_
    obtain ⟨h6, m6_, f6_, r6⟩ := mecR (v1_ := Int32.ofNat c_) (v2 := d_) (v3 := Int32.ofNat c2_) m5_.1 R5.2.1.2.1
    have MM : ysm h4 h6 := ysm_tr m5_ m6_
    refine ⟨h6, ysm_tr m0_ (ysm_tr F1_.1 (ysm_tr m2_ (ysm_tr F3.1 (ysm_tr m4_ MM)))), SM_r H4 (lenS_ok K_) MM (cl_m hc2) ⟨(f6_ _ _).trans Q5.1, fun j_ y2 hy => (f6_ _ _).trans (by have e_ := Q5.2 j_ y2 hy; rw [show 34 + 13 * c2_ + 1 = 35 + 13 * c2_ by omega] at e_; exact e_)⟩ (fun c_ j_ _ n2_ => (f6_ c_ j_).trans (f5_ c_ j_ (fun q_ => n2_ ⟨q_.1, ?_⟩))), fun D_ hD => r_ D_ (by omega) _ (ld1 D_ (by omega) _ (ld2 D_ (by omega) _ (ld3 D_ (by omega) _ (ld4 D_ (by omega) _ (ld5 D_ (by omega) _ (r6 D_ (by omega)))))))⟩
    obtain ⟨-, q2_, q3_⟩ := q_
    have e_ := smo_c (c_ := c2_) (j_ := j_ - (34 + 13 * c2_)) hc2 (by omega)
    rw [show 34 + 13 * c2_ + (j_ - (34 + 13 * c2_)) = j_ by omega] at e_
    exact e_
  · rw [pif_f (fun q_ => gw q_.2)]
    obtain ⟨h2, m2_, w0_, f2_, r2⟩ := mecF (v1_ := Int32.ofNat c_) (v2 := d_) (v3 := i_) H1_.1 (by rw [fy]; exact oy)
    exact ⟨h2, ysm_tr m0_ (ysm_tr F1_.1 m2_), SM_e H1_ m2_ f2_, fun D_ hD => r_ D_ (by omega) _ (ld1 D_ (by omega) _ (r2 D_ (by omega)))⟩
