-- ===== ways read by the class
-- erw: 17 steps, 1 ends, 2 returns
def erw_L : List (Nat × Nat × Nat) := [(1000, 6, 2), (1001, 20, 4)]
def erw_O : yO := []
def erw_A : yA := (yZ erw_L, [], [], [], [])
def erw_C : List xB := []
def erw_ss : List yS := [(21, [(3, .int 1000), (0, .index 1), (1, .arg 1), (2, .index 1000)], [], [(1000, .int 1, .int 0)], [(.le, .arg 1, .int 9999, true), (.lt, .arg 1, .int 0, false)], [(1000, .int 1)])]
def erw_rs : List yR := [(some (.int 0), [(1000, .int 1, .int 0)], [(.lt, .arg 1, .int 0, true)], [(1000, .int 1)]),
  (some (.int 0), [(1000, .int 1, .int 0)], [(.le, .arg 1, .int 9999, false), (.lt, .arg 1, .int 0, false)], [(1000, .int 1)])]
theorem erw_w : ywa erw_A erw_ss erw_rs = true := by decide +kernel
theorem erw_k : yis (yev erw_A 3000 60 65 [21] (0, [(0, .index 1), (1, .arg 1), (2, .index 1000)], [], erw_O, erw_C, [])) erw_ss erw_rs = true := by decide +kernel
def erw_r (v1_ : Int32) (k_ : Nat) : Value := bif Nat.beq k_ 1 then .int v1_ else (.int 0)
def erw_s (a1000 a1001 : Nat) (n_ : Nat) : Nat := bif Nat.beq n_ 1000 then a1000 else (bif Nat.beq n_ 1001 then a1001 else (0))
theorem erw {h_ : xH} {a1000 a1001 : Nat} {v1_ : Int32} (hs : sHp h_) (k1000 : bcq h_ a1000 6 2) (k1001 : bcq h_ a1001 20 4) : ∃ h', ysm h_ h' ∧ (((v1_.toInt ≤ (9999 : Int32).toInt) ∧ ((0 : Int32).toInt ≤ v1_.toInt) ∧ (bpat h' a1000 1 = some (.int (0 : Int32))) ∧ (∀ a_ j_ : Nat, ¬ (a_ = a1000 ∧ j_ = 1) → bpat h' a_ j_ = bpat h_ a_ j_) ∧ (bldD 60 65 0 [(0, .index 1), (1, .int v1_), (2, .index a1000)] [] h_ 21 [(3, .int (1000 : Int32)), (0, .index 1), (1, .int v1_), (2, .index a1000)] [] h'))
  ∨ ((v1_.toInt < (0 : Int32).toInt) ∧ (bpat h' a1000 1 = some (.int (0 : Int32))) ∧ (∀ a_ j_ : Nat, ¬ (a_ = a1000 ∧ j_ = 1) → bpat h' a_ j_ = bpat h_ a_ j_) ∧ (∀ D_, 60 ≤ D_ → xrun D_ 65 0 [(0, .index 1), (1, .int v1_), (2, .index a1000)] [] h_ (some (.int (0 : Int32)), h', [])))
  ∨ (((9999 : Int32).toInt < v1_.toInt) ∧ ((0 : Int32).toInt ≤ v1_.toInt) ∧ (bpat h' a1000 1 = some (.int (0 : Int32))) ∧ (∀ a_ j_ : Nat, ¬ (a_ = a1000 ∧ j_ = 1) → bpat h' a_ j_ = bpat h_ a_ j_) ∧ (∀ D_, 60 ≤ D_ → xrun D_ 65 0 [(0, .index 1), (1, .int v1_), (2, .index a1000)] [] h_ (some (.int (0 : Int32)), h', [])))) := by
  have hA : yas erw_A (erw_r v1_) (yg (erw_s a1000 a1001)) := ⟨fun q_ hq => absurd hq List.not_mem_nil, fun q_ hq => absurd hq List.not_mem_nil, fun q_ hq => absurd hq List.not_mem_nil, fun n_ hn => yg_lo hn, fun q_ hq => absurd hq List.not_mem_nil⟩
  have Hs : ysh erw_A.1 (yg (erw_s a1000 a1001)) h_ := ysh_of2 hs (List.forall_mem_cons.mpr ⟨⟨by decide, k1000⟩, List.forall_mem_cons.mpr ⟨⟨by decide, k1001⟩, fun q_ hq => absurd hq List.not_mem_nil⟩⟩)
  have Ho : ymem (erw_r v1_) (yg (erw_s a1000 a1001)) erw_O h_ := fun q_ hq => absurd hq List.not_mem_nil
  have HC : ∀ q_ ∈ erw_C, xhold (erw_r v1_) q_ := fun q_ hq => absurd hq List.not_mem_nil
  rcases yrun (yis_ok erw_k) hA Hs Ho HC with ⟨q_, hq, h', K_, G_⟩ | ⟨q_, hq, h', K_, G_⟩
  · have e_ := List.mem_singleton.mp hq
    subst e_
    exact ⟨h', yfr_sm K_.2.2.2 hs K_.1 (ywa_s erw_w List.mem_cons_self), Or.inl (⟨xq_leT rfl rfl (K_.2.2.1 _ List.mem_cons_self), xq_ltF rfl rfl (K_.2.2.1 _ (List.mem_cons_of_mem _ List.mem_cons_self)), bpat_of (K_.2.1 _ List.mem_cons_self), fun a_ j_ n0_ => yfr_bp K_.2.2.2 (List.forall_mem_cons.mpr ⟨fun e_ => n0_ ⟨e_.1.symm, e_.2.symm⟩, fun q_ hq => absurd hq List.not_mem_nil⟩), G_⟩)⟩
  · rcases List.mem_cons.mp hq with e_ | hq
    · subst e_
      exact ⟨h', yfr_sm K_.2.2.2 hs K_.1 (ywa_r erw_w List.mem_cons_self), Or.inr (Or.inl (⟨xq_ltT rfl rfl (K_.2.2.1 _ List.mem_cons_self), bpat_of (K_.2.1 _ List.mem_cons_self), fun a_ j_ n0_ => yfr_bp K_.2.2.2 (List.forall_mem_cons.mpr ⟨fun e_ => n0_ ⟨e_.1.symm, e_.2.symm⟩, fun q_ hq => absurd hq List.not_mem_nil⟩), G_⟩))⟩
    have e_ := List.mem_singleton.mp hq
    subst e_
    exact ⟨h', yfr_sm K_.2.2.2 hs K_.1 (ywa_r erw_w (List.mem_cons_of_mem _ List.mem_cons_self)), Or.inr (Or.inr (⟨xq_leF rfl rfl (K_.2.2.1 _ List.mem_cons_self), xq_ltF rfl rfl (K_.2.2.1 _ (List.mem_cons_of_mem _ List.mem_cons_self)), bpat_of (K_.2.1 _ List.mem_cons_self), fun a_ j_ n0_ => yfr_bp K_.2.2.2 (List.forall_mem_cons.mpr ⟨fun e_ => n0_ ⟨e_.1.symm, e_.2.symm⟩, fun q_ hq => absurd hq List.not_mem_nil⟩), G_⟩))⟩
-- tRW_v0: 62 steps, 2 ends, 2 returns
def tRW_v0_L : List (Nat × Nat × Nat) := [(1000, 6, 2), (1001, 20, 4)]
def tRW_v0_O : yO := [(1, .int 10, .arg 310), (1000, .int 1, .arg 300), (1000, .int 0, .index 1001)]
def tRW_v0_A : yA := (yZ tRW_v0_L, [(.arg 300, 4)], [], [], [])
def tRW_v0_C : List xB := [(.le, .arg 3, .int 0, false), (.lt, .arg 300, .int 4, true)]
def tRW_v0_ss : List yS := [(21, [(3, .div (.arg 3) (.int 10)), (4, .rem (.div (.arg 1) (.arg 3)) (.int 10)), (0, .index 1), (1, .arg 1), (2, .index 1000)], [], [(1000, .int 1, .add (.arg 300) (.int 1)), (1001, .arg 300, .sub (.rem (.div (.arg 1) (.arg 3)) (.int 10)) (.int 1)), (1, .int 10, .arg 310), (1000, .int 0, .index 1001)], [(.le, .rem (.div (.arg 1) (.arg 3)) (.int 10), .arg 310, true), (.eq, .rem (.div (.arg 1) (.arg 3)) (.int 10), .int 0, false), (.le, .arg 3, .int 0, false), (.lt, .arg 300, .int 4, true)], [(1000, .int 1), (1001, .arg 300)]),
  (21, [(3, .div (.arg 3) (.int 10)), (4, .rem (.div (.arg 1) (.arg 3)) (.int 10)), (0, .index 1), (1, .arg 1), (2, .index 1000)], [], [(1, .int 10, .arg 310), (1000, .int 1, .arg 300), (1000, .int 0, .index 1001)], [(.eq, .arg 300, .int 0, true), (.eq, .rem (.div (.arg 1) (.arg 3)) (.int 10), .int 0, true), (.le, .arg 3, .int 0, false), (.lt, .arg 300, .int 4, true)], [])]
def tRW_v0_rs : List yR := [(some (.int 0), [(1, .int 10, .arg 310), (1000, .int 1, .arg 300), (1000, .int 0, .index 1001)], [(.le, .rem (.div (.arg 1) (.arg 3)) (.int 10), .arg 310, false), (.eq, .rem (.div (.arg 1) (.arg 3)) (.int 10), .int 0, false), (.le, .arg 3, .int 0, false), (.lt, .arg 300, .int 4, true)], []),
  (some (.int 0), [(1, .int 10, .arg 310), (1000, .int 1, .arg 300), (1000, .int 0, .index 1001)], [(.eq, .arg 300, .int 0, false), (.eq, .rem (.div (.arg 1) (.arg 3)) (.int 10), .int 0, true), (.le, .arg 3, .int 0, false), (.lt, .arg 300, .int 4, true)], [])]
theorem tRW_v0_w : ywa tRW_v0_A tRW_v0_ss tRW_v0_rs = true := by decide +kernel
theorem tRW_v0_k : yis (yev tRW_v0_A 3000 60 65 [21] (21, [(3, .arg 3), (0, .index 1), (1, .arg 1), (2, .index 1000)], [], tRW_v0_O, tRW_v0_C, [])) tRW_v0_ss tRW_v0_rs = true := by decide +kernel
def tRW_v0_r (v1_ v3 v300 v310 : Int32) (k_ : Nat) : Value := bif Nat.beq k_ 1 then .int v1_ else (bif Nat.beq k_ 3 then .int v3 else (bif Nat.beq k_ 300 then .int v300 else (bif Nat.beq k_ 310 then .int v310 else (.int 0))))
def tRW_v0_s (a1000 a1001 : Nat) (n_ : Nat) : Nat := bif Nat.beq n_ 1000 then a1000 else (bif Nat.beq n_ 1001 then a1001 else (0))
theorem tRW_v0 {h_ : xH} {a1000 a1001 : Nat} {v1_ v3 v300 v310 : Int32} (hs : sHp h_) (k1000 : bcq h_ a1000 6 2) (k1001 : bcq h_ a1001 20 4) (o0_ : bpat h_ 1 10 = some (.int v310)) (o1 : bpat h_ a1000 1 = some (.int v300)) (o2 : bpat h_ a1000 0 = some (.index a1001)) (b0 : 0 ≤ (v300).toInt ∧ (v300).toInt < 4) (c0_ : (0 : Int32).toInt < v3.toInt) (c1_ : v300.toInt < (4 : Int32).toInt) : ∃ h', ysm h_ h' ∧ (((((v1_ / v3) - (v1_ / v3) / (10 : Int32) * (10 : Int32)).toInt ≤ v310.toInt) ∧ (¬ ((v1_ / v3) - (v1_ / v3) / (10 : Int32) * (10 : Int32)) = (0 : Int32)) ∧ (bpat h' a1000 1 = some (.int (v300 + (1 : Int32)))) ∧ (bpat h' a1001 (v300).toInt.toNat = some (.int (((v1_ / v3) - (v1_ / v3) / (10 : Int32) * (10 : Int32)) - (1 : Int32)))) ∧ (∀ a_ j_ : Nat, ¬ (a_ = a1000 ∧ j_ = 1) → ¬ (a_ = a1001 ∧ j_ = (v300).toInt.toNat) → bpat h' a_ j_ = bpat h_ a_ j_) ∧ (bldD 60 65 21 [(3, .int v3), (0, .index 1), (1, .int v1_), (2, .index a1000)] [] h_ 21 [(3, .int (v3 / (10 : Int32))), (4, .int ((v1_ / v3) - (v1_ / v3) / (10 : Int32) * (10 : Int32))), (0, .index 1), (1, .int v1_), (2, .index a1000)] [] h'))
  ∨ ((v300 = (0 : Int32)) ∧ (((v1_ / v3) - (v1_ / v3) / (10 : Int32) * (10 : Int32)) = (0 : Int32)) ∧ (∀ a_ j_ : Nat, bpat h' a_ j_ = bpat h_ a_ j_) ∧ (bldD 60 65 21 [(3, .int v3), (0, .index 1), (1, .int v1_), (2, .index a1000)] [] h_ 21 [(3, .int (v3 / (10 : Int32))), (4, .int ((v1_ / v3) - (v1_ / v3) / (10 : Int32) * (10 : Int32))), (0, .index 1), (1, .int v1_), (2, .index a1000)] [] h'))
  ∨ ((v310.toInt < ((v1_ / v3) - (v1_ / v3) / (10 : Int32) * (10 : Int32)).toInt) ∧ (¬ ((v1_ / v3) - (v1_ / v3) / (10 : Int32) * (10 : Int32)) = (0 : Int32)) ∧ (∀ a_ j_ : Nat, bpat h' a_ j_ = bpat h_ a_ j_) ∧ (∀ D_, 60 ≤ D_ → xrun D_ 65 21 [(3, .int v3), (0, .index 1), (1, .int v1_), (2, .index a1000)] [] h_ (some (.int (0 : Int32)), h', [])))
  ∨ ((¬ v300 = (0 : Int32)) ∧ (((v1_ / v3) - (v1_ / v3) / (10 : Int32) * (10 : Int32)) = (0 : Int32)) ∧ (∀ a_ j_ : Nat, bpat h' a_ j_ = bpat h_ a_ j_) ∧ (∀ D_, 60 ≤ D_ → xrun D_ 65 21 [(3, .int v3), (0, .index 1), (1, .int v1_), (2, .index a1000)] [] h_ (some (.int (0 : Int32)), h', [])))) := by
  have hA : yas tRW_v0_A (tRW_v0_r v1_ v3 v300 v310) (yg (tRW_v0_s a1000 a1001)) := ⟨List.forall_mem_cons.mpr ⟨b0, fun q_ hq => absurd hq List.not_mem_nil⟩, fun q_ hq => absurd hq List.not_mem_nil, fun q_ hq => absurd hq List.not_mem_nil, fun n_ hn => yg_lo hn, fun q_ hq => absurd hq List.not_mem_nil⟩
  have Hs : ysh tRW_v0_A.1 (yg (tRW_v0_s a1000 a1001)) h_ := ysh_of2 hs (List.forall_mem_cons.mpr ⟨⟨by decide, k1000⟩, List.forall_mem_cons.mpr ⟨⟨by decide, k1001⟩, fun q_ hq => absurd hq List.not_mem_nil⟩⟩)
  have Ho : ymem (tRW_v0_r v1_ v3 v300 v310) (yg (tRW_v0_s a1000 a1001)) tRW_v0_O h_ := List.forall_mem_cons.mpr ⟨bpat_some o0_, List.forall_mem_cons.mpr ⟨bpat_some o1, List.forall_mem_cons.mpr ⟨bpat_some o2, fun q_ hq => absurd hq List.not_mem_nil⟩⟩⟩
  have HC : ∀ q_ ∈ tRW_v0_C, xhold (tRW_v0_r v1_ v3 v300 v310) q_ := List.forall_mem_cons.mpr ⟨xh_leF c0_, List.forall_mem_cons.mpr ⟨xh_ltT c1_, fun q_ hq => absurd hq List.not_mem_nil⟩⟩
  rcases yrun (yis_ok tRW_v0_k) hA Hs Ho HC with ⟨q_, hq, h', K_, G_⟩ | ⟨q_, hq, h', K_, G_⟩
  · rcases List.mem_cons.mp hq with e_ | hq
    · subst e_
      exact ⟨h', yfr_sm K_.2.2.2 hs K_.1 (ywa_s tRW_v0_w List.mem_cons_self), Or.inl (⟨xq_leT rfl rfl (K_.2.2.1 _ List.mem_cons_self), xq_eqF rfl rfl (K_.2.2.1 _ (List.mem_cons_of_mem _ List.mem_cons_self)), bpat_of (K_.2.1 _ List.mem_cons_self), bpat_of (K_.2.1 _ (List.mem_cons_of_mem _ List.mem_cons_self)), fun a_ j_ n0_ n1_ => yfr_bp K_.2.2.2 (List.forall_mem_cons.mpr ⟨fun e_ => n0_ ⟨e_.1.symm, e_.2.symm⟩, List.forall_mem_cons.mpr ⟨fun e_ => n1_ ⟨e_.1.symm, e_.2.symm⟩, fun q_ hq => absurd hq List.not_mem_nil⟩⟩), G_⟩)⟩
    have e_ := List.mem_singleton.mp hq
    subst e_
    exact ⟨h', yfr_sm K_.2.2.2 hs K_.1 (ywa_s tRW_v0_w (List.mem_cons_of_mem _ List.mem_cons_self)), Or.inr (Or.inl (⟨xq_eqT rfl rfl (K_.2.2.1 _ List.mem_cons_self), xq_eqT rfl rfl (K_.2.2.1 _ (List.mem_cons_of_mem _ List.mem_cons_self)), fun a_ j_ => yfr_bp K_.2.2.2 (fun q_ hq => absurd hq List.not_mem_nil), G_⟩))⟩
  · rcases List.mem_cons.mp hq with e_ | hq
    · subst e_
      exact ⟨h', yfr_sm K_.2.2.2 hs K_.1 (ywa_r tRW_v0_w List.mem_cons_self), Or.inr (Or.inr (Or.inl (⟨xq_leF rfl rfl (K_.2.2.1 _ List.mem_cons_self), xq_eqF rfl rfl (K_.2.2.1 _ (List.mem_cons_of_mem _ List.mem_cons_self)), fun a_ j_ => yfr_bp K_.2.2.2 (fun q_ hq => absurd hq List.not_mem_nil), G_⟩)))⟩
    have e_ := List.mem_singleton.mp hq
    subst e_
    exact ⟨h', yfr_sm K_.2.2.2 hs K_.1 (ywa_r tRW_v0_w (List.mem_cons_of_mem _ List.mem_cons_self)), Or.inr (Or.inr (Or.inr (⟨xq_eqF rfl rfl (K_.2.2.1 _ List.mem_cons_self), xq_eqT rfl rfl (K_.2.2.1 _ (List.mem_cons_of_mem _ List.mem_cons_self)), fun a_ j_ => yfr_bp K_.2.2.2 (fun q_ hq => absurd hq List.not_mem_nil), G_⟩)))⟩
-- tRW_v1: 62 steps, 2 ends, 2 returns
def tRW_v1_L : List (Nat × Nat × Nat) := [(1000, 6, 2), (1001, 20, 4)]
def tRW_v1_O : yO := [(1, .int 10, .arg 310), (1000, .int 1, .arg 300), (1000, .int 0, .index 1001)]
def tRW_v1_A : yA := (yZ tRW_v1_L, [(.arg 300, 4)], [], [], [])
def tRW_v1_C : List xB := [(.le, .arg 3, .int 0, false), (.lt, .arg 300, .int 4, true)]
def tRW_v1_ss : List yS := [(21, [(3, .div (.arg 3) (.int 10)), (4, .rem (.div (.arg 1) (.arg 3)) (.int 10)), (0, .index 1), (1, .arg 1), (2, .index 1000)], [], [(1000, .int 1, .add (.arg 300) (.int 1)), (1001, .arg 300, .sub (.rem (.div (.arg 1) (.arg 3)) (.int 10)) (.int 1)), (1, .int 10, .arg 310), (1000, .int 0, .index 1001)], [(.le, .rem (.div (.arg 1) (.arg 3)) (.int 10), .arg 310, true), (.eq, .rem (.div (.arg 1) (.arg 3)) (.int 10), .int 0, false), (.le, .arg 3, .int 0, false), (.lt, .arg 300, .int 4, true)], [(1000, .int 1), (1001, .arg 300)]),
  (21, [(3, .div (.arg 3) (.int 10)), (4, .rem (.div (.arg 1) (.arg 3)) (.int 10)), (0, .index 1), (1, .arg 1), (2, .index 1000)], [], [(1, .int 10, .arg 310), (1000, .int 1, .arg 300), (1000, .int 0, .index 1001)], [(.eq, .arg 300, .int 0, true), (.eq, .rem (.div (.arg 1) (.arg 3)) (.int 10), .int 0, true), (.le, .arg 3, .int 0, false), (.lt, .arg 300, .int 4, true)], [])]
def tRW_v1_rs : List yR := [(some (.int 0), [(1, .int 10, .arg 310), (1000, .int 1, .arg 300), (1000, .int 0, .index 1001)], [(.le, .rem (.div (.arg 1) (.arg 3)) (.int 10), .arg 310, false), (.eq, .rem (.div (.arg 1) (.arg 3)) (.int 10), .int 0, false), (.le, .arg 3, .int 0, false), (.lt, .arg 300, .int 4, true)], []),
  (some (.int 0), [(1, .int 10, .arg 310), (1000, .int 1, .arg 300), (1000, .int 0, .index 1001)], [(.eq, .arg 300, .int 0, false), (.eq, .rem (.div (.arg 1) (.arg 3)) (.int 10), .int 0, true), (.le, .arg 3, .int 0, false), (.lt, .arg 300, .int 4, true)], [])]
theorem tRW_v1_w : ywa tRW_v1_A tRW_v1_ss tRW_v1_rs = true := by decide +kernel
theorem tRW_v1_k : yis (yev tRW_v1_A 3000 60 65 [21] (21, [(3, .arg 3), (4, .arg 904), (0, .index 1), (1, .arg 1), (2, .index 1000)], [], tRW_v1_O, tRW_v1_C, [])) tRW_v1_ss tRW_v1_rs = true := by decide +kernel
def tRW_v1_r (v1_ v3 v300 v310 v904 : Int32) (k_ : Nat) : Value := bif Nat.beq k_ 1 then .int v1_ else (bif Nat.beq k_ 3 then .int v3 else (bif Nat.beq k_ 300 then .int v300 else (bif Nat.beq k_ 310 then .int v310 else (bif Nat.beq k_ 904 then .int v904 else (.int 0)))))
def tRW_v1_s (a1000 a1001 : Nat) (n_ : Nat) : Nat := bif Nat.beq n_ 1000 then a1000 else (bif Nat.beq n_ 1001 then a1001 else (0))
theorem tRW_v1 {h_ : xH} {a1000 a1001 : Nat} {v1_ v3 v300 v310 v904 : Int32} (hs : sHp h_) (k1000 : bcq h_ a1000 6 2) (k1001 : bcq h_ a1001 20 4) (o0_ : bpat h_ 1 10 = some (.int v310)) (o1 : bpat h_ a1000 1 = some (.int v300)) (o2 : bpat h_ a1000 0 = some (.index a1001)) (b0 : 0 ≤ (v300).toInt ∧ (v300).toInt < 4) (c0_ : (0 : Int32).toInt < v3.toInt) (c1_ : v300.toInt < (4 : Int32).toInt) : ∃ h', ysm h_ h' ∧ (((((v1_ / v3) - (v1_ / v3) / (10 : Int32) * (10 : Int32)).toInt ≤ v310.toInt) ∧ (¬ ((v1_ / v3) - (v1_ / v3) / (10 : Int32) * (10 : Int32)) = (0 : Int32)) ∧ (bpat h' a1000 1 = some (.int (v300 + (1 : Int32)))) ∧ (bpat h' a1001 (v300).toInt.toNat = some (.int (((v1_ / v3) - (v1_ / v3) / (10 : Int32) * (10 : Int32)) - (1 : Int32)))) ∧ (∀ a_ j_ : Nat, ¬ (a_ = a1000 ∧ j_ = 1) → ¬ (a_ = a1001 ∧ j_ = (v300).toInt.toNat) → bpat h' a_ j_ = bpat h_ a_ j_) ∧ (bldD 60 65 21 [(3, .int v3), (4, .int v904), (0, .index 1), (1, .int v1_), (2, .index a1000)] [] h_ 21 [(3, .int (v3 / (10 : Int32))), (4, .int ((v1_ / v3) - (v1_ / v3) / (10 : Int32) * (10 : Int32))), (0, .index 1), (1, .int v1_), (2, .index a1000)] [] h'))
  ∨ ((v300 = (0 : Int32)) ∧ (((v1_ / v3) - (v1_ / v3) / (10 : Int32) * (10 : Int32)) = (0 : Int32)) ∧ (∀ a_ j_ : Nat, bpat h' a_ j_ = bpat h_ a_ j_) ∧ (bldD 60 65 21 [(3, .int v3), (4, .int v904), (0, .index 1), (1, .int v1_), (2, .index a1000)] [] h_ 21 [(3, .int (v3 / (10 : Int32))), (4, .int ((v1_ / v3) - (v1_ / v3) / (10 : Int32) * (10 : Int32))), (0, .index 1), (1, .int v1_), (2, .index a1000)] [] h'))
  ∨ ((v310.toInt < ((v1_ / v3) - (v1_ / v3) / (10 : Int32) * (10 : Int32)).toInt) ∧ (¬ ((v1_ / v3) - (v1_ / v3) / (10 : Int32) * (10 : Int32)) = (0 : Int32)) ∧ (∀ a_ j_ : Nat, bpat h' a_ j_ = bpat h_ a_ j_) ∧ (∀ D_, 60 ≤ D_ → xrun D_ 65 21 [(3, .int v3), (4, .int v904), (0, .index 1), (1, .int v1_), (2, .index a1000)] [] h_ (some (.int (0 : Int32)), h', [])))
  ∨ ((¬ v300 = (0 : Int32)) ∧ (((v1_ / v3) - (v1_ / v3) / (10 : Int32) * (10 : Int32)) = (0 : Int32)) ∧ (∀ a_ j_ : Nat, bpat h' a_ j_ = bpat h_ a_ j_) ∧ (∀ D_, 60 ≤ D_ → xrun D_ 65 21 [(3, .int v3), (4, .int v904), (0, .index 1), (1, .int v1_), (2, .index a1000)] [] h_ (some (.int (0 : Int32)), h', [])))) := by
  have hA : yas tRW_v1_A (tRW_v1_r v1_ v3 v300 v310 v904) (yg (tRW_v1_s a1000 a1001)) := ⟨List.forall_mem_cons.mpr ⟨b0, fun q_ hq => absurd hq List.not_mem_nil⟩, fun q_ hq => absurd hq List.not_mem_nil, fun q_ hq => absurd hq List.not_mem_nil, fun n_ hn => yg_lo hn, fun q_ hq => absurd hq List.not_mem_nil⟩
  have Hs : ysh tRW_v1_A.1 (yg (tRW_v1_s a1000 a1001)) h_ := ysh_of2 hs (List.forall_mem_cons.mpr ⟨⟨by decide, k1000⟩, List.forall_mem_cons.mpr ⟨⟨by decide, k1001⟩, fun q_ hq => absurd hq List.not_mem_nil⟩⟩)
  have Ho : ymem (tRW_v1_r v1_ v3 v300 v310 v904) (yg (tRW_v1_s a1000 a1001)) tRW_v1_O h_ := List.forall_mem_cons.mpr ⟨bpat_some o0_, List.forall_mem_cons.mpr ⟨bpat_some o1, List.forall_mem_cons.mpr ⟨bpat_some o2, fun q_ hq => absurd hq List.not_mem_nil⟩⟩⟩
  have HC : ∀ q_ ∈ tRW_v1_C, xhold (tRW_v1_r v1_ v3 v300 v310 v904) q_ := List.forall_mem_cons.mpr ⟨xh_leF c0_, List.forall_mem_cons.mpr ⟨xh_ltT c1_, fun q_ hq => absurd hq List.not_mem_nil⟩⟩
  rcases yrun (yis_ok tRW_v1_k) hA Hs Ho HC with ⟨q_, hq, h', K_, G_⟩ | ⟨q_, hq, h', K_, G_⟩
  · rcases List.mem_cons.mp hq with e_ | hq
    · subst e_
      exact ⟨h', yfr_sm K_.2.2.2 hs K_.1 (ywa_s tRW_v1_w List.mem_cons_self), Or.inl (⟨xq_leT rfl rfl (K_.2.2.1 _ List.mem_cons_self), xq_eqF rfl rfl (K_.2.2.1 _ (List.mem_cons_of_mem _ List.mem_cons_self)), bpat_of (K_.2.1 _ List.mem_cons_self), bpat_of (K_.2.1 _ (List.mem_cons_of_mem _ List.mem_cons_self)), fun a_ j_ n0_ n1_ => yfr_bp K_.2.2.2 (List.forall_mem_cons.mpr ⟨fun e_ => n0_ ⟨e_.1.symm, e_.2.symm⟩, List.forall_mem_cons.mpr ⟨fun e_ => n1_ ⟨e_.1.symm, e_.2.symm⟩, fun q_ hq => absurd hq List.not_mem_nil⟩⟩), G_⟩)⟩
    have e_ := List.mem_singleton.mp hq
    subst e_
    exact ⟨h', yfr_sm K_.2.2.2 hs K_.1 (ywa_s tRW_v1_w (List.mem_cons_of_mem _ List.mem_cons_self)), Or.inr (Or.inl (⟨xq_eqT rfl rfl (K_.2.2.1 _ List.mem_cons_self), xq_eqT rfl rfl (K_.2.2.1 _ (List.mem_cons_of_mem _ List.mem_cons_self)), fun a_ j_ => yfr_bp K_.2.2.2 (fun q_ hq => absurd hq List.not_mem_nil), G_⟩))⟩
  · rcases List.mem_cons.mp hq with e_ | hq
    · subst e_
      exact ⟨h', yfr_sm K_.2.2.2 hs K_.1 (ywa_r tRW_v1_w List.mem_cons_self), Or.inr (Or.inr (Or.inl (⟨xq_leF rfl rfl (K_.2.2.1 _ List.mem_cons_self), xq_eqF rfl rfl (K_.2.2.1 _ (List.mem_cons_of_mem _ List.mem_cons_self)), fun a_ j_ => yfr_bp K_.2.2.2 (fun q_ hq => absurd hq List.not_mem_nil), G_⟩)))⟩
    have e_ := List.mem_singleton.mp hq
    subst e_
    exact ⟨h', yfr_sm K_.2.2.2 hs K_.1 (ywa_r tRW_v1_w (List.mem_cons_of_mem _ List.mem_cons_self)), Or.inr (Or.inr (Or.inr (⟨xq_eqF rfl rfl (K_.2.2.1 _ List.mem_cons_self), xq_eqT rfl rfl (K_.2.2.1 _ (List.mem_cons_of_mem _ List.mem_cons_self)), fun a_ j_ => yfr_bp K_.2.2.2 (fun q_ hq => absurd hq List.not_mem_nil), G_⟩)))⟩
def tRW_hd (a1000 : Nat) (p1_ p3_ : Int32) (lo_ : xL) : Prop := (lo_ = [(3, .int p3_), (0, .index 1), (1, .int p1_), (2, .index a1000)]) ∨ (∃ y4 : Int32, lo_ = [(3, .int p3_), (4, .int y4), (0, .index 1), (1, .int p1_), (2, .index a1000)])
theorem tRW {h_ : xH} {a1000 a1001 : Nat} {v1_ v3 v300 v310 : Int32} {lo_ : xL} (hs : sHp h_) (k1000 : bcq h_ a1000 6 2) (k1001 : bcq h_ a1001 20 4) (o0_ : bpat h_ 1 10 = some (.int v310)) (o1 : bpat h_ a1000 1 = some (.int v300)) (o2 : bpat h_ a1000 0 = some (.index a1001)) (b0 : 0 ≤ (v300).toInt ∧ (v300).toInt < 4) (c0_ : (0 : Int32).toInt < v3.toInt) (c1_ : v300.toInt < (4 : Int32).toInt) (H_ : tRW_hd a1000 v1_ v3 lo_) : ∃ h', ysm h_ h' ∧ (((((v1_ / v3) - (v1_ / v3) / (10 : Int32) * (10 : Int32)).toInt ≤ v310.toInt) ∧ (¬ ((v1_ / v3) - (v1_ / v3) / (10 : Int32) * (10 : Int32)) = (0 : Int32)) ∧ (bpat h' a1000 1 = some (.int (v300 + (1 : Int32)))) ∧ (bpat h' a1001 (v300).toInt.toNat = some (.int (((v1_ / v3) - (v1_ / v3) / (10 : Int32) * (10 : Int32)) - (1 : Int32)))) ∧ (∀ a_ j_ : Nat, ¬ (a_ = a1000 ∧ j_ = 1) → ¬ (a_ = a1001 ∧ j_ = (v300).toInt.toNat) → bpat h' a_ j_ = bpat h_ a_ j_) ∧ (∃ lo', tRW_hd a1000 v1_ (v3 / (10 : Int32)) lo' ∧ bldD 60 65 21 lo_ [] h_ 21 lo' [] h'))
  ∨ ((v300 = (0 : Int32)) ∧ (((v1_ / v3) - (v1_ / v3) / (10 : Int32) * (10 : Int32)) = (0 : Int32)) ∧ (∀ a_ j_ : Nat, bpat h' a_ j_ = bpat h_ a_ j_) ∧ (∃ lo', tRW_hd a1000 v1_ (v3 / (10 : Int32)) lo' ∧ bldD 60 65 21 lo_ [] h_ 21 lo' [] h'))
  ∨ ((v310.toInt < ((v1_ / v3) - (v1_ / v3) / (10 : Int32) * (10 : Int32)).toInt) ∧ (¬ ((v1_ / v3) - (v1_ / v3) / (10 : Int32) * (10 : Int32)) = (0 : Int32)) ∧ (∀ a_ j_ : Nat, bpat h' a_ j_ = bpat h_ a_ j_) ∧ (∀ D_, 60 ≤ D_ → xrun D_ 65 21 lo_ [] h_ (some (.int (0 : Int32)), h', [])))
  ∨ ((¬ v300 = (0 : Int32)) ∧ (((v1_ / v3) - (v1_ / v3) / (10 : Int32) * (10 : Int32)) = (0 : Int32)) ∧ (∀ a_ j_ : Nat, bpat h' a_ j_ = bpat h_ a_ j_) ∧ (∀ D_, 60 ≤ D_ → xrun D_ 65 21 lo_ [] h_ (some (.int (0 : Int32)), h', [])))) := by
  rcases H_ with rfl | ⟨y4, rfl⟩
  · obtain ⟨h', m_, e_⟩ := tRW_v0 hs k1000 k1001 o0_ o1 o2 b0 c0_ c1_
    refine ⟨h', m_, ?_⟩
    rcases e_ with e_ | e_ | e_ | e_
    · obtain ⟨g0, g1, g2, g3_, g4, g5_⟩ := e_
      exact Or.inl ⟨g0, g1, g2, g3_, g4, ⟨_, Or.inr (⟨_, rfl⟩), g5_⟩⟩
    · obtain ⟨g0, g1, g2, g3_⟩ := e_
      exact Or.inr (Or.inl ⟨g0, g1, g2, ⟨_, Or.inr (⟨_, rfl⟩), g3_⟩⟩)
    · obtain ⟨g0, g1, g2, g3_⟩ := e_
      exact Or.inr (Or.inr (Or.inl ⟨g0, g1, g2, g3_⟩))
    · obtain ⟨g0, g1, g2, g3_⟩ := e_
      exact Or.inr (Or.inr (Or.inr (⟨g0, g1, g2, g3_⟩)))
  · obtain ⟨h', m_, e_⟩ := tRW_v1 hs k1000 k1001 o0_ o1 o2 b0 c0_ c1_
    refine ⟨h', m_, ?_⟩
    rcases e_ with e_ | e_ | e_ | e_
    · obtain ⟨g0, g1, g2, g3_, g4, g5_⟩ := e_
      exact Or.inl ⟨g0, g1, g2, g3_, g4, ⟨_, Or.inr (⟨_, rfl⟩), g5_⟩⟩
    · obtain ⟨g0, g1, g2, g3_⟩ := e_
      exact Or.inr (Or.inl ⟨g0, g1, g2, ⟨_, Or.inr (⟨_, rfl⟩), g3_⟩⟩)
    · obtain ⟨g0, g1, g2, g3_⟩ := e_
      exact Or.inr (Or.inr (Or.inl ⟨g0, g1, g2, g3_⟩))
    · obtain ⟨g0, g1, g2, g3_⟩ := e_
      exact Or.inr (Or.inr (Or.inr (⟨g0, g1, g2, g3_⟩)))
-- xRW_v0: 4 steps, 0 ends, 1 returns
def xRW_v0_L : List (Nat × Nat × Nat) := [(1000, 6, 2)]
def xRW_v0_O : yO := []
def xRW_v0_A : yA := (yZ xRW_v0_L, [], [], [], [])
def xRW_v0_C : List xB := [(.le, .arg 3, .int 0, true)]
def xRW_v0_ss : List yS := []
def xRW_v0_rs : List yR := [(some (.int 1), [], [(.le, .arg 3, .int 0, true)], [])]
theorem xRW_v0_w : ywa xRW_v0_A xRW_v0_ss xRW_v0_rs = true := by decide +kernel
theorem xRW_v0_k : yis (yev xRW_v0_A 3000 60 65 [21] (21, [(3, .arg 3), (0, .index 1), (1, .arg 1), (2, .index 1000)], [], xRW_v0_O, xRW_v0_C, [])) xRW_v0_ss xRW_v0_rs = true := by decide +kernel
def xRW_v0_r (v1_ v3 : Int32) (k_ : Nat) : Value := bif Nat.beq k_ 1 then .int v1_ else (bif Nat.beq k_ 3 then .int v3 else (.int 0))
def xRW_v0_s (a1000 : Nat) (n_ : Nat) : Nat := bif Nat.beq n_ 1000 then a1000 else (0)
theorem xRW_v0 {h_ : xH} {a1000 : Nat} {v1_ v3 : Int32} (hs : sHp h_) (k1000 : bcq h_ a1000 6 2) (c0_ : v3.toInt ≤ (0 : Int32).toInt) : ∃ h', ysm h_ h' ∧ (((∀ a_ j_ : Nat, bpat h' a_ j_ = bpat h_ a_ j_) ∧ (∀ D_, 60 ≤ D_ → xrun D_ 65 21 [(3, .int v3), (0, .index 1), (1, .int v1_), (2, .index a1000)] [] h_ (some (.int (1 : Int32)), h', [])))) := by
  have hA : yas xRW_v0_A (xRW_v0_r v1_ v3) (yg (xRW_v0_s a1000)) := ⟨fun q_ hq => absurd hq List.not_mem_nil, fun q_ hq => absurd hq List.not_mem_nil, fun q_ hq => absurd hq List.not_mem_nil, fun n_ hn => yg_lo hn, fun q_ hq => absurd hq List.not_mem_nil⟩
  have Hs : ysh xRW_v0_A.1 (yg (xRW_v0_s a1000)) h_ := ysh_of2 hs (List.forall_mem_cons.mpr ⟨⟨by decide, k1000⟩, fun q_ hq => absurd hq List.not_mem_nil⟩)
  have Ho : ymem (xRW_v0_r v1_ v3) (yg (xRW_v0_s a1000)) xRW_v0_O h_ := fun q_ hq => absurd hq List.not_mem_nil
  have HC : ∀ q_ ∈ xRW_v0_C, xhold (xRW_v0_r v1_ v3) q_ := List.forall_mem_cons.mpr ⟨xh_leT c0_, fun q_ hq => absurd hq List.not_mem_nil⟩
  rcases yrun (yis_ok xRW_v0_k) hA Hs Ho HC with ⟨q_, hq, h', K_, G_⟩ | ⟨q_, hq, h', K_, G_⟩
  · cases hq
  · have e_ := List.mem_singleton.mp hq
    subst e_
    exact ⟨h', yfr_sm K_.2.2.2 hs K_.1 (ywa_r xRW_v0_w List.mem_cons_self), ⟨fun a_ j_ => yfr_bp K_.2.2.2 (fun q_ hq => absurd hq List.not_mem_nil), G_⟩⟩
-- xRW_v1: 4 steps, 0 ends, 1 returns
def xRW_v1_L : List (Nat × Nat × Nat) := [(1000, 6, 2)]
def xRW_v1_O : yO := []
def xRW_v1_A : yA := (yZ xRW_v1_L, [], [], [], [])
def xRW_v1_C : List xB := [(.le, .arg 3, .int 0, true)]
def xRW_v1_ss : List yS := []
def xRW_v1_rs : List yR := [(some (.int 1), [], [(.le, .arg 3, .int 0, true)], [])]
theorem xRW_v1_w : ywa xRW_v1_A xRW_v1_ss xRW_v1_rs = true := by decide +kernel
theorem xRW_v1_k : yis (yev xRW_v1_A 3000 60 65 [21] (21, [(3, .arg 3), (4, .arg 904), (0, .index 1), (1, .arg 1), (2, .index 1000)], [], xRW_v1_O, xRW_v1_C, [])) xRW_v1_ss xRW_v1_rs = true := by decide +kernel
def xRW_v1_r (v1_ v3 v904 : Int32) (k_ : Nat) : Value := bif Nat.beq k_ 1 then .int v1_ else (bif Nat.beq k_ 3 then .int v3 else (bif Nat.beq k_ 904 then .int v904 else (.int 0)))
def xRW_v1_s (a1000 : Nat) (n_ : Nat) : Nat := bif Nat.beq n_ 1000 then a1000 else (0)
theorem xRW_v1 {h_ : xH} {a1000 : Nat} {v1_ v3 v904 : Int32} (hs : sHp h_) (k1000 : bcq h_ a1000 6 2) (c0_ : v3.toInt ≤ (0 : Int32).toInt) : ∃ h', ysm h_ h' ∧ (((∀ a_ j_ : Nat, bpat h' a_ j_ = bpat h_ a_ j_) ∧ (∀ D_, 60 ≤ D_ → xrun D_ 65 21 [(3, .int v3), (4, .int v904), (0, .index 1), (1, .int v1_), (2, .index a1000)] [] h_ (some (.int (1 : Int32)), h', [])))) := by
  have hA : yas xRW_v1_A (xRW_v1_r v1_ v3 v904) (yg (xRW_v1_s a1000)) := ⟨fun q_ hq => absurd hq List.not_mem_nil, fun q_ hq => absurd hq List.not_mem_nil, fun q_ hq => absurd hq List.not_mem_nil, fun n_ hn => yg_lo hn, fun q_ hq => absurd hq List.not_mem_nil⟩
  have Hs : ysh xRW_v1_A.1 (yg (xRW_v1_s a1000)) h_ := ysh_of2 hs (List.forall_mem_cons.mpr ⟨⟨by decide, k1000⟩, fun q_ hq => absurd hq List.not_mem_nil⟩)
  have Ho : ymem (xRW_v1_r v1_ v3 v904) (yg (xRW_v1_s a1000)) xRW_v1_O h_ := fun q_ hq => absurd hq List.not_mem_nil
  have HC : ∀ q_ ∈ xRW_v1_C, xhold (xRW_v1_r v1_ v3 v904) q_ := List.forall_mem_cons.mpr ⟨xh_leT c0_, fun q_ hq => absurd hq List.not_mem_nil⟩
  rcases yrun (yis_ok xRW_v1_k) hA Hs Ho HC with ⟨q_, hq, h', K_, G_⟩ | ⟨q_, hq, h', K_, G_⟩
  · cases hq
  · have e_ := List.mem_singleton.mp hq
    subst e_
    exact ⟨h', yfr_sm K_.2.2.2 hs K_.1 (ywa_r xRW_v1_w List.mem_cons_self), ⟨fun a_ j_ => yfr_bp K_.2.2.2 (fun q_ hq => absurd hq List.not_mem_nil), G_⟩⟩
theorem xRW {h_ : xH} {a1000 : Nat} {v1_ v3 : Int32} {lo_ : xL} (hs : sHp h_) (k1000 : bcq h_ a1000 6 2) (c0_ : v3.toInt ≤ (0 : Int32).toInt) (H_ : tRW_hd a1000 v1_ v3 lo_) : ∃ h', ysm h_ h' ∧ (((∀ a_ j_ : Nat, bpat h' a_ j_ = bpat h_ a_ j_) ∧ (∀ D_, 60 ≤ D_ → xrun D_ 65 21 lo_ [] h_ (some (.int (1 : Int32)), h', [])))) := by
  rcases H_ with rfl | ⟨y4, rfl⟩
  · obtain ⟨h', m_, e_⟩ := xRW_v0 hs k1000 c0_
    refine ⟨h', m_, ?_⟩
    obtain ⟨g0, g1⟩ := e_
    exact ⟨g0, g1⟩
  · obtain ⟨h', m_, e_⟩ := xRW_v1 hs k1000 c0_
    refine ⟨h', m_, ?_⟩
    obtain ⟨g0, g1⟩ := e_
    exact ⟨g0, g1⟩
