-- ===== text, the reference
-- mtwE: 52 steps, 1 ends, 2 returns
def mtwE_L : List (Nat × Nat × Nat) := []
def mtwE_O : yO := [(338, .int 3, .index 341), (341, .int 1, .arg 400)]
def mtwE_A : yA := (yZ mtwE_L, [], [], [], [])
def mtwE_C : List xB := []
def mtwE_ss : List yS := [(15, [(0, .index 338), (1, .arg 1)], [], [(338, .int 3, .index 341), (341, .int 1, .arg 400)], [(.le, .arg 1, .int 1, true), (.lt, .arg 1, .int 0, false)], [])]
def mtwE_rs : List yR := [(some (.int (Int32.ofInt (-1000001))), [(341, .int 1, .add (.arg 400) (.int 1)), (338, .int 3, .index 341)], [(.lt, .arg 1, .int 0, true)], [(341, .int 1)]),
  (some (.int (Int32.ofInt (-1000001))), [(341, .int 1, .add (.arg 400) (.int 1)), (338, .int 3, .index 341)], [(.le, .arg 1, .int 1, false), (.lt, .arg 1, .int 0, false)], [(341, .int 1)])]
theorem mtwE_w : ywa mtwE_A mtwE_ss mtwE_rs = true := by decide +kernel
theorem mtwE_k : yis (yev mtwE_A 3000 60 184 [15] (0, [(0, .index 338), (1, .arg 1)], [], mtwE_O, mtwE_C, [])) mtwE_ss mtwE_rs = true := by decide +kernel
def mtwE_r (v1_ v400 : Int32) (k_ : Nat) : Value := bif Nat.beq k_ 1 then .int v1_ else (bif Nat.beq k_ 400 then .int v400 else (.int 0))
def mtwE_s (n_ : Nat) : Nat := 0
theorem mtwE {h_ : xH} {v1_ v400 : Int32} (hs : sHp h_) (o0_ : bpat h_ 341 1 = some (.int v400)) : ∃ h', ysm h_ h' ∧ (((v1_.toInt ≤ (1 : Int32).toInt) ∧ ((0 : Int32).toInt ≤ v1_.toInt) ∧ (∀ a_ j_ : Nat, bpat h' a_ j_ = bpat h_ a_ j_) ∧ (bldD 60 184 0 [(0, .index 338), (1, .int v1_)] [] h_ 15 [(0, .index 338), (1, .int v1_)] [] h'))
  ∨ ((v1_.toInt < (0 : Int32).toInt) ∧ (bpat h' 341 1 = some (.int (v400 + (1 : Int32)))) ∧ (∀ a_ j_ : Nat, ¬ (a_ = 341 ∧ j_ = 1) → bpat h' a_ j_ = bpat h_ a_ j_) ∧ (∀ D_, 60 ≤ D_ → xrun D_ 184 0 [(0, .index 338), (1, .int v1_)] [] h_ (some (.int (Int32.ofInt (-1000001))), h', [])))
  ∨ (((1 : Int32).toInt < v1_.toInt) ∧ ((0 : Int32).toInt ≤ v1_.toInt) ∧ (bpat h' 341 1 = some (.int (v400 + (1 : Int32)))) ∧ (∀ a_ j_ : Nat, ¬ (a_ = 341 ∧ j_ = 1) → bpat h' a_ j_ = bpat h_ a_ j_) ∧ (∀ D_, 60 ≤ D_ → xrun D_ 184 0 [(0, .index 338), (1, .int v1_)] [] h_ (some (.int (Int32.ofInt (-1000001))), h', [])))) := by
  have hA : yas mtwE_A (mtwE_r v1_ v400) (yg mtwE_s) := ⟨fun q_ hq => absurd hq List.not_mem_nil, fun q_ hq => absurd hq List.not_mem_nil, fun q_ hq => absurd hq List.not_mem_nil, fun n_ hn => yg_lo hn, fun q_ hq => absurd hq List.not_mem_nil⟩
  have Hs : ysh mtwE_A.1 (yg mtwE_s) h_ := ysh_of2 hs (fun q_ hq => absurd hq List.not_mem_nil)
  have Ho : ymem (mtwE_r v1_ v400) (yg mtwE_s) mtwE_O h_ := List.forall_mem_cons.mpr ⟨bpat_some (fxr_at hs.2 (show fxk fxl 338 3 = some 341 by decide +kernel)), List.forall_mem_cons.mpr ⟨bpat_some o0_, fun q_ hq => absurd hq List.not_mem_nil⟩⟩
  have HC : ∀ q_ ∈ mtwE_C, xhold (mtwE_r v1_ v400) q_ := fun q_ hq => absurd hq List.not_mem_nil
  rcases yrun (yis_ok mtwE_k) hA Hs Ho HC with ⟨q_, hq, h', K_, G_⟩ | ⟨q_, hq, h', K_, G_⟩
  · have e_ := List.mem_singleton.mp hq
    subst e_
    exact ⟨h', yfr_sm K_.2.2.2 hs K_.1 (ywa_s mtwE_w List.mem_cons_self), Or.inl (⟨xq_leT rfl rfl (K_.2.2.1 _ List.mem_cons_self), xq_ltF rfl rfl (K_.2.2.1 _ (List.mem_cons_of_mem _ List.mem_cons_self)), fun a_ j_ => yfr_bp K_.2.2.2 (fun q_ hq => absurd hq List.not_mem_nil), G_⟩)⟩
  · rcases List.mem_cons.mp hq with e_ | hq
    · subst e_
      exact ⟨h', yfr_sm K_.2.2.2 hs K_.1 (ywa_r mtwE_w List.mem_cons_self), Or.inr (Or.inl (⟨xq_ltT rfl rfl (K_.2.2.1 _ List.mem_cons_self), bpat_of (K_.2.1 _ List.mem_cons_self), fun a_ j_ n0_ => yfr_bp K_.2.2.2 (List.forall_mem_cons.mpr ⟨fun e_ => n0_ ⟨e_.1.symm, e_.2.symm⟩, fun q_ hq => absurd hq List.not_mem_nil⟩), G_⟩))⟩
    have e_ := List.mem_singleton.mp hq
    subst e_
    exact ⟨h', yfr_sm K_.2.2.2 hs K_.1 (ywa_r mtwE_w (List.mem_cons_of_mem _ List.mem_cons_self)), Or.inr (Or.inr (⟨xq_leF rfl rfl (K_.2.2.1 _ List.mem_cons_self), xq_ltF rfl rfl (K_.2.2.1 _ (List.mem_cons_of_mem _ List.mem_cons_self)), bpat_of (K_.2.1 _ List.mem_cons_self), fun a_ j_ n0_ => yfr_bp K_.2.2.2 (List.forall_mem_cons.mpr ⟨fun e_ => n0_ ⟨e_.1.symm, e_.2.symm⟩, fun q_ hq => absurd hq List.not_mem_nil⟩), G_⟩))⟩
-- mtwA: 13 steps, 1 ends, 0 returns
def mtwA_L : List (Nat × Nat × Nat) := []
def mtwA_O : yO := []
def mtwA_A : yA := (yZ mtwA_L, [], [], [], [])
def mtwA_C : List xB := []
def mtwA_ss : List yS := [(36, [(0, .index 338), (1, .arg 1)], [.index 338], [(338, .int 9, .int 0), (338, .int 8, .int 0), (338, .int 7, .int 0), (338, .int 10, .arg 1)], [], [(338, .int 9), (338, .int 8), (338, .int 7), (338, .int 10)])]
def mtwA_rs : List yR := []
theorem mtwA_w : ywa mtwA_A mtwA_ss mtwA_rs = true := by decide +kernel
theorem mtwA_k : yis (yev mtwA_A 3000 60 184 [36] (15, [(0, .index 338), (1, .arg 1)], [], mtwA_O, mtwA_C, [])) mtwA_ss mtwA_rs = true := by decide +kernel
def mtwA_r (v1_ : Int32) (k_ : Nat) : Value := bif Nat.beq k_ 1 then .int v1_ else (.int 0)
def mtwA_s (n_ : Nat) : Nat := 0
theorem mtwA {h_ : xH} {v1_ : Int32} (hs : sHp h_) : ∃ h', ysm h_ h' ∧ (((bpat h' 338 9 = some (.int (0 : Int32))) ∧ (bpat h' 338 8 = some (.int (0 : Int32))) ∧ (bpat h' 338 7 = some (.int (0 : Int32))) ∧ (bpat h' 338 10 = some (.int v1_)) ∧ (∀ a_ j_ : Nat, ¬ (a_ = 338 ∧ j_ = 9) → ¬ (a_ = 338 ∧ j_ = 8) → ¬ (a_ = 338 ∧ j_ = 7) → ¬ (a_ = 338 ∧ j_ = 10) → bpat h' a_ j_ = bpat h_ a_ j_) ∧ (bldD 60 184 15 [(0, .index 338), (1, .int v1_)] [] h_ 36 [(0, .index 338), (1, .int v1_)] [.index 338] h'))) := by
  have hA : yas mtwA_A (mtwA_r v1_) (yg mtwA_s) := ⟨fun q_ hq => absurd hq List.not_mem_nil, fun q_ hq => absurd hq List.not_mem_nil, fun q_ hq => absurd hq List.not_mem_nil, fun n_ hn => yg_lo hn, fun q_ hq => absurd hq List.not_mem_nil⟩
  have Hs : ysh mtwA_A.1 (yg mtwA_s) h_ := ysh_of2 hs (fun q_ hq => absurd hq List.not_mem_nil)
  have Ho : ymem (mtwA_r v1_) (yg mtwA_s) mtwA_O h_ := fun q_ hq => absurd hq List.not_mem_nil
  have HC : ∀ q_ ∈ mtwA_C, xhold (mtwA_r v1_) q_ := fun q_ hq => absurd hq List.not_mem_nil
  rcases yrun (yis_ok mtwA_k) hA Hs Ho HC with ⟨q_, hq, h', K_, G_⟩ | ⟨q_, hq, h', K_, G_⟩
  · have e_ := List.mem_singleton.mp hq
    subst e_
    exact ⟨h', yfr_sm K_.2.2.2 hs K_.1 (ywa_s mtwA_w List.mem_cons_self), ⟨bpat_of (K_.2.1 _ List.mem_cons_self), bpat_of (K_.2.1 _ (List.mem_cons_of_mem _ List.mem_cons_self)), bpat_of (K_.2.1 _ (List.mem_cons_of_mem _ (List.mem_cons_of_mem _ List.mem_cons_self))), bpat_of (K_.2.1 _ (List.mem_cons_of_mem _ (List.mem_cons_of_mem _ (List.mem_cons_of_mem _ List.mem_cons_self)))), fun a_ j_ n0_ n1_ n2_ n3_ => yfr_bp K_.2.2.2 (List.forall_mem_cons.mpr ⟨fun e_ => n0_ ⟨e_.1.symm, e_.2.symm⟩, List.forall_mem_cons.mpr ⟨fun e_ => n1_ ⟨e_.1.symm, e_.2.symm⟩, List.forall_mem_cons.mpr ⟨fun e_ => n2_ ⟨e_.1.symm, e_.2.symm⟩, List.forall_mem_cons.mpr ⟨fun e_ => n3_ ⟨e_.1.symm, e_.2.symm⟩, fun q_ hq => absurd hq List.not_mem_nil⟩⟩⟩⟩), G_⟩⟩
  · cases hq
-- mtwF: 15 steps, 0 ends, 1 returns
def mtwF_L : List (Nat × Nat × Nat) := []
def mtwF_O : yO := [(338, .int 0, .index 339), (338, .int 7, .arg 307)]
def mtwF_A : yA := (yZ mtwF_L, [], [], [], [])
def mtwF_C : List xB := [(.eq, .arg 5, .int 0, true)]
def mtwF_ss : List yS := []
def mtwF_rs : List yR := [(some (.sub (.int (Int32.ofInt (-10))) (.arg 307)), [(339, .int 6, .int 0), (338, .int 0, .index 339), (338, .int 7, .arg 307)], [(.eq, .arg 5, .int 0, true)], [(339, .int 6)])]
theorem mtwF_w : ywa mtwF_A mtwF_ss mtwF_rs = true := by decide +kernel
theorem mtwF_k : yis (yev mtwF_A 3000 60 184 [] (39, [(0, .index 338), (1, .arg 1)], [.arg 5], mtwF_O, mtwF_C, [])) mtwF_ss mtwF_rs = true := by decide +kernel
def mtwF_r (v1_ v5 v307 : Int32) (k_ : Nat) : Value := bif Nat.beq k_ 1 then .int v1_ else (bif Nat.beq k_ 5 then .int v5 else (bif Nat.beq k_ 307 then .int v307 else (.int 0)))
def mtwF_s (n_ : Nat) : Nat := 0
theorem mtwF {h_ : xH} {v1_ v5 v307 : Int32} (hs : sHp h_) (o0_ : bpat h_ 338 7 = some (.int v307)) (c0_ : v5 = (0 : Int32)) : ∃ h', ysm h_ h' ∧ (((bpat h' 339 6 = some (.int (0 : Int32))) ∧ (∀ a_ j_ : Nat, ¬ (a_ = 339 ∧ j_ = 6) → bpat h' a_ j_ = bpat h_ a_ j_) ∧ (∀ D_, 60 ≤ D_ → xrun D_ 184 39 [(0, .index 338), (1, .int v1_)] [.int v5] h_ (some (.int ((Int32.ofInt (-10)) - v307)), h', [])))) := by
  have hA : yas mtwF_A (mtwF_r v1_ v5 v307) (yg mtwF_s) := ⟨fun q_ hq => absurd hq List.not_mem_nil, fun q_ hq => absurd hq List.not_mem_nil, fun q_ hq => absurd hq List.not_mem_nil, fun n_ hn => yg_lo hn, fun q_ hq => absurd hq List.not_mem_nil⟩
  have Hs : ysh mtwF_A.1 (yg mtwF_s) h_ := ysh_of2 hs (fun q_ hq => absurd hq List.not_mem_nil)
  have Ho : ymem (mtwF_r v1_ v5 v307) (yg mtwF_s) mtwF_O h_ := List.forall_mem_cons.mpr ⟨bpat_some (fxr_at hs.2 (show fxk fxl 338 0 = some 339 by decide +kernel)), List.forall_mem_cons.mpr ⟨bpat_some o0_, fun q_ hq => absurd hq List.not_mem_nil⟩⟩
  have HC : ∀ q_ ∈ mtwF_C, xhold (mtwF_r v1_ v5 v307) q_ := List.forall_mem_cons.mpr ⟨xh_eqT2 c0_, fun q_ hq => absurd hq List.not_mem_nil⟩
  rcases yrun (yis_ok mtwF_k) hA Hs Ho HC with ⟨q_, hq, h', K_, G_⟩ | ⟨q_, hq, h', K_, G_⟩
  · cases hq
  · have e_ := List.mem_singleton.mp hq
    subst e_
    exact ⟨h', yfr_sm K_.2.2.2 hs K_.1 (ywa_r mtwF_w List.mem_cons_self), ⟨bpat_of (K_.2.1 _ List.mem_cons_self), fun a_ j_ n0_ => yfr_bp K_.2.2.2 (List.forall_mem_cons.mpr ⟨fun e_ => n0_ ⟨e_.1.symm, e_.2.symm⟩, fun q_ hq => absurd hq List.not_mem_nil⟩), G_⟩⟩
-- mtwN: 22 steps, 0 ends, 1 returns
def mtwN_L : List (Nat × Nat × Nat) := []
def mtwN_O : yO := [(338, .int 7, .arg 307), (338, .int 0, .index 339), (339, .int 6, .arg 306)]
def mtwN_A : yA := (yZ mtwN_L, [], [], [], [])
def mtwN_C : List xB := [(.eq, .arg 5, .int 0, false), (.eq, .arg 307, .arg 306, false)]
def mtwN_ss : List yS := []
def mtwN_rs : List yR := [(some (.sub (.int (Int32.ofInt (-10))) (.arg 307)), [(339, .int 6, .int 0), (338, .int 7, .arg 307), (338, .int 0, .index 339)], [(.eq, .arg 5, .int 0, false), (.eq, .arg 307, .arg 306, false)], [(339, .int 6)])]
theorem mtwN_w : ywa mtwN_A mtwN_ss mtwN_rs = true := by decide +kernel
theorem mtwN_k : yis (yev mtwN_A 3000 60 184 [] (39, [(0, .index 338), (1, .arg 1)], [.arg 5], mtwN_O, mtwN_C, [])) mtwN_ss mtwN_rs = true := by decide +kernel
def mtwN_r (v1_ v5 v306 v307 : Int32) (k_ : Nat) : Value := bif Nat.beq k_ 1 then .int v1_ else (bif Nat.beq k_ 5 then .int v5 else (bif Nat.beq k_ 306 then .int v306 else (bif Nat.beq k_ 307 then .int v307 else (.int 0))))
def mtwN_s (n_ : Nat) : Nat := 0
theorem mtwN {h_ : xH} {v1_ v5 v306 v307 : Int32} (hs : sHp h_) (o0_ : bpat h_ 338 7 = some (.int v307)) (o1 : bpat h_ 339 6 = some (.int v306)) (c0_ : ¬ v5 = (0 : Int32)) (c1_ : ¬ v307 = v306) : ∃ h', ysm h_ h' ∧ (((bpat h' 339 6 = some (.int (0 : Int32))) ∧ (∀ a_ j_ : Nat, ¬ (a_ = 339 ∧ j_ = 6) → bpat h' a_ j_ = bpat h_ a_ j_) ∧ (∀ D_, 60 ≤ D_ → xrun D_ 184 39 [(0, .index 338), (1, .int v1_)] [.int v5] h_ (some (.int ((Int32.ofInt (-10)) - v307)), h', [])))) := by
  have hA : yas mtwN_A (mtwN_r v1_ v5 v306 v307) (yg mtwN_s) := ⟨fun q_ hq => absurd hq List.not_mem_nil, fun q_ hq => absurd hq List.not_mem_nil, fun q_ hq => absurd hq List.not_mem_nil, fun n_ hn => yg_lo hn, fun q_ hq => absurd hq List.not_mem_nil⟩
  have Hs : ysh mtwN_A.1 (yg mtwN_s) h_ := ysh_of2 hs (fun q_ hq => absurd hq List.not_mem_nil)
  have Ho : ymem (mtwN_r v1_ v5 v306 v307) (yg mtwN_s) mtwN_O h_ := List.forall_mem_cons.mpr ⟨bpat_some o0_, List.forall_mem_cons.mpr ⟨bpat_some (fxr_at hs.2 (show fxk fxl 338 0 = some 339 by decide +kernel)), List.forall_mem_cons.mpr ⟨bpat_some o1, fun q_ hq => absurd hq List.not_mem_nil⟩⟩⟩
  have HC : ∀ q_ ∈ mtwN_C, xhold (mtwN_r v1_ v5 v306 v307) q_ := List.forall_mem_cons.mpr ⟨xh_eqF2 c0_, List.forall_mem_cons.mpr ⟨xh_eqF2 c1_, fun q_ hq => absurd hq List.not_mem_nil⟩⟩
  rcases yrun (yis_ok mtwN_k) hA Hs Ho HC with ⟨q_, hq, h', K_, G_⟩ | ⟨q_, hq, h', K_, G_⟩
  · cases hq
  · have e_ := List.mem_singleton.mp hq
    subst e_
    exact ⟨h', yfr_sm K_.2.2.2 hs K_.1 (ywa_r mtwN_w List.mem_cons_self), ⟨bpat_of (K_.2.1 _ List.mem_cons_self), fun a_ j_ n0_ => yfr_bp K_.2.2.2 (List.forall_mem_cons.mpr ⟨fun e_ => n0_ ⟨e_.1.symm, e_.2.symm⟩, fun q_ hq => absurd hq List.not_mem_nil⟩), G_⟩⟩
-- mtwY: 18 steps, 1 ends, 0 returns
def mtwY_L : List (Nat × Nat × Nat) := []
def mtwY_O : yO := [(338, .int 7, .arg 307), (338, .int 0, .index 339), (339, .int 6, .arg 306)]
def mtwY_A : yA := (yZ mtwY_L, [], [], [], [])
def mtwY_C : List xB := [(.eq, .arg 5, .int 0, false), (.eq, .arg 307, .arg 306, true)]
def mtwY_ss : List yS := [(82, [(2, .int 1), (0, .index 338), (1, .arg 1)], [], [(339, .int 6, .int 0), (338, .int 7, .arg 307), (338, .int 0, .index 339)], [(.eq, .arg 5, .int 0, false), (.eq, .arg 307, .arg 306, true)], [(339, .int 6)])]
def mtwY_rs : List yR := []
theorem mtwY_w : ywa mtwY_A mtwY_ss mtwY_rs = true := by decide +kernel
theorem mtwY_k : yis (yev mtwY_A 3000 60 184 [82] (39, [(0, .index 338), (1, .arg 1)], [.arg 5], mtwY_O, mtwY_C, [])) mtwY_ss mtwY_rs = true := by decide +kernel
def mtwY_r (v1_ v5 v306 v307 : Int32) (k_ : Nat) : Value := bif Nat.beq k_ 1 then .int v1_ else (bif Nat.beq k_ 5 then .int v5 else (bif Nat.beq k_ 306 then .int v306 else (bif Nat.beq k_ 307 then .int v307 else (.int 0))))
def mtwY_s (n_ : Nat) : Nat := 0
theorem mtwY {h_ : xH} {v1_ v5 v306 v307 : Int32} (hs : sHp h_) (o0_ : bpat h_ 338 7 = some (.int v307)) (o1 : bpat h_ 339 6 = some (.int v306)) (c0_ : ¬ v5 = (0 : Int32)) (c1_ : v307 = v306) : ∃ h', ysm h_ h' ∧ (((bpat h' 339 6 = some (.int (0 : Int32))) ∧ (∀ a_ j_ : Nat, ¬ (a_ = 339 ∧ j_ = 6) → bpat h' a_ j_ = bpat h_ a_ j_) ∧ (bldD 60 184 39 [(0, .index 338), (1, .int v1_)] [.int v5] h_ 82 [(2, .int (1 : Int32)), (0, .index 338), (1, .int v1_)] [] h'))) := by
  have hA : yas mtwY_A (mtwY_r v1_ v5 v306 v307) (yg mtwY_s) := ⟨fun q_ hq => absurd hq List.not_mem_nil, fun q_ hq => absurd hq List.not_mem_nil, fun q_ hq => absurd hq List.not_mem_nil, fun n_ hn => yg_lo hn, fun q_ hq => absurd hq List.not_mem_nil⟩
  have Hs : ysh mtwY_A.1 (yg mtwY_s) h_ := ysh_of2 hs (fun q_ hq => absurd hq List.not_mem_nil)
  have Ho : ymem (mtwY_r v1_ v5 v306 v307) (yg mtwY_s) mtwY_O h_ := List.forall_mem_cons.mpr ⟨bpat_some o0_, List.forall_mem_cons.mpr ⟨bpat_some (fxr_at hs.2 (show fxk fxl 338 0 = some 339 by decide +kernel)), List.forall_mem_cons.mpr ⟨bpat_some o1, fun q_ hq => absurd hq List.not_mem_nil⟩⟩⟩
  have HC : ∀ q_ ∈ mtwY_C, xhold (mtwY_r v1_ v5 v306 v307) q_ := List.forall_mem_cons.mpr ⟨xh_eqF2 c0_, List.forall_mem_cons.mpr ⟨xh_eqT2 c1_, fun q_ hq => absurd hq List.not_mem_nil⟩⟩
  rcases yrun (yis_ok mtwY_k) hA Hs Ho HC with ⟨q_, hq, h', K_, G_⟩ | ⟨q_, hq, h', K_, G_⟩
  · have e_ := List.mem_singleton.mp hq
    subst e_
    exact ⟨h', yfr_sm K_.2.2.2 hs K_.1 (ywa_s mtwY_w List.mem_cons_self), ⟨bpat_of (K_.2.1 _ List.mem_cons_self), fun a_ j_ n0_ => yfr_bp K_.2.2.2 (List.forall_mem_cons.mpr ⟨fun e_ => n0_ ⟨e_.1.symm, e_.2.symm⟩, fun q_ hq => absurd hq List.not_mem_nil⟩), G_⟩⟩
  · cases hq
-- mtwB: 14 steps, 1 ends, 0 returns
def mtwB_L : List (Nat × Nat × Nat) := []
def mtwB_O : yO := [(338, .int 0, .index 339), (338, .int 9, .arg 309)]
def mtwB_A : yA := (yZ mtwB_L, [(.add (.int 434) (.mul (.int 125) (.arg 1)), 768)], [], [], [])
def mtwB_C : List xB := []
def mtwB_ss : List yS := [(104, [(4, .int 0), (3, .add (.int 434) (.mul (.int 125) (.arg 1))), (2, .arg 2), (0, .index 338), (1, .arg 1)], [], [(339, .add (.int 434) (.mul (.int 125) (.arg 1)), .arg 309), (338, .int 0, .index 339), (338, .int 9, .arg 309)], [], [(339, .add (.int 434) (.mul (.int 125) (.arg 1)))])]
def mtwB_rs : List yR := []
theorem mtwB_w : ywa mtwB_A mtwB_ss mtwB_rs = true := by decide +kernel
theorem mtwB_k : yis (yev mtwB_A 3000 60 184 [104] (82, [(2, .arg 2), (0, .index 338), (1, .arg 1)], [], mtwB_O, mtwB_C, [])) mtwB_ss mtwB_rs = true := by decide +kernel
def mtwB_r (v1_ v2 v309 : Int32) (k_ : Nat) : Value := bif Nat.beq k_ 1 then .int v1_ else (bif Nat.beq k_ 2 then .int v2 else (bif Nat.beq k_ 309 then .int v309 else (.int 0)))
def mtwB_s (n_ : Nat) : Nat := 0
theorem mtwB {h_ : xH} {v1_ v2 v309 : Int32} (hs : sHp h_) (o0_ : bpat h_ 338 9 = some (.int v309)) (b0 : 0 ≤ (((434 : Int32) + ((125 : Int32) * v1_))).toInt ∧ (((434 : Int32) + ((125 : Int32) * v1_))).toInt < 768) : ∃ h', ysm h_ h' ∧ (((bpat h' 339 (((434 : Int32) + ((125 : Int32) * v1_))).toInt.toNat = some (.int v309)) ∧ (∀ a_ j_ : Nat, ¬ (a_ = 339 ∧ j_ = (((434 : Int32) + ((125 : Int32) * v1_))).toInt.toNat) → bpat h' a_ j_ = bpat h_ a_ j_) ∧ (bldD 60 184 82 [(2, .int v2), (0, .index 338), (1, .int v1_)] [] h_ 104 [(4, .int (0 : Int32)), (3, .int ((434 : Int32) + ((125 : Int32) * v1_))), (2, .int v2), (0, .index 338), (1, .int v1_)] [] h'))) := by
  have hA : yas mtwB_A (mtwB_r v1_ v2 v309) (yg mtwB_s) := ⟨List.forall_mem_cons.mpr ⟨b0, fun q_ hq => absurd hq List.not_mem_nil⟩, fun q_ hq => absurd hq List.not_mem_nil, fun q_ hq => absurd hq List.not_mem_nil, fun n_ hn => yg_lo hn, fun q_ hq => absurd hq List.not_mem_nil⟩
  have Hs : ysh mtwB_A.1 (yg mtwB_s) h_ := ysh_of2 hs (fun q_ hq => absurd hq List.not_mem_nil)
  have Ho : ymem (mtwB_r v1_ v2 v309) (yg mtwB_s) mtwB_O h_ := List.forall_mem_cons.mpr ⟨bpat_some (fxr_at hs.2 (show fxk fxl 338 0 = some 339 by decide +kernel)), List.forall_mem_cons.mpr ⟨bpat_some o0_, fun q_ hq => absurd hq List.not_mem_nil⟩⟩
  have HC : ∀ q_ ∈ mtwB_C, xhold (mtwB_r v1_ v2 v309) q_ := fun q_ hq => absurd hq List.not_mem_nil
  rcases yrun (yis_ok mtwB_k) hA Hs Ho HC with ⟨q_, hq, h', K_, G_⟩ | ⟨q_, hq, h', K_, G_⟩
  · have e_ := List.mem_singleton.mp hq
    subst e_
    exact ⟨h', yfr_sm K_.2.2.2 hs K_.1 (ywa_s mtwB_w List.mem_cons_self), ⟨bpat_of (K_.2.1 _ List.mem_cons_self), fun a_ j_ n0_ => yfr_bp K_.2.2.2 (List.forall_mem_cons.mpr ⟨fun e_ => n0_ ⟨e_.1.symm, e_.2.symm⟩, fun q_ hq => absurd hq List.not_mem_nil⟩), G_⟩⟩
  · cases hq
-- mtwT: 20 steps, 1 ends, 0 returns
def mtwT_L : List (Nat × Nat × Nat) := []
def mtwT_O : yO := [(338, .int 9, .arg 309), (338, .int 0, .index 339), (338, .int 11, .index 345), (345, .arg 4, .arg 302)]
def mtwT_A : yA := (yZ mtwT_L, [(.add (.add (.arg 3) (.int 1)) (.arg 4), 768), (.arg 4, 124)], [], [], [])
def mtwT_C : List xB := [(.lt, .arg 4, .mul (.int 2) (.arg 309), true)]
def mtwT_ss : List yS := [(104, [(4, .add (.arg 4) (.int 1)), (3, .arg 3), (2, .arg 2), (0, .index 338), (1, .arg 1)], [], [(339, .add (.add (.arg 3) (.int 1)) (.arg 4), .arg 302), (338, .int 9, .arg 309), (338, .int 0, .index 339), (338, .int 11, .index 345), (345, .arg 4, .arg 302)], [(.lt, .arg 4, .mul (.int 2) (.arg 309), true)], [(339, .add (.add (.arg 3) (.int 1)) (.arg 4))])]
def mtwT_rs : List yR := []
theorem mtwT_w : ywa mtwT_A mtwT_ss mtwT_rs = true := by decide +kernel
theorem mtwT_k : yis (yev mtwT_A 3000 60 184 [104] (104, [(4, .arg 4), (3, .arg 3), (2, .arg 2), (0, .index 338), (1, .arg 1)], [], mtwT_O, mtwT_C, [])) mtwT_ss mtwT_rs = true := by decide +kernel
def mtwT_r (v1_ v2 v3 v4_ v302 v309 : Int32) (k_ : Nat) : Value := bif Nat.beq k_ 1 then .int v1_ else (bif Nat.beq k_ 2 then .int v2 else (bif Nat.beq k_ 3 then .int v3 else (bif Nat.beq k_ 4 then .int v4_ else (bif Nat.beq k_ 302 then .int v302 else (bif Nat.beq k_ 309 then .int v309 else (.int 0))))))
def mtwT_s (n_ : Nat) : Nat := 0
theorem mtwT {h_ : xH} {v1_ v2 v3 v4_ v302 v309 : Int32} (hs : sHp h_) (o0_ : bpat h_ 338 9 = some (.int v309)) (o1 : bpat h_ 345 (v4_).toInt.toNat = some (.int v302)) (b0 : 0 ≤ (((v3 + (1 : Int32)) + v4_)).toInt ∧ (((v3 + (1 : Int32)) + v4_)).toInt < 768) (b1 : 0 ≤ (v4_).toInt ∧ (v4_).toInt < 124) (c0_ : v4_.toInt < ((2 : Int32) * v309).toInt) : ∃ h', ysm h_ h' ∧ (((bpat h' 339 (((v3 + (1 : Int32)) + v4_)).toInt.toNat = some (.int v302)) ∧ (∀ a_ j_ : Nat, ¬ (a_ = 339 ∧ j_ = (((v3 + (1 : Int32)) + v4_)).toInt.toNat) → bpat h' a_ j_ = bpat h_ a_ j_) ∧ (bldD 60 184 104 [(4, .int v4_), (3, .int v3), (2, .int v2), (0, .index 338), (1, .int v1_)] [] h_ 104 [(4, .int (v4_ + (1 : Int32))), (3, .int v3), (2, .int v2), (0, .index 338), (1, .int v1_)] [] h'))) := by
  have hA : yas mtwT_A (mtwT_r v1_ v2 v3 v4_ v302 v309) (yg mtwT_s) := ⟨List.forall_mem_cons.mpr ⟨b0, List.forall_mem_cons.mpr ⟨b1, fun q_ hq => absurd hq List.not_mem_nil⟩⟩, fun q_ hq => absurd hq List.not_mem_nil, fun q_ hq => absurd hq List.not_mem_nil, fun n_ hn => yg_lo hn, fun q_ hq => absurd hq List.not_mem_nil⟩
  have Hs : ysh mtwT_A.1 (yg mtwT_s) h_ := ysh_of2 hs (fun q_ hq => absurd hq List.not_mem_nil)
  have Ho : ymem (mtwT_r v1_ v2 v3 v4_ v302 v309) (yg mtwT_s) mtwT_O h_ := List.forall_mem_cons.mpr ⟨bpat_some o0_, List.forall_mem_cons.mpr ⟨bpat_some (fxr_at hs.2 (show fxk fxl 338 0 = some 339 by decide +kernel)), List.forall_mem_cons.mpr ⟨bpat_some (fxr_at hs.2 (show fxk fxl 338 11 = some 345 by decide +kernel)), List.forall_mem_cons.mpr ⟨bpat_some o1, fun q_ hq => absurd hq List.not_mem_nil⟩⟩⟩⟩
  have HC : ∀ q_ ∈ mtwT_C, xhold (mtwT_r v1_ v2 v3 v4_ v302 v309) q_ := List.forall_mem_cons.mpr ⟨xh_ltT c0_, fun q_ hq => absurd hq List.not_mem_nil⟩
  rcases yrun (yis_ok mtwT_k) hA Hs Ho HC with ⟨q_, hq, h', K_, G_⟩ | ⟨q_, hq, h', K_, G_⟩
  · have e_ := List.mem_singleton.mp hq
    subst e_
    exact ⟨h', yfr_sm K_.2.2.2 hs K_.1 (ywa_s mtwT_w List.mem_cons_self), ⟨bpat_of (K_.2.1 _ List.mem_cons_self), fun a_ j_ n0_ => yfr_bp K_.2.2.2 (List.forall_mem_cons.mpr ⟨fun e_ => n0_ ⟨e_.1.symm, e_.2.symm⟩, fun q_ hq => absurd hq List.not_mem_nil⟩), G_⟩⟩
  · cases hq
-- mtwX: 8 steps, 0 ends, 1 returns
def mtwX_L : List (Nat × Nat × Nat) := []
def mtwX_O : yO := [(338, .int 9, .arg 309)]
def mtwX_A : yA := (yZ mtwX_L, [], [], [], [])
def mtwX_C : List xB := [(.lt, .arg 4, .mul (.int 2) (.arg 309), false)]
def mtwX_ss : List yS := []
def mtwX_rs : List yR := [(some (.int 1), [(338, .int 9, .arg 309)], [(.lt, .arg 4, .mul (.int 2) (.arg 309), false)], [])]
theorem mtwX_w : ywa mtwX_A mtwX_ss mtwX_rs = true := by decide +kernel
theorem mtwX_k : yis (yev mtwX_A 3000 60 184 [] (104, [(4, .arg 4), (3, .arg 3), (2, .arg 2), (0, .index 338), (1, .arg 1)], [], mtwX_O, mtwX_C, [])) mtwX_ss mtwX_rs = true := by decide +kernel
def mtwX_r (v1_ v2 v3 v4_ v309 : Int32) (k_ : Nat) : Value := bif Nat.beq k_ 1 then .int v1_ else (bif Nat.beq k_ 2 then .int v2 else (bif Nat.beq k_ 3 then .int v3 else (bif Nat.beq k_ 4 then .int v4_ else (bif Nat.beq k_ 309 then .int v309 else (.int 0)))))
def mtwX_s (n_ : Nat) : Nat := 0
theorem mtwX {h_ : xH} {v1_ v2 v3 v4_ v309 : Int32} (hs : sHp h_) (o0_ : bpat h_ 338 9 = some (.int v309)) (c0_ : ((2 : Int32) * v309).toInt ≤ v4_.toInt) : ∃ h', ysm h_ h' ∧ (((∀ a_ j_ : Nat, bpat h' a_ j_ = bpat h_ a_ j_) ∧ (∀ D_, 60 ≤ D_ → xrun D_ 184 104 [(4, .int v4_), (3, .int v3), (2, .int v2), (0, .index 338), (1, .int v1_)] [] h_ (some (.int (1 : Int32)), h', [])))) := by
  have hA : yas mtwX_A (mtwX_r v1_ v2 v3 v4_ v309) (yg mtwX_s) := ⟨fun q_ hq => absurd hq List.not_mem_nil, fun q_ hq => absurd hq List.not_mem_nil, fun q_ hq => absurd hq List.not_mem_nil, fun n_ hn => yg_lo hn, fun q_ hq => absurd hq List.not_mem_nil⟩
  have Hs : ysh mtwX_A.1 (yg mtwX_s) h_ := ysh_of2 hs (fun q_ hq => absurd hq List.not_mem_nil)
  have Ho : ymem (mtwX_r v1_ v2 v3 v4_ v309) (yg mtwX_s) mtwX_O h_ := List.forall_mem_cons.mpr ⟨bpat_some o0_, fun q_ hq => absurd hq List.not_mem_nil⟩
  have HC : ∀ q_ ∈ mtwX_C, xhold (mtwX_r v1_ v2 v3 v4_ v309) q_ := List.forall_mem_cons.mpr ⟨xh_ltF c0_, fun q_ hq => absurd hq List.not_mem_nil⟩
  rcases yrun (yis_ok mtwX_k) hA Hs Ho HC with ⟨q_, hq, h', K_, G_⟩ | ⟨q_, hq, h', K_, G_⟩
  · cases hq
  · have e_ := List.mem_singleton.mp hq
    subst e_
    exact ⟨h', yfr_sm K_.2.2.2 hs K_.1 (ywa_r mtwX_w List.mem_cons_self), ⟨fun a_ j_ => yfr_bp K_.2.2.2 (fun q_ hq => absurd hq List.not_mem_nil), G_⟩⟩
section
variable {W_ : Nat → List Int32} {V : Nat → Int32} {h_ h' : xH}
theorem SM_Q (H_ : SM W_ V h_) (F_ : frQ h_ h') : SM W_ V h' := SM_fr H_ F_.1 (fun c_ j_ hc_ => F_.2 c_ j_ (fun q_ => by
  obtain ⟨q1_, q2_, q3_⟩ := q_
  rw [q1_] at hc_
  have k_ : ∀ j_, 7 ≤ j_ → j_ ≤ 9 → smc 338 j_ = false := fun j_ q2_ q3_ => by
    have q4_ : j_ = 7 ∨ (j_ = 8 ∨ j_ = 9) := by omega
    rcases q4_ with rfl | rfl | rfl <;> rfl
  rw [k_ j_ q2_ q3_] at hc_
  cases hc_) (fun q_ => by rw [q_] at hc_; exact absurd hc_ (by simp [smc])))
/-- the copy -/
theorem mcp_lp {u_ n_ : Nat} {w2_ : Int32} (hu : u_ < 2) (hn : n_ ≤ 60) (Y : Nat → Int32) : ∀ (r_ i_ : Nat) (h_ : xH), i_ + r_ = 2 * n_ → sHp h_ → bpat h_ 338 9 = some (.int (Int32.ofNat n_)) → (∀ j_, j_ < 2 * n_ → bpat h_ 345 j_ = some (.int (Y j_))) → (∀ j_, j_ < i_ → bpat h_ 339 (435 + 125 * u_ + j_) = some (.int (Y j_))) → ∃ h', (∀ j_, j_ < 2 * n_ → bpat h' 339 (435 + 125 * u_ + j_) = some (.int (Y j_))) ∧ ysm h_ h' ∧ (∀ c_ j_, ¬ (c_ = 339 ∧ (435 + 125 * u_ ≤ j_ ∧ j_ < 435 + 125 * u_ + 2 * n_)) → bpat h' c_ j_ = bpat h_ c_ j_) ∧ ∀ D_, 60 ≤ D_ → xrun D_ 184 104 [(4, .int (Int32.ofNat i_)), (3, .int (Int32.ofNat (434 + 125 * u_))), (2, .int w2_), (0, .index 338), (1, .int (Int32.ofNat u_))] [] h_ (some (.int 1), h', []) := by
  have e2_ : (2 : Int32) * Int32.ofNat n_ = Int32.ofNat (2 * n_) := (Int32.ofNat_mul 2 n_).symm
  have t2_ : ((2 : Int32) * Int32.ofNat n_).toInt = ((2 * n_ : Nat) : Int) := by rw [e2_]; exact i32n (by omega)
  intro r_
  induction r_ with
  | zero =>
    intro i_ h_ hi_ hs o9 S_ P_
    obtain ⟨h1, m1_, f1_, r1_⟩ := mtwX (v1_ := Int32.ofNat u_) (v2 := w2_) (v3 := Int32.ofNat (434 + 125 * u_)) (v4_ := Int32.ofNat i_) (v309 := Int32.ofNat n_) hs o9 (by rw [t2_, i32n (by omega)]; omega)
    exact ⟨h1, fun j_ hj => (f1_ _ _).trans (P_ j_ (by omega)), m1_, fun c_ j_ _ => f1_ c_ j_, r1_⟩
  | succ r_ ih_ =>
    intro i_ h_ hi_ hs o9 S_ P_
    have ei : Int32.ofNat (434 + 125 * u_) + 1 + Int32.ofNat i_ = Int32.ofNat (435 + 125 * u_ + i_) := by
      rw [i32s, i32p, show 434 + 125 * u_ + 1 + i_ = 435 + 125 * u_ + i_ by omega]
    have ti : (Int32.ofNat (434 + 125 * u_) + 1 + Int32.ofNat i_).toInt = ((435 + 125 * u_ + i_ : Nat) : Int) := by rw [ei]; exact i32n (by omega)
    have ni : (Int32.ofNat (434 + 125 * u_) + 1 + Int32.ofNat i_).toInt.toNat = 435 + 125 * u_ + i_ := by rw [ti]; rfl
    have ii := i32n (i_ := i_) (by omega)
    obtain ⟨h1, m1_, e1_, f1_, ld⟩ := mtwT (v1_ := Int32.ofNat u_) (v2 := w2_) (v3 := Int32.ofNat (434 + 125 * u_)) (v4_ := Int32.ofNat i_) (v309 := Int32.ofNat n_) (v302 := Y i_) hs o9 (by rw [i32t (by omega)]; exact S_ i_ (by omega)) ⟨by omega, by omega⟩ ⟨by omega, by omega⟩ (by rw [t2_]; omega)
    rw [ni] at e1_ f1_
    rw [i32s] at ld
    obtain ⟨h2, P2_, m2_, f2_, r2⟩ := ih_ (i_ + 1) h1 (by omega) m1_.1 ((f1_ _ _ (by omega)).trans o9) (fun j_ hj => (f1_ _ _ (by omega)).trans (S_ j_ hj)) (fun j_ hj => by
      by_cases g_ : j_ = i_
      · subst g_
        exact e1_
      · exact (f1_ _ _ (by omega)).trans (P_ j_ (by omega)))
    exact ⟨h2, P2_, ysm_tr m1_ m2_, fun c_ j_ n1_ => (f2_ c_ j_ n1_).trans (f1_ c_ j_ (fun q_ => n1_ ⟨q_.1, by have q_ := q_.2; omega⟩)), fun D_ hD => ld D_ hD _ (r2 D_ hD)⟩
theorem m_tx (K_ : okS W_ V) {u_ : Nat} (hu : u_ < 2) (H0 : SM W_ V h_) : ∃ h', ysm h_ h' ∧ (SM (txO W_ V u_ (prs (W_ 20) u_ txF 0 0 0 [])).1 (txO W_ V u_ (prs (W_ 20) u_ txF 0 0 0 [])).2.1 h' ∧ ∀ D_, 140 ≤ D_ → xrun D_ 184 15 [(0, .index 338), (1, .int (Int32.ofNat u_))] [] h_ (some (.int (txO W_ V u_ (prs (W_ 20) u_ txF 0 0 0 [])).2.2), h', [])) := by
  obtain ⟨b_, a_, c_, P_⟩ := tx_t K_ u_
  rw [P_]
  have hT_ := byt_S K_
  have l60 := hT_.1
  have pa := prs_b (W_ 20) u_ txF 0 0 0 [] b_ a_ c_ (Or.inl (by omega)) (Nat.zero_le _) P_
  obtain ⟨h1, m1_, w9, w8, w7_, w10_, f1_, ld1⟩ := mtwA (v1_ := Int32.ofNat u_) H0.1
  have F1_ : ∀ c_ j_, smc c_ j_ = true → bpat h1 c_ j_ = bpat h_ c_ j_ := fun c_ j_ hc_ => f1_ c_ j_ (fun q_ => by rw [q_.1, q_.2] at hc_; exact absurd hc_ (by decide)) (fun q_ => by rw [q_.1, q_.2] at hc_; exact absurd hc_ (by decide)) (fun q_ => by rw [q_.1, q_.2] at hc_; exact absurd hc_ (by decide)) (fun q_ => by rw [q_.1, q_.2] at hc_; exact absurd hc_ (by decide))
  have H1_ := SM_fr H0 m1_ F1_
  have k20 : (6, 684, 1, 60, 20) ∈ wrM := by decide
  have R1 : RM u_ (W_ 20) h1 0 0 [] := ⟨m1_.1, ⟨⟨w7_, w8⟩, w9, w10_⟩, SM_w H1_ k20, fun j_ x_ hx => absurd hx (by simp)⟩
  obtain ⟨h2, c2_, o2, ⟨⟨R2, F2⟩, ec2⟩, r2⟩ := (rdm hu hT_ txF).1 0 0 0 [] b_ a_ c_ h1 (by omega) (by omega) (Nat.zero_le _) (Nat.zero_le _) R1 P_
  have H2_ := SM_Q H1_ F2
  have r2 : ∀ D_, 76 + 10 * (5 - 0) - 0 ≤ D_ → xrun D_ 176 0 [(0, .index 338)] [] h1 (some (.int (bI b_)), h2, []) := r2
  have ld2 := ycv (d_ := 76 + 10 * (5 - 0) - 0) (mi := 184) (pc := 36) (cm := 176) (lo_ := [(0, .index 338), (1, .int (Int32.ofNat u_))]) (st_ := [.index 338]) (as_ := []) (s' := []) rfl rfl (R338 R1) rfl (xcc_l (List.forall_mem_cons.mpr ⟨xidx_i (bcq_lt (bcq_of (n_ := 338) (z_ := (12, 26)) R1.1 rfl)), List.forall_mem_cons.mpr ⟨rfl, fun q_ hq => absurd hq List.not_mem_nil⟩⟩) (fun t_ ht => absurd ht List.not_mem_nil) (Nat.le_of_ble_eq_true rfl)) r2
  have M2_ := ysm_tr m1_ F2.1
  have pa1 := pa.1.2
  have no_ : ¬ (b_ = true ∧ a_ = (W_ 20).length) → txO W_ V u_ (some (b_, (a_, c_))) = (upR W_ 20 [], V, Int32.ofInt (-10) - Int32.ofNat a_) := by
    intro nb
    cases b_ with
    | false => rfl
    | true => exact if_neg (fun q_ => nb ⟨rfl, q_⟩)
  cases b_ with
  | false =>
    obtain ⟨h3, m3_, e3_, f3_, r3⟩ := mtwF (v1_ := Int32.ofNat u_) (v5 := bI false) (v307 := Int32.ofNat a_) R2.1 R2.2.1.1.1 rfl
    have H3 := SM_r (l := []) H2_ (lenS_ok K_) m3_ k20 (rwq_nil e3_) (fun c2_ j_ _ n2_ => f3_ c2_ j_ (fun q_ => n2_ ⟨q_.1, by rw [q_.2]; rfl⟩))
    rw [no_ (fun q_ => by cases q_.1)]
    exact ⟨h3, ysm_tr M2_ m3_, H3, fun D_ hD => ld1 D_ (by omega) _ (ld2 D_ (by omega) _ (r3 D_ (by omega)))⟩
  | true =>
    obtain ⟨rfl, rfl⟩ := ec2 rfl
    by_cases ga : a_ = (W_ 20).length
    · subst ga
      obtain ⟨h3, m3_, e3_, f3_, ld3⟩ := mtwY (v1_ := Int32.ofNat u_) (v5 := bI true) (v307 := Int32.ofNat (W_ 20).length) (v306 := Int32.ofNat (W_ 20).length) R2.1 R2.2.1.1.1 R2.2.2.1.1 (by decide) rfl
      have H3 := SM_r (l := []) H2_ (lenS_ok K_) m3_ k20 (rwq_nil e3_) (fun c2_ j_ _ n2_ => f3_ c2_ j_ (fun q_ => n2_ ⟨q_.1, by rw [q_.2]; rfl⟩))
      have lc : c2_.length ≤ 60 := by
        have z_ := (pa.2 rfl).2.1
        rw [List.length_nil] at z_
        omega
      obtain ⟨ix, b1⟩ := i434b hu
      have i9_ := (f3_ 338 9 (by omega)).trans R2.2.1.2.1
      obtain ⟨h4, m4_, e4_, f4_, ld4⟩ := mtwB (v1_ := Int32.ofNat u_) (v2 := 1) (v309 := Int32.ofNat c2_.length) m3_.1 i9_ b1
      rw [ix] at e4_ f4_
      have ei : (434 : Int32) + 125 * Int32.ofNat u_ = Int32.ofNat (434 + 125 * u_) := i434 hu
      rw [ei] at ld4
      have Y4 : ∀ j_, j_ < 2 * c2_.length → bpat h4 345 j_ = some (.int (if j_ % 2 = 0 then (yof u_ (c2_.getD (j_ / 2) 0)).1 else (yof u_ (c2_.getD (j_ / 2) 0)).2)) := by
        intro j_ hj
        have hx : c2_[j_ / 2]? = some (c2_.getD (j_ / 2) 0) := by
          rw [List.getD_eq_getElem?_getD, List.getElem?_eq_getElem (show j_ / 2 < c2_.length by omega)]
          rfl
        have z_ := R2.2.2.2 (j_ / 2) _ hx
        have fr_ : bpat h4 345 j_ = bpat h2 345 j_ := (f4_ _ _ (by omega)).trans (f3_ _ _ (by omega))
        rw [fr_]
        by_cases g_ : j_ % 2 = 0
        · rw [if_pos g_]
          have z1 := z_.1
          rw [show 2 * (j_ / 2) = j_ by omega] at z1
          exact z1
        · rw [if_neg g_]
          have z2 := z_.2
          rw [show 2 * (j_ / 2) + 1 = j_ by omega] at z2
          exact z2
      obtain ⟨h5, P5, m5_, f5_, r5_⟩ := mcp_lp (u_ := u_) (n_ := c2_.length) (w2_ := 1) hu lc (fun j_ => if j_ % 2 = 0 then (yof u_ (c2_.getD (j_ / 2) 0)).1 else (yof u_ (c2_.getD (j_ / 2) 0)).2) (2 * c2_.length) 0 h4 (by omega) m4_.1 ((f4_ _ _ (by omega)).trans i9_) Y4 (fun j_ hj => by omega)
      have MM := ysm_tr m4_ m5_
      have K3 : lenS (upR W_ 20 []) := lenS_ok (okS_tape K_ ⟨Nat.zero_le _, fun x_ hx => absurd hx List.not_mem_nil⟩)
      have so : ∀ j_, 434 + 125 * u_ ≤ j_ → j_ < 434 + 125 * u_ + 125 → smo j_ = 1023 + u_ := by
        intro j_ h1 h2
        unfold smo
        have u2_ : u_ = 0 ∨ u_ = 1 := by omega
        rcases u2_ with rfl | rfl
        · rw [if_neg (by omega), if_neg (by omega), if_neg (by omega), if_neg (by omega), if_neg (by omega), if_pos (by omega)]
        · rw [if_neg (by omega), if_neg (by omega), if_neg (by omega), if_neg (by omega), if_neg (by omega), if_neg (by omega), if_pos (by omega)]
      have H5 := SM_t (u_ := u_) (l := c2_) H3 K3 MM hu ⟨(f5_ _ _ (by omega)).trans e4_, fun j_ x_ hx => by
        have lj := (List.getElem?_eq_some_iff.mp hx).1
        have z1 := P5 (2 * j_) (by omega)
        have z2 := P5 (2 * j_ + 1) (by omega)
        rw [if_pos (by omega), show 2 * j_ / 2 = j_ by omega, List.getD_eq_getElem?_getD, hx] at z1
        rw [if_neg (by omega), show (2 * j_ + 1) / 2 = j_ by omega, List.getD_eq_getElem?_getD, hx] at z2
        rw [show 434 + 125 * u_ + 1 + 2 * j_ = 435 + 125 * u_ + 2 * j_ by omega, show 434 + 125 * u_ + 2 + 2 * j_ = 435 + 125 * u_ + (2 * j_ + 1) by omega]
        exact ⟨z1, z2⟩⟩ (fun c_ j_ _ n2_ => (f5_ c_ j_ (fun q_ => n2_ ⟨q_.1, so j_ (by omega) (by omega)⟩)).trans (f4_ c_ j_ (fun q_ => n2_ ⟨q_.1, so j_ (by omega) (by omega)⟩)))
      have et : txO W_ V u_ (some (true, ((W_ 20).length, c2_))) = (upR (upR W_ 20 []) (23 + u_) c2_, V, 1) := if_pos rfl
      rw [et]
      exact ⟨h5, ysm_tr M2_ (ysm_tr m3_ MM), H5, fun D_ hD => ld1 D_ (by omega) _ (ld2 D_ (by omega) _ (ld3 D_ (by omega) _ (ld4 D_ (by omega) _ (r5_ D_ (by omega)))))⟩
    · obtain ⟨h3, m3_, e3_, f3_, r3⟩ := mtwN (v1_ := Int32.ofNat u_) (v5 := bI true) (v307 := Int32.ofNat a_) (v306 := Int32.ofNat (W_ 20).length) R2.1 R2.2.1.1.1 R2.2.2.1.1 (by decide) (fun q_ => ga (by have q_ := congrArg Int32.toInt q_; rw [i32n (by omega), i32n (by omega)] at q_; omega))
      have H3 := SM_r (l := []) H2_ (lenS_ok K_) m3_ k20 (rwq_nil e3_) (fun c2_ j_ _ n2_ => f3_ c2_ j_ (fun q_ => n2_ ⟨q_.1, by rw [q_.2]; rfl⟩))
      rw [no_ (fun q_ => ga q_.2)]
      exact ⟨h3, ysm_tr M2_ m3_, H3, fun D_ hD => ld1 D_ (by omega) _ (ld2 D_ (by omega) _ (r3 D_ (by omega)))⟩
theorem ok_tx (K_ : okS W_ V) {u_ : Nat} (hu : u_ < 2) : okS (txO W_ V u_ (prs (W_ 20) u_ txF 0 0 0 [])).1 (txO W_ V u_ (prs (W_ 20) u_ txF 0 0 0 [])).2.1 := by
  obtain ⟨b_, a_, c_, P_⟩ := tx_t K_ u_
  rw [P_]
  have pa := prs_b (W_ 20) u_ txF 0 0 0 [] b_ a_ c_ (Or.inl (by omega)) (Nat.zero_le _) P_
  have l60 := (byt_S K_).1
  have K0 : okS (upR W_ 20 []) V := okS_tape K_ ⟨Nat.zero_le _, fun x_ hx => absurd hx List.not_mem_nil⟩
  cases b_ with
  | false => exact K0
  | true =>
    by_cases ga : a_ = (W_ 20).length
    · have et : txO W_ V u_ (some (true, (a_, c_))) = (upR (upR W_ 20 []) (23 + u_) c_, V, 1) := if_pos ga
      rw [et]
      obtain ⟨-, z2, z3, z4, -⟩ := pa.2 rfl
      rw [List.length_nil] at z2
      refine okS_text K0 hu ⟨by omega, z3 (fun x_ hx => absurd hx List.not_mem_nil), fun _ nm => ?_⟩
      obtain ⟨x_, e_⟩ := z4 (by omega) nm [] [] rfl
      exact ⟨[x_], e_, fun q_ => by cases q_⟩
    · have et : txO W_ V u_ (some (true, (a_, c_))) = (upR W_ 20 [], V, Int32.ofInt (-10) - Int32.ofNat a_) := if_neg ga
      rw [et]
      exact K0
theorem ok_text (K_ : okS W_ V) (z_ : Int32) : okS (textF W_ V z_).1 (textF W_ V z_).2.1 := by
  unfold textF
  by_cases g_ : 0 ≤ z_.toInt ∧ z_.toInt < 2
  · rw [if_pos g_]
    exact ok_tx K_ (by omega)
  · rw [if_neg g_]
    exact K_
end
theorem m_text {W_ : Nat → List Int32} {V : Nat → Int32} {h_ : xH} {z_ : Int32} (B_ : bInv bZ bIj h_) (K_ : okS W_ V) (H_ : SM W_ V h_) : ∃ h', ysm h_ h' ∧ (SM (textF W_ V z_).1 (textF W_ V z_).2.1 h' ∧ ∀ D_, 142 ≤ D_ → xrun D_ 184 0 [(0, .index 338), (1, .int z_)] [] h_ (some (.int (textF W_ V z_).2.2), h', [])) := by
  obtain ⟨y_, oy⟩ := merr (k_ := 1) B_ (by omega)
  have zz := z0_
  have z1 := i1_
  unfold textF
  obtain ⟨h0, m0_, e_⟩ := mtwE (v1_ := z_) H_.1 oy
  rcases e_ with ⟨g1, g2, f_, r_⟩ | ⟨g1, w0_, f_, r_⟩ | ⟨g1, g2, w0_, f_, r_⟩
  rotate_left
  · rw [if_neg (fun q_ => by omega)]; exact ⟨h0, m0_, SM_e H_ m0_ f_, fun D_ hD => r_ D_ (by omega)⟩
  · rw [if_neg (fun q_ => by omega)]; exact ⟨h0, m0_, SM_e H_ m0_ f_, fun D_ hD => r_ D_ (by omega)⟩
  have H0 := SM_fr H_ m0_ (fun c_ j_ _ => f_ c_ j_)
  rw [if_pos ⟨by omega, by omega⟩]
  obtain ⟨u_, hu, rfl, eu⟩ := isU_n (z_ := z_) ⟨by omega, by omega⟩
  rw [eu]
  obtain ⟨h1, m1_, S_, r1_⟩ := m_tx K_ hu H0
  exact ⟨h1, ysm_tr m0_ m1_, S_, fun D_ hD => r_ D_ (by omega) _ (r1_ D_ (by omega))⟩
