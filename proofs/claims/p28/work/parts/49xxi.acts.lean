-- ===== says
-- msyE: 65 steps, 1 ends, 2 returns
def msyE_L : List (Nat × Nat × Nat) := []
def msyE_O : yO := [(338, .int 0, .index 339), (339, .int 0, .arg 310), (338, .int 3, .index 341), (341, .int 1, .arg 400)]
def msyE_A : yA := (yZ msyE_L, [], [], [], [])
def msyE_C : List xB := []
def msyE_ss : List yS := [(10, [(0, .index 338), (1, .arg 1), (2, .arg 2)], [.arg 2, .index 338], [(338, .int 0, .index 339), (339, .int 0, .arg 310), (338, .int 3, .index 341), (341, .int 1, .arg 400)], [(.le, .arg 1, .sub (.arg 310) (.int 1), true), (.lt, .arg 1, .int 0, false)], [])]
def msyE_rs : List yR := [(some (.int (Int32.ofInt (-1000001))), [(341, .int 1, .add (.arg 400) (.int 1)), (338, .int 0, .index 339), (339, .int 0, .arg 310), (338, .int 3, .index 341)], [(.lt, .arg 1, .int 0, true)], [(341, .int 1)]),
  (some (.int (Int32.ofInt (-1000001))), [(341, .int 1, .add (.arg 400) (.int 1)), (338, .int 0, .index 339), (339, .int 0, .arg 310), (338, .int 3, .index 341)], [(.le, .arg 1, .sub (.arg 310) (.int 1), false), (.lt, .arg 1, .int 0, false)], [(341, .int 1)])]
theorem msyE_w : ywa msyE_A msyE_ss msyE_rs = true := by decide +kernel
theorem msyE_k : yis (yev msyE_A 3000 60 208 [10] (0, [(0, .index 338), (1, .arg 1), (2, .arg 2)], [], msyE_O, msyE_C, [])) msyE_ss msyE_rs = true := by decide +kernel
def msyE_r (v1_ v2 v310 v400 : Int32) (k_ : Nat) : Value := bif Nat.beq k_ 1 then .int v1_ else (bif Nat.beq k_ 2 then .int v2 else (bif Nat.beq k_ 310 then .int v310 else (bif Nat.beq k_ 400 then .int v400 else (.int 0))))
def msyE_s (n_ : Nat) : Nat := 0
theorem msyE {h_ : xH} {v1_ v2 v310 v400 : Int32} (hs : sHp h_) (o0_ : bpat h_ 339 0 = some (.int v310)) (o1 : bpat h_ 341 1 = some (.int v400)) : ∃ h', ysm h_ h' ∧ (((v1_.toInt ≤ (v310 - (1 : Int32)).toInt) ∧ ((0 : Int32).toInt ≤ v1_.toInt) ∧ (∀ a_ j_ : Nat, bpat h' a_ j_ = bpat h_ a_ j_) ∧ (bldD 60 208 0 [(0, .index 338), (1, .int v1_), (2, .int v2)] [] h_ 10 [(0, .index 338), (1, .int v1_), (2, .int v2)] [.int v2, .index 338] h'))
  ∨ ((v1_.toInt < (0 : Int32).toInt) ∧ (bpat h' 341 1 = some (.int (v400 + (1 : Int32)))) ∧ (∀ a_ j_ : Nat, ¬ (a_ = 341 ∧ j_ = 1) → bpat h' a_ j_ = bpat h_ a_ j_) ∧ (∀ D_, 60 ≤ D_ → xrun D_ 208 0 [(0, .index 338), (1, .int v1_), (2, .int v2)] [] h_ (some (.int (Int32.ofInt (-1000001))), h', [])))
  ∨ (((v310 - (1 : Int32)).toInt < v1_.toInt) ∧ ((0 : Int32).toInt ≤ v1_.toInt) ∧ (bpat h' 341 1 = some (.int (v400 + (1 : Int32)))) ∧ (∀ a_ j_ : Nat, ¬ (a_ = 341 ∧ j_ = 1) → bpat h' a_ j_ = bpat h_ a_ j_) ∧ (∀ D_, 60 ≤ D_ → xrun D_ 208 0 [(0, .index 338), (1, .int v1_), (2, .int v2)] [] h_ (some (.int (Int32.ofInt (-1000001))), h', [])))) := by
  have hA : yas msyE_A (msyE_r v1_ v2 v310 v400) (yg msyE_s) := ⟨fun q_ hq => absurd hq List.not_mem_nil, fun q_ hq => absurd hq List.not_mem_nil, fun q_ hq => absurd hq List.not_mem_nil, fun n_ hn => yg_lo hn, fun q_ hq => absurd hq List.not_mem_nil⟩
  have Hs : ysh msyE_A.1 (yg msyE_s) h_ := ysh_of2 hs (fun q_ hq => absurd hq List.not_mem_nil)
  have Ho : ymem (msyE_r v1_ v2 v310 v400) (yg msyE_s) msyE_O h_ := List.forall_mem_cons.mpr ⟨bpat_some (fxr_at hs.2 (show fxk fxl 338 0 = some 339 by decide +kernel)), List.forall_mem_cons.mpr ⟨bpat_some o0_, List.forall_mem_cons.mpr ⟨bpat_some (fxr_at hs.2 (show fxk fxl 338 3 = some 341 by decide +kernel)), List.forall_mem_cons.mpr ⟨bpat_some o1, fun q_ hq => absurd hq List.not_mem_nil⟩⟩⟩⟩
  have HC : ∀ q_ ∈ msyE_C, xhold (msyE_r v1_ v2 v310 v400) q_ := fun q_ hq => absurd hq List.not_mem_nil
  rcases yrun (yis_ok msyE_k) hA Hs Ho HC with ⟨q_, hq, h', K_, G_⟩ | ⟨q_, hq, h', K_, G_⟩
  · have e_ := List.mem_singleton.mp hq
    subst e_
    exact ⟨h', yfr_sm K_.2.2.2 hs K_.1 (ywa_s msyE_w List.mem_cons_self), Or.inl (⟨xq_leT rfl (yv_sub2 rfl rfl) (K_.2.2.1 _ List.mem_cons_self), xq_ltF rfl rfl (K_.2.2.1 _ (List.mem_cons_of_mem _ List.mem_cons_self)), fun a_ j_ => yfr_bp K_.2.2.2 (fun q_ hq => absurd hq List.not_mem_nil), G_⟩)⟩
  · rcases List.mem_cons.mp hq with e_ | hq
    · subst e_
      exact ⟨h', yfr_sm K_.2.2.2 hs K_.1 (ywa_r msyE_w List.mem_cons_self), Or.inr (Or.inl (⟨xq_ltT rfl rfl (K_.2.2.1 _ List.mem_cons_self), bpat_of (K_.2.1 _ List.mem_cons_self), fun a_ j_ n0_ => yfr_bp K_.2.2.2 (List.forall_mem_cons.mpr ⟨fun e_ => n0_ ⟨e_.1.symm, e_.2.symm⟩, fun q_ hq => absurd hq List.not_mem_nil⟩), G_⟩))⟩
    have e_ := List.mem_singleton.mp hq
    subst e_
    exact ⟨h', yfr_sm K_.2.2.2 hs K_.1 (ywa_r msyE_w (List.mem_cons_of_mem _ List.mem_cons_self)), Or.inr (Or.inr (⟨xq_leF rfl (yv_sub2 rfl rfl) (K_.2.2.1 _ List.mem_cons_self), xq_ltF rfl rfl (K_.2.2.1 _ (List.mem_cons_of_mem _ List.mem_cons_self)), bpat_of (K_.2.1 _ List.mem_cons_self), fun a_ j_ n0_ => yfr_bp K_.2.2.2 (List.forall_mem_cons.mpr ⟨fun e_ => n0_ ⟨e_.1.symm, e_.2.symm⟩, fun q_ hq => absurd hq List.not_mem_nil⟩), G_⟩))⟩
-- msyG: 6 steps, 1 ends, 0 returns
def msyG_L : List (Nat × Nat × Nat) := []
def msyG_O : yO := [(338, .int 4, .index 342)]
def msyG_A : yA := (yZ msyG_L, [], [], [], [])
def msyG_C : List xB := []
def msyG_ss : List yS := [(29, [(0, .index 338), (1, .arg 1), (2, .arg 2)], [.index 342, .arg 2, .arg 1, .index 338], [(338, .int 4, .index 342)], [], [])]
def msyG_rs : List yR := []
theorem msyG_w : ywa msyG_A msyG_ss msyG_rs = true := by decide +kernel
theorem msyG_k : yis (yev msyG_A 3000 60 208 [29] (13, [(0, .index 338), (1, .arg 1), (2, .arg 2)], [.int 1], msyG_O, msyG_C, [])) msyG_ss msyG_rs = true := by decide +kernel
def msyG_r (v1_ v2 : Int32) (k_ : Nat) : Value := bif Nat.beq k_ 1 then .int v1_ else (bif Nat.beq k_ 2 then .int v2 else (.int 0))
def msyG_s (n_ : Nat) : Nat := 0
theorem msyG {h_ : xH} {v1_ v2 : Int32} (hs : sHp h_) : ∃ h', ysm h_ h' ∧ (((∀ a_ j_ : Nat, bpat h' a_ j_ = bpat h_ a_ j_) ∧ (bldD 60 208 13 [(0, .index 338), (1, .int v1_), (2, .int v2)] [.int (1 : Int32)] h_ 29 [(0, .index 338), (1, .int v1_), (2, .int v2)] [.index 342, .int v2, .int v1_, .index 338] h'))) := by
  have hA : yas msyG_A (msyG_r v1_ v2) (yg msyG_s) := ⟨fun q_ hq => absurd hq List.not_mem_nil, fun q_ hq => absurd hq List.not_mem_nil, fun q_ hq => absurd hq List.not_mem_nil, fun n_ hn => yg_lo hn, fun q_ hq => absurd hq List.not_mem_nil⟩
  have Hs : ysh msyG_A.1 (yg msyG_s) h_ := ysh_of2 hs (fun q_ hq => absurd hq List.not_mem_nil)
  have Ho : ymem (msyG_r v1_ v2) (yg msyG_s) msyG_O h_ := List.forall_mem_cons.mpr ⟨bpat_some (fxr_at hs.2 (show fxk fxl 338 4 = some 342 by decide +kernel)), fun q_ hq => absurd hq List.not_mem_nil⟩
  have HC : ∀ q_ ∈ msyG_C, xhold (msyG_r v1_ v2) q_ := fun q_ hq => absurd hq List.not_mem_nil
  rcases yrun (yis_ok msyG_k) hA Hs Ho HC with ⟨q_, hq, h', K_, G_⟩ | ⟨q_, hq, h', K_, G_⟩
  · have e_ := List.mem_singleton.mp hq
    subst e_
    exact ⟨h', yfr_sm K_.2.2.2 hs K_.1 (ywa_s msyG_w List.mem_cons_self), ⟨fun a_ j_ => yfr_bp K_.2.2.2 (fun q_ hq => absurd hq List.not_mem_nil), G_⟩⟩
  · cases hq
-- msyI: 17 steps, 0 ends, 1 returns
def msyI_L : List (Nat × Nat × Nat) := []
def msyI_O : yO := [(338, .int 3, .index 341), (341, .int 1, .arg 400)]
def msyI_A : yA := (yZ msyI_L, [], [], [], [])
def msyI_C : List xB := []
def msyI_ss : List yS := []
def msyI_rs : List yR := [(some (.int (Int32.ofInt (-1000001))), [(341, .int 1, .add (.arg 400) (.int 1)), (338, .int 3, .index 341)], [], [(341, .int 1)])]
theorem msyI_w : ywa msyI_A msyI_ss msyI_rs = true := by decide +kernel
theorem msyI_k : yis (yev msyI_A 3000 60 208 [] (13, [(0, .index 338), (1, .arg 1), (2, .arg 2)], [.int 0], msyI_O, msyI_C, [])) msyI_ss msyI_rs = true := by decide +kernel
def msyI_r (v1_ v2 v400 : Int32) (k_ : Nat) : Value := bif Nat.beq k_ 1 then .int v1_ else (bif Nat.beq k_ 2 then .int v2 else (bif Nat.beq k_ 400 then .int v400 else (.int 0)))
def msyI_s (n_ : Nat) : Nat := 0
theorem msyI {h_ : xH} {v1_ v2 v400 : Int32} (hs : sHp h_) (o0_ : bpat h_ 341 1 = some (.int v400)) : ∃ h', ysm h_ h' ∧ (((bpat h' 341 1 = some (.int (v400 + (1 : Int32)))) ∧ (∀ a_ j_ : Nat, ¬ (a_ = 341 ∧ j_ = 1) → bpat h' a_ j_ = bpat h_ a_ j_) ∧ (∀ D_, 60 ≤ D_ → xrun D_ 208 13 [(0, .index 338), (1, .int v1_), (2, .int v2)] [.int (0 : Int32)] h_ (some (.int (Int32.ofInt (-1000001))), h', [])))) := by
  have hA : yas msyI_A (msyI_r v1_ v2 v400) (yg msyI_s) := ⟨fun q_ hq => absurd hq List.not_mem_nil, fun q_ hq => absurd hq List.not_mem_nil, fun q_ hq => absurd hq List.not_mem_nil, fun n_ hn => yg_lo hn, fun q_ hq => absurd hq List.not_mem_nil⟩
  have Hs : ysh msyI_A.1 (yg msyI_s) h_ := ysh_of2 hs (fun q_ hq => absurd hq List.not_mem_nil)
  have Ho : ymem (msyI_r v1_ v2 v400) (yg msyI_s) msyI_O h_ := List.forall_mem_cons.mpr ⟨bpat_some (fxr_at hs.2 (show fxk fxl 338 3 = some 341 by decide +kernel)), List.forall_mem_cons.mpr ⟨bpat_some o0_, fun q_ hq => absurd hq List.not_mem_nil⟩⟩
  have HC : ∀ q_ ∈ msyI_C, xhold (msyI_r v1_ v2 v400) q_ := fun q_ hq => absurd hq List.not_mem_nil
  rcases yrun (yis_ok msyI_k) hA Hs Ho HC with ⟨q_, hq, h', K_, G_⟩ | ⟨q_, hq, h', K_, G_⟩
  · cases hq
  · have e_ := List.mem_singleton.mp hq
    subst e_
    exact ⟨h', yfr_sm K_.2.2.2 hs K_.1 (ywa_r msyI_w List.mem_cons_self), ⟨bpat_of (K_.2.1 _ List.mem_cons_self), fun a_ j_ n0_ => yfr_bp K_.2.2.2 (List.forall_mem_cons.mpr ⟨fun e_ => n0_ ⟨e_.1.symm, e_.2.symm⟩, fun q_ hq => absurd hq List.not_mem_nil⟩), G_⟩⟩
-- msyH: 1 steps, 1 ends, 0 returns
def msyH_L : List (Nat × Nat × Nat) := []
def msyH_O : yO := []
def msyH_A : yA := (yZ msyH_L, [], [], [], [])
def msyH_C : List xB := []
def msyH_ss : List yS := [(33, [(0, .index 338), (1, .arg 1), (2, .arg 2)], [.index 338], [], [], [])]
def msyH_rs : List yR := []
theorem msyH_w : ywa msyH_A msyH_ss msyH_rs = true := by decide +kernel
theorem msyH_k : yis (yev msyH_A 3000 60 208 [33] (32, [(0, .index 338), (1, .arg 1), (2, .arg 2)], [], msyH_O, msyH_C, [])) msyH_ss msyH_rs = true := by decide +kernel
def msyH_r (v1_ v2 : Int32) (k_ : Nat) : Value := bif Nat.beq k_ 1 then .int v1_ else (bif Nat.beq k_ 2 then .int v2 else (.int 0))
def msyH_s (n_ : Nat) : Nat := 0
theorem msyH {h_ : xH} {v1_ v2 : Int32} (hs : sHp h_) : ∃ h', ysm h_ h' ∧ (((∀ a_ j_ : Nat, bpat h' a_ j_ = bpat h_ a_ j_) ∧ (bldD 60 208 32 [(0, .index 338), (1, .int v1_), (2, .int v2)] [] h_ 33 [(0, .index 338), (1, .int v1_), (2, .int v2)] [.index 338] h'))) := by
  have hA : yas msyH_A (msyH_r v1_ v2) (yg msyH_s) := ⟨fun q_ hq => absurd hq List.not_mem_nil, fun q_ hq => absurd hq List.not_mem_nil, fun q_ hq => absurd hq List.not_mem_nil, fun n_ hn => yg_lo hn, fun q_ hq => absurd hq List.not_mem_nil⟩
  have Hs : ysh msyH_A.1 (yg msyH_s) h_ := ysh_of2 hs (fun q_ hq => absurd hq List.not_mem_nil)
  have Ho : ymem (msyH_r v1_ v2) (yg msyH_s) msyH_O h_ := fun q_ hq => absurd hq List.not_mem_nil
  have HC : ∀ q_ ∈ msyH_C, xhold (msyH_r v1_ v2) q_ := fun q_ hq => absurd hq List.not_mem_nil
  rcases yrun (yis_ok msyH_k) hA Hs Ho HC with ⟨q_, hq, h', K_, G_⟩ | ⟨q_, hq, h', K_, G_⟩
  · have e_ := List.mem_singleton.mp hq
    subst e_
    exact ⟨h', yfr_sm K_.2.2.2 hs K_.1 (ywa_s msyH_w List.mem_cons_self), ⟨fun a_ j_ => yfr_bp K_.2.2.2 (fun q_ hq => absurd hq List.not_mem_nil), G_⟩⟩
  · cases hq
-- msyR0: 8 steps, 0 ends, 1 returns
def msyR0_L : List (Nat × Nat × Nat) := []
def msyR0_O : yO := [(338, .int 17, .arg 317)]
def msyR0_A : yA := (yZ msyR0_L, [], [], [], [])
def msyR0_C : List xB := [(.eq, .arg 317, .int 0, true)]
def msyR0_ss : List yS := []
def msyR0_rs : List yR := [(some (.int 0), [(338, .int 17, .arg 317)], [(.eq, .arg 317, .int 0, true)], [])]
theorem msyR0_w : ywa msyR0_A msyR0_ss msyR0_rs = true := by decide +kernel
theorem msyR0_k : yis (yev msyR0_A 3000 60 208 [] (36, [(0, .index 338), (1, .arg 1), (2, .arg 2)], [.int 0], msyR0_O, msyR0_C, [])) msyR0_ss msyR0_rs = true := by decide +kernel
def msyR0_r (v1_ v2 v317 : Int32) (k_ : Nat) : Value := bif Nat.beq k_ 1 then .int v1_ else (bif Nat.beq k_ 2 then .int v2 else (bif Nat.beq k_ 317 then .int v317 else (.int 0)))
def msyR0_s (n_ : Nat) : Nat := 0
theorem msyR0 {h_ : xH} {v1_ v2 v317 : Int32} (hs : sHp h_) (o0_ : bpat h_ 338 17 = some (.int v317)) (c0_ : v317 = (0 : Int32)) : ∃ h', ysm h_ h' ∧ (((∀ a_ j_ : Nat, bpat h' a_ j_ = bpat h_ a_ j_) ∧ (∀ D_, 60 ≤ D_ → xrun D_ 208 36 [(0, .index 338), (1, .int v1_), (2, .int v2)] [.int (0 : Int32)] h_ (some (.int (0 : Int32)), h', [])))) := by
  have hA : yas msyR0_A (msyR0_r v1_ v2 v317) (yg msyR0_s) := ⟨fun q_ hq => absurd hq List.not_mem_nil, fun q_ hq => absurd hq List.not_mem_nil, fun q_ hq => absurd hq List.not_mem_nil, fun n_ hn => yg_lo hn, fun q_ hq => absurd hq List.not_mem_nil⟩
  have Hs : ysh msyR0_A.1 (yg msyR0_s) h_ := ysh_of2 hs (fun q_ hq => absurd hq List.not_mem_nil)
  have Ho : ymem (msyR0_r v1_ v2 v317) (yg msyR0_s) msyR0_O h_ := List.forall_mem_cons.mpr ⟨bpat_some o0_, fun q_ hq => absurd hq List.not_mem_nil⟩
  have HC : ∀ q_ ∈ msyR0_C, xhold (msyR0_r v1_ v2 v317) q_ := List.forall_mem_cons.mpr ⟨xh_eqT2 c0_, fun q_ hq => absurd hq List.not_mem_nil⟩
  rcases yrun (yis_ok msyR0_k) hA Hs Ho HC with ⟨q_, hq, h', K_, G_⟩ | ⟨q_, hq, h', K_, G_⟩
  · cases hq
  · have e_ := List.mem_singleton.mp hq
    subst e_
    exact ⟨h', yfr_sm K_.2.2.2 hs K_.1 (ywa_r msyR0_w List.mem_cons_self), ⟨fun a_ j_ => yfr_bp K_.2.2.2 (fun q_ hq => absurd hq List.not_mem_nil), G_⟩⟩
-- msyR1: 9 steps, 0 ends, 1 returns
def msyR1_L : List (Nat × Nat × Nat) := []
def msyR1_O : yO := [(338, .int 17, .arg 317)]
def msyR1_A : yA := (yZ msyR1_L, [], [], [], [])
def msyR1_C : List xB := [(.eq, .arg 317, .int 0, true)]
def msyR1_ss : List yS := []
def msyR1_rs : List yR := [(some (.int 1), [(338, .int 17, .arg 317)], [(.eq, .arg 317, .int 0, true)], [])]
theorem msyR1_w : ywa msyR1_A msyR1_ss msyR1_rs = true := by decide +kernel
theorem msyR1_k : yis (yev msyR1_A 3000 60 208 [] (36, [(0, .index 338), (1, .arg 1), (2, .arg 2)], [.int 1], msyR1_O, msyR1_C, [])) msyR1_ss msyR1_rs = true := by decide +kernel
def msyR1_r (v1_ v2 v317 : Int32) (k_ : Nat) : Value := bif Nat.beq k_ 1 then .int v1_ else (bif Nat.beq k_ 2 then .int v2 else (bif Nat.beq k_ 317 then .int v317 else (.int 0)))
def msyR1_s (n_ : Nat) : Nat := 0
theorem msyR1 {h_ : xH} {v1_ v2 v317 : Int32} (hs : sHp h_) (o0_ : bpat h_ 338 17 = some (.int v317)) (c0_ : v317 = (0 : Int32)) : ∃ h', ysm h_ h' ∧ (((∀ a_ j_ : Nat, bpat h' a_ j_ = bpat h_ a_ j_) ∧ (∀ D_, 60 ≤ D_ → xrun D_ 208 36 [(0, .index 338), (1, .int v1_), (2, .int v2)] [.int (1 : Int32)] h_ (some (.int (1 : Int32)), h', [])))) := by
  have hA : yas msyR1_A (msyR1_r v1_ v2 v317) (yg msyR1_s) := ⟨fun q_ hq => absurd hq List.not_mem_nil, fun q_ hq => absurd hq List.not_mem_nil, fun q_ hq => absurd hq List.not_mem_nil, fun n_ hn => yg_lo hn, fun q_ hq => absurd hq List.not_mem_nil⟩
  have Hs : ysh msyR1_A.1 (yg msyR1_s) h_ := ysh_of2 hs (fun q_ hq => absurd hq List.not_mem_nil)
  have Ho : ymem (msyR1_r v1_ v2 v317) (yg msyR1_s) msyR1_O h_ := List.forall_mem_cons.mpr ⟨bpat_some o0_, fun q_ hq => absurd hq List.not_mem_nil⟩
  have HC : ∀ q_ ∈ msyR1_C, xhold (msyR1_r v1_ v2 v317) q_ := List.forall_mem_cons.mpr ⟨xh_eqT2 c0_, fun q_ hq => absurd hq List.not_mem_nil⟩
  rcases yrun (yis_ok msyR1_k) hA Hs Ho HC with ⟨q_, hq, h', K_, G_⟩ | ⟨q_, hq, h', K_, G_⟩
  · cases hq
  · have e_ := List.mem_singleton.mp hq
    subst e_
    exact ⟨h', yfr_sm K_.2.2.2 hs K_.1 (ywa_r msyR1_w List.mem_cons_self), ⟨fun a_ j_ => yfr_bp K_.2.2.2 (fun q_ hq => absurd hq List.not_mem_nil), G_⟩⟩
-- msyW: 21 steps, 0 ends, 1 returns
def msyW_L : List (Nat × Nat × Nat) := []
def msyW_O : yO := [(338, .int 17, .arg 317), (338, .int 3, .index 341), (341, .int 2, .arg 400)]
def msyW_A : yA := (yZ msyW_L, [], [], [], [])
def msyW_C : List xB := [(.eq, .arg 317, .int 0, false)]
def msyW_ss : List yS := []
def msyW_rs : List yR := [(some (.int (Int32.ofInt (-1000002))), [(341, .int 2, .add (.arg 400) (.int 1)), (338, .int 17, .arg 317), (338, .int 3, .index 341)], [(.eq, .arg 317, .int 0, false)], [(341, .int 2)])]
theorem msyW_w : ywa msyW_A msyW_ss msyW_rs = true := by decide +kernel
theorem msyW_k : yis (yev msyW_A 3000 60 208 [] (36, [(0, .index 338), (1, .arg 1), (2, .arg 2)], [.arg 5], msyW_O, msyW_C, [])) msyW_ss msyW_rs = true := by decide +kernel
def msyW_r (v1_ v2 v5 v317 v400 : Int32) (k_ : Nat) : Value := bif Nat.beq k_ 1 then .int v1_ else (bif Nat.beq k_ 2 then .int v2 else (bif Nat.beq k_ 5 then .int v5 else (bif Nat.beq k_ 317 then .int v317 else (bif Nat.beq k_ 400 then .int v400 else (.int 0)))))
def msyW_s (n_ : Nat) : Nat := 0
theorem msyW {h_ : xH} {v1_ v2 v5 v317 v400 : Int32} (hs : sHp h_) (o0_ : bpat h_ 338 17 = some (.int v317)) (o1 : bpat h_ 341 2 = some (.int v400)) (c0_ : ¬ v317 = (0 : Int32)) : ∃ h', ysm h_ h' ∧ (((bpat h' 341 2 = some (.int (v400 + (1 : Int32)))) ∧ (∀ a_ j_ : Nat, ¬ (a_ = 341 ∧ j_ = 2) → bpat h' a_ j_ = bpat h_ a_ j_) ∧ (∀ D_, 60 ≤ D_ → xrun D_ 208 36 [(0, .index 338), (1, .int v1_), (2, .int v2)] [.int v5] h_ (some (.int (Int32.ofInt (-1000002))), h', [])))) := by
  have hA : yas msyW_A (msyW_r v1_ v2 v5 v317 v400) (yg msyW_s) := ⟨fun q_ hq => absurd hq List.not_mem_nil, fun q_ hq => absurd hq List.not_mem_nil, fun q_ hq => absurd hq List.not_mem_nil, fun n_ hn => yg_lo hn, fun q_ hq => absurd hq List.not_mem_nil⟩
  have Hs : ysh msyW_A.1 (yg msyW_s) h_ := ysh_of2 hs (fun q_ hq => absurd hq List.not_mem_nil)
  have Ho : ymem (msyW_r v1_ v2 v5 v317 v400) (yg msyW_s) msyW_O h_ := List.forall_mem_cons.mpr ⟨bpat_some o0_, List.forall_mem_cons.mpr ⟨bpat_some (fxr_at hs.2 (show fxk fxl 338 3 = some 341 by decide +kernel)), List.forall_mem_cons.mpr ⟨bpat_some o1, fun q_ hq => absurd hq List.not_mem_nil⟩⟩⟩
  have HC : ∀ q_ ∈ msyW_C, xhold (msyW_r v1_ v2 v5 v317 v400) q_ := List.forall_mem_cons.mpr ⟨xh_eqF2 c0_, fun q_ hq => absurd hq List.not_mem_nil⟩
  rcases yrun (yis_ok msyW_k) hA Hs Ho HC with ⟨q_, hq, h', K_, G_⟩ | ⟨q_, hq, h', K_, G_⟩
  · cases hq
  · have e_ := List.mem_singleton.mp hq
    subst e_
    exact ⟨h', yfr_sm K_.2.2.2 hs K_.1 (ywa_r msyW_w List.mem_cons_self), ⟨bpat_of (K_.2.1 _ List.mem_cons_self), fun a_ j_ n0_ => yfr_bp K_.2.2.2 (List.forall_mem_cons.mpr ⟨fun e_ => n0_ ⟨e_.1.symm, e_.2.symm⟩, fun q_ hq => absurd hq List.not_mem_nil⟩), G_⟩⟩
noncomputable def saysF (W_ : Nat → List Int32) (V : Nat → Int32) (z_ d_ : Int32) : (Nat → List Int32) × (Nat → Int32) × Int32 := pif ((0 ≤ z_.toInt ∧ z_.toInt < (V 0).toInt) ∧ isW (nR V) d_) (W_, V, if (sayF (wso (V 3)) (hrd W_ V d_ (W_ z_.toInt.toNat))).1 = true then bI (sayF (wso (V 3)) (hrd W_ V d_ (W_ z_.toInt.toNat))).2.2 else Int32.ofInt (-1000002)) (W_, V, Int32.ofInt (-1000001))
theorem ok_says {W_ : Nat → List Int32} {V : Nat → Int32} (K_ : okS W_ V) (z_ d_ : Int32) : okS (saysF W_ V z_ d_).1 (saysF W_ V z_ d_).2.1 := by
  unfold saysF pif
  split <;> exact K_
theorem m_says {W_ : Nat → List Int32} {V : Nat → Int32} {h_ : xH} {z_ d_ : Int32} (B_ : bInv bZ bIj h_) (K_ : okS W_ V) (H_ : SM W_ V h_) : ∃ h', ysm h_ h' ∧ (SM (saysF W_ V z_ d_).1 (saysF W_ V z_ d_).2.1 h' ∧ ∀ D_, 90 ≤ D_ → xrun D_ 208 0 [(0, .index 338), (1, .int z_), (2, .int d_)] [] h_ (some (.int (saysF W_ V z_ d_).2.2), h', [])) := by
  obtain ⟨y_, oy⟩ := merr (k_ := 1) B_ (by omega)
  obtain ⟨y2, oy2⟩ := merr (k_ := 2) B_ (by omega)
  have zz := z0_
  have kN_ := okN K_
  have n1_ := i32j (V 0) kN_.1 (by omega)
  have hz := m339 B_
  unfold saysF
  obtain ⟨h0, m0_, e_⟩ := msyE (v1_ := z_) (v2 := d_) H_.1 (mNc H_) oy
  rcases e_ with ⟨g1, g2, f_, r_⟩ | ⟨g1, w0_, f_, r_⟩ | ⟨g1, g2, w0_, f_, r_⟩
  rotate_left
  · rw [pif_f (fun q_ => by have q2_ := q_.1; omega)]; exact ⟨h0, m0_, SM_e H_ m0_ f_, fun D_ hD => r_ D_ (by omega)⟩
  · rw [pif_f (fun q_ => by have q2_ := q_.1; omega)]; exact ⟨h0, m0_, SM_e H_ m0_ f_, fun D_ hD => r_ D_ (by omega)⟩
  have H0 := SM_fr H_ m0_ (fun c_ j_ _ => f_ c_ j_)
  obtain ⟨c_, hc_, hN_, rfl, ec⟩ := isC_n (z_ := z_) K_ ⟨by omega, by omega⟩
  obtain ⟨h1, ⟨H1_, F1_⟩, e1_⟩ := c_isw (mi := 208) (pc := 10) (lo_ := [(0, .index 338), (1, .int (Int32.ofNat c_)), (2, .int d_)]) (z_ := d_) (s' := []) rfl (xcc_l (List.forall_mem_cons.mpr ⟨xidx_i (bcq_lt (bcq_of (n_ := 338) (z_ := (12, 26)) H0.1 rfl)), List.forall_mem_cons.mpr ⟨rfl, List.forall_mem_cons.mpr ⟨rfl, fun q_ hq => absurd hq List.not_mem_nil⟩⟩⟩) (fun t_ ht => absurd ht List.not_mem_nil) (Nat.le_of_ble_eq_true rfl)) K_ H0
  have fy : ∀ k_, bpat h1 341 k_ = bpat h_ 341 k_ := fun k_ => (F1_.2 _ _).trans (f_ _ _)
  rcases e1_ with ⟨gw, ld1⟩ | ⟨gw, ld1⟩
  · rw [pif_t ⟨⟨by omega, by omega⟩, gw⟩, ec]
    obtain ⟨h2, m2_, f2_, ld2⟩ := msyG (v1_ := Int32.ofNat c_) (v2 := d_) H1_.1
    have H2_ := SM_fr H1_ m2_ (fun c_ j_ _ => f2_ c_ j_)
    obtain ⟨h3, ⟨H3, F3⟩, R3, ld3⟩ := c_hears (mi := 208) (pc := 29) (lo_ := [(0, .index 338), (1, .int (Int32.ofNat c_)), (2, .int d_)]) (b_ := 342) (s' := []) rfl (xcc_l (List.forall_mem_cons.mpr ⟨xidx_i (bcq_lt (bcq_of (n_ := 338) (z_ := (12, 26)) H2_.1 rfl)), List.forall_mem_cons.mpr ⟨rfl, List.forall_mem_cons.mpr ⟨rfl, fun q_ hq => absurd hq List.not_mem_nil⟩⟩⟩) (fun t_ ht => absurd ht List.not_mem_nil) (Nat.le_of_ble_eq_true rfl)) K_ H2_ (Or.inl rfl) hc_ gw (fun j_ hj => by rw [f2_, F1_.2, f_]; exact hz j_ hj)
    obtain ⟨h4, m4_, f4_, ld4⟩ := msyH (v1_ := Int32.ofNat c_) (v2 := d_) H3.1
    have H4 := SM_fr H3 m4_ (fun c_ j_ _ => f4_ c_ j_)
    have kc_ := K_.1.2.2.1 c_ hc_
    rw [Nat.zero_add] at kc_
    obtain ⟨h5, vb, ⟨H5, F5⟩, a_, r5_⟩ := saM (snds_hrf kc_.2) H4 (rM_all R3 m4_ f4_)
    have ld5 := ycv (d_ := 86) (mi := 208) (pc := 33) (cm := 205) (lo_ := [(0, .index 338), (1, .int (Int32.ofNat c_)), (2, .int d_)]) (st_ := [.index 338]) (as_ := []) (s' := []) rfl rfl (bcq_of (n_ := 338) (z_ := (12, 26)) H4.1 rfl) rfl (xcc_l (List.forall_mem_cons.mpr ⟨xidx_i (bcq_lt (bcq_of (n_ := 338) (z_ := (12, 26)) H4.1 rfl)), List.forall_mem_cons.mpr ⟨rfl, List.forall_mem_cons.mpr ⟨rfl, fun q_ hq => absurd hq List.not_mem_nil⟩⟩⟩) (fun t_ ht => absurd ht List.not_mem_nil) (Nat.le_of_ble_eq_true rfl)) r5_
    have M5_ := ysm_tr m0_ (ysm_tr F1_.1 (ysm_tr m2_ (ysm_tr F3.1 (ysm_tr m4_ F5.1))))
    have fy5 : bpat h5 341 2 = some (.int y2) := (F5.2 _ _ (by omega) (by omega)).trans ((f4_ _ _).trans ((F3.2 _ _ (by omega) (by omega) (by omega)).trans ((f2_ _ _).trans ((fy 2).trans oy2))))
    change _ ∨ _ at a_
    rcases a_ with ⟨a1_, a2, a3⟩ | ⟨a1_, a2, a3⟩
    · have v1_ : (sayF (wso (V 3)) (hrd W_ V d_ (W_ c_))).1 = true := a1_
      rw [if_pos v1_]
      have v3 : vb = (sayF (wso (V 3)) (hrd W_ V d_ (W_ c_))).2.2 := a3
      rw [← v3]
      cases vb with
      | true =>
        obtain ⟨h6, m6_, f6_, r6⟩ := msyR1 (v1_ := Int32.ofNat c_) (v2 := d_) (v317 := 0) H5.1 a2 rfl
        exact ⟨h6, ysm_tr M5_ m6_, SM_fr H5 m6_ (fun c_ j_ _ => f6_ c_ j_), fun D_ hD => r_ D_ (by omega) _ (ld1 D_ (by omega) _ (ld2 D_ (by omega) _ (ld3 D_ (by omega) _ (ld4 D_ (by omega) _ (ld5 D_ (by omega) _ (r6 D_ (by omega)))))))⟩
      | false =>
        obtain ⟨h6, m6_, f6_, r6⟩ := msyR0 (v1_ := Int32.ofNat c_) (v2 := d_) (v317 := 0) H5.1 a2 rfl
        exact ⟨h6, ysm_tr M5_ m6_, SM_fr H5 m6_ (fun c_ j_ _ => f6_ c_ j_), fun D_ hD => r_ D_ (by omega) _ (ld1 D_ (by omega) _ (ld2 D_ (by omega) _ (ld3 D_ (by omega) _ (ld4 D_ (by omega) _ (ld5 D_ (by omega) _ (r6 D_ (by omega)))))))⟩
    · have v1_ : ¬ (sayF (wso (V 3)) (hrd W_ V d_ (W_ c_))).1 = true := fun q_ => by
        have q2_ : (sayF (wso (V 3)) (hrd W_ V d_ (W_ c_))).1 = false := a1_
        rw [q_] at q2_
        cases q2_
      rw [if_neg v1_]
      obtain ⟨h6, m6_, w0_, f6_, r6⟩ := msyW (v1_ := Int32.ofNat c_) (v2 := d_) (v5 := bI vb) (v317 := 1) H5.1 a2 fy5 (by decide)
      exact ⟨h6, ysm_tr M5_ m6_, SM_e H5 m6_ f6_, fun D_ hD => r_ D_ (by omega) _ (ld1 D_ (by omega) _ (ld2 D_ (by omega) _ (ld3 D_ (by omega) _ (ld4 D_ (by omega) _ (ld5 D_ (by omega) _ (r6 D_ (by omega)))))))⟩
  · rw [pif_f (fun q_ => gw q_.2)]
    obtain ⟨h2, m2_, w0_, f2_, r2⟩ := msyI (v1_ := Int32.ofNat c_) (v2 := d_) H1_.1 ((fy 1).trans oy)
    exact ⟨h2, ysm_tr m0_ (ysm_tr F1_.1 m2_), SM_e H1_ m2_ f2_, fun D_ hD => r_ D_ (by omega) _ (ld1 D_ (by omega) _ (r2 D_ (by omega)))⟩
