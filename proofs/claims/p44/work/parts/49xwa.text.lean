-- ===== the reference reads a TEXT
-- mlkI: 16 steps, 0 ends, 1 returns
def mlkI_L : List (Nat × Nat × Nat) := []
def mlkI_O : yO := [(338, .int 7, .arg 307), (338, .int 0, .index 339), (339, .int 6, .arg 306), (339, .add (.int 684) (.arg 307), .arg 302)]
def mlkI_A : yA := (yZ mlkI_L, [(.add (.int 684) (.arg 307), 768)], [], [], [])
def mlkI_C : List xB := [(.lt, .arg 307, .arg 306, true)]
def mlkI_ss : List yS := []
def mlkI_rs : List yR := [(some (.arg 302), [(338, .int 7, .arg 307), (338, .int 0, .index 339), (339, .int 6, .arg 306), (339, .add (.int 684) (.arg 307), .arg 302)], [(.lt, .arg 307, .arg 306, true)], [])]
theorem mlkI_w : ywa mlkI_A mlkI_ss mlkI_rs = true := by decide +kernel
theorem mlkI_k : yis (yev mlkI_A 3000 60 173 [] (0, [(0, .index 338)], [], mlkI_O, mlkI_C, [])) mlkI_ss mlkI_rs = true := by decide +kernel
def mlkI_r (v302 v306 v307 : Int32) (k_ : Nat) : Value := bif Nat.beq k_ 302 then .int v302 else (bif Nat.beq k_ 306 then .int v306 else (bif Nat.beq k_ 307 then .int v307 else (.int 0)))
def mlkI_s (n_ : Nat) : Nat := 0
theorem mlkI {h_ : xH} {v302 v306 v307 : Int32} (hs : sHp h_) (o0_ : bpat h_ 338 7 = some (.int v307)) (o1 : bpat h_ 339 6 = some (.int v306)) (o2 : bpat h_ 339 (((684 : Int32) + v307)).toInt.toNat = some (.int v302)) (b0 : 0 ≤ (((684 : Int32) + v307)).toInt ∧ (((684 : Int32) + v307)).toInt < 768) (c0_ : v307.toInt < v306.toInt) : ∃ h', ysm h_ h' ∧ (((∀ a_ j_ : Nat, bpat h' a_ j_ = bpat h_ a_ j_) ∧ (∀ D_, 60 ≤ D_ → xrun D_ 173 0 [(0, .index 338)] [] h_ (some (.int v302), h', [])))) := by
  have hA : yas mlkI_A (mlkI_r v302 v306 v307) (yg mlkI_s) := ⟨List.forall_mem_cons.mpr ⟨b0, fun q_ hq => absurd hq List.not_mem_nil⟩, fun q_ hq => absurd hq List.not_mem_nil, fun q_ hq => absurd hq List.not_mem_nil, fun n_ hn => yg_lo hn, fun q_ hq => absurd hq List.not_mem_nil⟩
  have Hs : ysh mlkI_A.1 (yg mlkI_s) h_ := ysh_of2 hs (fun q_ hq => absurd hq List.not_mem_nil)
  have Ho : ymem (mlkI_r v302 v306 v307) (yg mlkI_s) mlkI_O h_ := List.forall_mem_cons.mpr ⟨bpat_some o0_, List.forall_mem_cons.mpr ⟨bpat_some (fxr_at hs.2 (show fxk fxl 338 0 = some 339 by decide +kernel)), List.forall_mem_cons.mpr ⟨bpat_some o1, List.forall_mem_cons.mpr ⟨bpat_some o2, fun q_ hq => absurd hq List.not_mem_nil⟩⟩⟩⟩
  have HC : ∀ q_ ∈ mlkI_C, xhold (mlkI_r v302 v306 v307) q_ := List.forall_mem_cons.mpr ⟨xh_ltT c0_, fun q_ hq => absurd hq List.not_mem_nil⟩
  rcases yrun (yis_ok mlkI_k) hA Hs Ho HC with ⟨q_, hq, h', K_, G_⟩ | ⟨q_, hq, h', K_, G_⟩
  · cases hq
  · have e_ := List.mem_singleton.mp hq
    subst e_
    exact ⟨h', yfr_sm K_.2.2.2 hs K_.1 (ywa_r mlkI_w List.mem_cons_self), ⟨fun a_ j_ => yfr_bp K_.2.2.2 (fun q_ hq => absurd hq List.not_mem_nil), G_⟩⟩
-- mlkO: 9 steps, 0 ends, 1 returns
def mlkO_L : List (Nat × Nat × Nat) := []
def mlkO_O : yO := [(338, .int 7, .arg 307), (338, .int 0, .index 339), (339, .int 6, .arg 306)]
def mlkO_A : yA := (yZ mlkO_L, [], [], [], [])
def mlkO_C : List xB := [(.lt, .arg 307, .arg 306, false)]
def mlkO_ss : List yS := []
def mlkO_rs : List yR := [(some (.int (Int32.ofInt (-1))), [(338, .int 7, .arg 307), (338, .int 0, .index 339), (339, .int 6, .arg 306)], [(.lt, .arg 307, .arg 306, false)], [])]
theorem mlkO_w : ywa mlkO_A mlkO_ss mlkO_rs = true := by decide +kernel
theorem mlkO_k : yis (yev mlkO_A 3000 60 173 [] (0, [(0, .index 338)], [], mlkO_O, mlkO_C, [])) mlkO_ss mlkO_rs = true := by decide +kernel
def mlkO_r (v306 v307 : Int32) (k_ : Nat) : Value := bif Nat.beq k_ 306 then .int v306 else (bif Nat.beq k_ 307 then .int v307 else (.int 0))
def mlkO_s (n_ : Nat) : Nat := 0
theorem mlkO {h_ : xH} {v306 v307 : Int32} (hs : sHp h_) (o0_ : bpat h_ 338 7 = some (.int v307)) (o1 : bpat h_ 339 6 = some (.int v306)) (c0_ : v306.toInt ≤ v307.toInt) : ∃ h', ysm h_ h' ∧ (((∀ a_ j_ : Nat, bpat h' a_ j_ = bpat h_ a_ j_) ∧ (∀ D_, 60 ≤ D_ → xrun D_ 173 0 [(0, .index 338)] [] h_ (some (.int (Int32.ofInt (-1))), h', [])))) := by
  have hA : yas mlkO_A (mlkO_r v306 v307) (yg mlkO_s) := ⟨fun q_ hq => absurd hq List.not_mem_nil, fun q_ hq => absurd hq List.not_mem_nil, fun q_ hq => absurd hq List.not_mem_nil, fun n_ hn => yg_lo hn, fun q_ hq => absurd hq List.not_mem_nil⟩
  have Hs : ysh mlkO_A.1 (yg mlkO_s) h_ := ysh_of2 hs (fun q_ hq => absurd hq List.not_mem_nil)
  have Ho : ymem (mlkO_r v306 v307) (yg mlkO_s) mlkO_O h_ := List.forall_mem_cons.mpr ⟨bpat_some o0_, List.forall_mem_cons.mpr ⟨bpat_some (fxr_at hs.2 (show fxk fxl 338 0 = some 339 by decide +kernel)), List.forall_mem_cons.mpr ⟨bpat_some o1, fun q_ hq => absurd hq List.not_mem_nil⟩⟩⟩
  have HC : ∀ q_ ∈ mlkO_C, xhold (mlkO_r v306 v307) q_ := List.forall_mem_cons.mpr ⟨xh_ltF c0_, fun q_ hq => absurd hq List.not_mem_nil⟩
  rcases yrun (yis_ok mlkO_k) hA Hs Ho HC with ⟨q_, hq, h', K_, G_⟩ | ⟨q_, hq, h', K_, G_⟩
  · cases hq
  · have e_ := List.mem_singleton.mp hq
    subst e_
    exact ⟨h', yfr_sm K_.2.2.2 hs K_.1 (ywa_r mlkO_w List.mem_cons_self), ⟨fun a_ j_ => yfr_bp K_.2.2.2 (fun q_ hq => absurd hq List.not_mem_nil), G_⟩⟩
-- mly: 25 steps, 0 ends, 1 returns
def mly_L : List (Nat × Nat × Nat) := []
def mly_O : yO := [(338, .int 11, .index 345), (338, .int 9, .arg 309)]
def mly_A : yA := (yZ mly_L, [(.mul (.int 2) (.arg 309), 124), (.add (.mul (.int 2) (.arg 309)) (.int 1), 124)], [(.mul (.int 2) (.arg 309), .add (.mul (.int 2) (.arg 309)) (.int 1))], [], [])
def mly_C : List xB := []
def mly_ss : List yS := []
def mly_rs : List yR := [(none, [(338, .int 9, .add (.arg 309) (.int 1)), (345, .add (.mul (.int 2) (.arg 309)) (.int 1), .arg 2), (345, .mul (.int 2) (.arg 309), .arg 1), (338, .int 11, .index 345)], [], [(338, .int 9), (345, .add (.mul (.int 2) (.arg 309)) (.int 1)), (345, .mul (.int 2) (.arg 309))])]
theorem mly_w : ywa mly_A mly_ss mly_rs = true := by decide +kernel
theorem mly_k : yis (yev mly_A 3000 60 175 [] (0, [(0, .index 338), (1, .arg 1), (2, .arg 2)], [], mly_O, mly_C, [])) mly_ss mly_rs = true := by decide +kernel
def mly_r (v1_ v2 v309 : Int32) (k_ : Nat) : Value := bif Nat.beq k_ 1 then .int v1_ else (bif Nat.beq k_ 2 then .int v2 else (bif Nat.beq k_ 309 then .int v309 else (.int 0)))
def mly_s (n_ : Nat) : Nat := 0
theorem mly {h_ : xH} {v1_ v2 v309 : Int32} (hs : sHp h_) (o0_ : bpat h_ 338 9 = some (.int v309)) (b0 : 0 ≤ (((2 : Int32) * v309)).toInt ∧ (((2 : Int32) * v309)).toInt < 124) (b1 : 0 ≤ ((((2 : Int32) * v309) + (1 : Int32))).toInt ∧ ((((2 : Int32) * v309) + (1 : Int32))).toInt < 124) (x0_ : ¬ (((2 : Int32) * v309)).toInt.toNat = ((((2 : Int32) * v309) + (1 : Int32))).toInt.toNat) : ∃ h', ysm h_ h' ∧ (((bpat h' 338 9 = some (.int (v309 + (1 : Int32)))) ∧ (bpat h' 345 ((((2 : Int32) * v309) + (1 : Int32))).toInt.toNat = some (.int v2)) ∧ (bpat h' 345 (((2 : Int32) * v309)).toInt.toNat = some (.int v1_)) ∧ (∀ a_ j_ : Nat, ¬ (a_ = 338 ∧ j_ = 9) → ¬ (a_ = 345 ∧ j_ = ((((2 : Int32) * v309) + (1 : Int32))).toInt.toNat) → ¬ (a_ = 345 ∧ j_ = (((2 : Int32) * v309)).toInt.toNat) → bpat h' a_ j_ = bpat h_ a_ j_) ∧ (∀ D_, 60 ≤ D_ → xrun D_ 175 0 [(0, .index 338), (1, .int v1_), (2, .int v2)] [] h_ (none, h', [])))) := by
  have hA : yas mly_A (mly_r v1_ v2 v309) (yg mly_s) := ⟨List.forall_mem_cons.mpr ⟨b0, List.forall_mem_cons.mpr ⟨b1, fun q_ hq => absurd hq List.not_mem_nil⟩⟩, List.forall_mem_cons.mpr ⟨x0_, fun q_ hq => absurd hq List.not_mem_nil⟩, fun q_ hq => absurd hq List.not_mem_nil, fun n_ hn => yg_lo hn, fun q_ hq => absurd hq List.not_mem_nil⟩
  have Hs : ysh mly_A.1 (yg mly_s) h_ := ysh_of2 hs (fun q_ hq => absurd hq List.not_mem_nil)
  have Ho : ymem (mly_r v1_ v2 v309) (yg mly_s) mly_O h_ := List.forall_mem_cons.mpr ⟨bpat_some (fxr_at hs.2 (show fxk fxl 338 11 = some 345 by decide +kernel)), List.forall_mem_cons.mpr ⟨bpat_some o0_, fun q_ hq => absurd hq List.not_mem_nil⟩⟩
  have HC : ∀ q_ ∈ mly_C, xhold (mly_r v1_ v2 v309) q_ := fun q_ hq => absurd hq List.not_mem_nil
  rcases yrun (yis_ok mly_k) hA Hs Ho HC with ⟨q_, hq, h', K_, G_⟩ | ⟨q_, hq, h', K_, G_⟩
  · cases hq
  · have e_ := List.mem_singleton.mp hq
    subst e_
    exact ⟨h', yfr_sm K_.2.2.2 hs K_.1 (ywa_r mly_w List.mem_cons_self), ⟨bpat_of (K_.2.1 _ List.mem_cons_self), bpat_of (K_.2.1 _ (List.mem_cons_of_mem _ List.mem_cons_self)), bpat_of (K_.2.1 _ (List.mem_cons_of_mem _ (List.mem_cons_of_mem _ List.mem_cons_self))), fun a_ j_ n0_ n1_ n2_ => yfr_bp K_.2.2.2 (List.forall_mem_cons.mpr ⟨fun e_ => n0_ ⟨e_.1.symm, e_.2.symm⟩, List.forall_mem_cons.mpr ⟨fun e_ => n1_ ⟨e_.1.symm, e_.2.symm⟩, List.forall_mem_cons.mpr ⟨fun e_ => n2_ ⟨e_.1.symm, e_.2.symm⟩, fun q_ hq => absurd hq List.not_mem_nil⟩⟩⟩), G_⟩⟩
-- mnm00: 9 steps, 0 ends, 1 returns
def mnm00_L : List (Nat × Nat × Nat) := []
def mnm00_O : yO := [(338, .int 10, .arg 310)]
def mnm00_A : yA := (yZ mnm00_L, [], [], [], [])
def mnm00_C : List xB := [(.eq, .arg 1, .int 115, true), (.eq, .arg 310, .int 0, true)]
def mnm00_ss : List yS := []
def mnm00_rs : List yR := [(some (.int 1), [(338, .int 10, .arg 310)], [(.eq, .arg 1, .int 115, true), (.eq, .arg 310, .int 0, true)], [])]
theorem mnm00_w : ywa mnm00_A mnm00_ss mnm00_rs = true := by decide +kernel
theorem mnm00_k : yis (yev mnm00_A 3000 60 174 [] (0, [(0, .index 338), (1, .arg 1)], [], mnm00_O, mnm00_C, [])) mnm00_ss mnm00_rs = true := by decide +kernel
def mnm00_r (v1_ v310 : Int32) (k_ : Nat) : Value := bif Nat.beq k_ 1 then .int v1_ else (bif Nat.beq k_ 310 then .int v310 else (.int 0))
def mnm00_s (n_ : Nat) : Nat := 0
theorem mnm00 {h_ : xH} {v1_ v310 : Int32} (hs : sHp h_) (o0_ : bpat h_ 338 10 = some (.int v310)) (c0_ : v1_ = (115 : Int32)) (c1_ : v310 = (0 : Int32)) : ∃ h', ysm h_ h' ∧ (((∀ a_ j_ : Nat, bpat h' a_ j_ = bpat h_ a_ j_) ∧ (∀ D_, 60 ≤ D_ → xrun D_ 174 0 [(0, .index 338), (1, .int v1_)] [] h_ (some (.int (1 : Int32)), h', [])))) := by
  have hA : yas mnm00_A (mnm00_r v1_ v310) (yg mnm00_s) := ⟨fun q_ hq => absurd hq List.not_mem_nil, fun q_ hq => absurd hq List.not_mem_nil, fun q_ hq => absurd hq List.not_mem_nil, fun n_ hn => yg_lo hn, fun q_ hq => absurd hq List.not_mem_nil⟩
  have Hs : ysh mnm00_A.1 (yg mnm00_s) h_ := ysh_of2 hs (fun q_ hq => absurd hq List.not_mem_nil)
  have Ho : ymem (mnm00_r v1_ v310) (yg mnm00_s) mnm00_O h_ := List.forall_mem_cons.mpr ⟨bpat_some o0_, fun q_ hq => absurd hq List.not_mem_nil⟩
  have HC : ∀ q_ ∈ mnm00_C, xhold (mnm00_r v1_ v310) q_ := List.forall_mem_cons.mpr ⟨xh_eqT2 c0_, List.forall_mem_cons.mpr ⟨xh_eqT2 c1_, fun q_ hq => absurd hq List.not_mem_nil⟩⟩
  rcases yrun (yis_ok mnm00_k) hA Hs Ho HC with ⟨q_, hq, h', K_, G_⟩ | ⟨q_, hq, h', K_, G_⟩
  · cases hq
  · have e_ := List.mem_singleton.mp hq
    subst e_
    exact ⟨h', yfr_sm K_.2.2.2 hs K_.1 (ywa_r mnm00_w List.mem_cons_self), ⟨fun a_ j_ => yfr_bp K_.2.2.2 (fun q_ hq => absurd hq List.not_mem_nil), G_⟩⟩
-- mnm01: 12 steps, 0 ends, 1 returns
def mnm01_L : List (Nat × Nat × Nat) := []
def mnm01_O : yO := [(338, .int 10, .arg 310)]
def mnm01_A : yA := (yZ mnm01_L, [], [], [], [])
def mnm01_C : List xB := [(.eq, .arg 1, .int 105, true), (.eq, .arg 1, .int 115, false), (.eq, .arg 310, .int 0, true)]
def mnm01_ss : List yS := []
def mnm01_rs : List yR := [(some (.int 1), [(338, .int 10, .arg 310)], [(.eq, .arg 1, .int 105, true), (.eq, .arg 1, .int 115, false), (.eq, .arg 310, .int 0, true)], [])]
theorem mnm01_w : ywa mnm01_A mnm01_ss mnm01_rs = true := by decide +kernel
theorem mnm01_k : yis (yev mnm01_A 3000 60 174 [] (0, [(0, .index 338), (1, .arg 1)], [], mnm01_O, mnm01_C, [])) mnm01_ss mnm01_rs = true := by decide +kernel
def mnm01_r (v1_ v310 : Int32) (k_ : Nat) : Value := bif Nat.beq k_ 1 then .int v1_ else (bif Nat.beq k_ 310 then .int v310 else (.int 0))
def mnm01_s (n_ : Nat) : Nat := 0
theorem mnm01 {h_ : xH} {v1_ v310 : Int32} (hs : sHp h_) (o0_ : bpat h_ 338 10 = some (.int v310)) (c0_ : v1_ = (105 : Int32)) (c1_ : ¬ v1_ = (115 : Int32)) (c2_ : v310 = (0 : Int32)) : ∃ h', ysm h_ h' ∧ (((∀ a_ j_ : Nat, bpat h' a_ j_ = bpat h_ a_ j_) ∧ (∀ D_, 60 ≤ D_ → xrun D_ 174 0 [(0, .index 338), (1, .int v1_)] [] h_ (some (.int (1 : Int32)), h', [])))) := by
  have hA : yas mnm01_A (mnm01_r v1_ v310) (yg mnm01_s) := ⟨fun q_ hq => absurd hq List.not_mem_nil, fun q_ hq => absurd hq List.not_mem_nil, fun q_ hq => absurd hq List.not_mem_nil, fun n_ hn => yg_lo hn, fun q_ hq => absurd hq List.not_mem_nil⟩
  have Hs : ysh mnm01_A.1 (yg mnm01_s) h_ := ysh_of2 hs (fun q_ hq => absurd hq List.not_mem_nil)
  have Ho : ymem (mnm01_r v1_ v310) (yg mnm01_s) mnm01_O h_ := List.forall_mem_cons.mpr ⟨bpat_some o0_, fun q_ hq => absurd hq List.not_mem_nil⟩
  have HC : ∀ q_ ∈ mnm01_C, xhold (mnm01_r v1_ v310) q_ := List.forall_mem_cons.mpr ⟨xh_eqT2 c0_, List.forall_mem_cons.mpr ⟨xh_eqF2 c1_, List.forall_mem_cons.mpr ⟨xh_eqT2 c2_, fun q_ hq => absurd hq List.not_mem_nil⟩⟩⟩
  rcases yrun (yis_ok mnm01_k) hA Hs Ho HC with ⟨q_, hq, h', K_, G_⟩ | ⟨q_, hq, h', K_, G_⟩
  · cases hq
  · have e_ := List.mem_singleton.mp hq
    subst e_
    exact ⟨h', yfr_sm K_.2.2.2 hs K_.1 (ywa_r mnm01_w List.mem_cons_self), ⟨fun a_ j_ => yfr_bp K_.2.2.2 (fun q_ hq => absurd hq List.not_mem_nil), G_⟩⟩
-- mnm02: 15 steps, 0 ends, 1 returns
def mnm02_L : List (Nat × Nat × Nat) := []
def mnm02_O : yO := [(338, .int 10, .arg 310)]
def mnm02_A : yA := (yZ mnm02_L, [], [], [], [])
def mnm02_C : List xB := [(.eq, .arg 1, .int 110, true), (.eq, .arg 1, .int 115, false), (.eq, .arg 1, .int 105, false), (.eq, .arg 310, .int 0, true)]
def mnm02_ss : List yS := []
def mnm02_rs : List yR := [(some (.int 1), [(338, .int 10, .arg 310)], [(.eq, .arg 1, .int 110, true), (.eq, .arg 1, .int 115, false), (.eq, .arg 1, .int 105, false), (.eq, .arg 310, .int 0, true)], [])]
theorem mnm02_w : ywa mnm02_A mnm02_ss mnm02_rs = true := by decide +kernel
theorem mnm02_k : yis (yev mnm02_A 3000 60 174 [] (0, [(0, .index 338), (1, .arg 1)], [], mnm02_O, mnm02_C, [])) mnm02_ss mnm02_rs = true := by decide +kernel
def mnm02_r (v1_ v310 : Int32) (k_ : Nat) : Value := bif Nat.beq k_ 1 then .int v1_ else (bif Nat.beq k_ 310 then .int v310 else (.int 0))
def mnm02_s (n_ : Nat) : Nat := 0
theorem mnm02 {h_ : xH} {v1_ v310 : Int32} (hs : sHp h_) (o0_ : bpat h_ 338 10 = some (.int v310)) (c0_ : v1_ = (110 : Int32)) (c1_ : ¬ v1_ = (115 : Int32)) (c2_ : ¬ v1_ = (105 : Int32)) (c3_ : v310 = (0 : Int32)) : ∃ h', ysm h_ h' ∧ (((∀ a_ j_ : Nat, bpat h' a_ j_ = bpat h_ a_ j_) ∧ (∀ D_, 60 ≤ D_ → xrun D_ 174 0 [(0, .index 338), (1, .int v1_)] [] h_ (some (.int (1 : Int32)), h', [])))) := by
  have hA : yas mnm02_A (mnm02_r v1_ v310) (yg mnm02_s) := ⟨fun q_ hq => absurd hq List.not_mem_nil, fun q_ hq => absurd hq List.not_mem_nil, fun q_ hq => absurd hq List.not_mem_nil, fun n_ hn => yg_lo hn, fun q_ hq => absurd hq List.not_mem_nil⟩
  have Hs : ysh mnm02_A.1 (yg mnm02_s) h_ := ysh_of2 hs (fun q_ hq => absurd hq List.not_mem_nil)
  have Ho : ymem (mnm02_r v1_ v310) (yg mnm02_s) mnm02_O h_ := List.forall_mem_cons.mpr ⟨bpat_some o0_, fun q_ hq => absurd hq List.not_mem_nil⟩
  have HC : ∀ q_ ∈ mnm02_C, xhold (mnm02_r v1_ v310) q_ := List.forall_mem_cons.mpr ⟨xh_eqT2 c0_, List.forall_mem_cons.mpr ⟨xh_eqF2 c1_, List.forall_mem_cons.mpr ⟨xh_eqF2 c2_, List.forall_mem_cons.mpr ⟨xh_eqT2 c3_, fun q_ hq => absurd hq List.not_mem_nil⟩⟩⟩⟩
  rcases yrun (yis_ok mnm02_k) hA Hs Ho HC with ⟨q_, hq, h', K_, G_⟩ | ⟨q_, hq, h', K_, G_⟩
  · cases hq
  · have e_ := List.mem_singleton.mp hq
    subst e_
    exact ⟨h', yfr_sm K_.2.2.2 hs K_.1 (ywa_r mnm02_w List.mem_cons_self), ⟨fun a_ j_ => yfr_bp K_.2.2.2 (fun q_ hq => absurd hq List.not_mem_nil), G_⟩⟩
-- mnm03: 18 steps, 0 ends, 1 returns
def mnm03_L : List (Nat × Nat × Nat) := []
def mnm03_O : yO := [(338, .int 10, .arg 310)]
def mnm03_A : yA := (yZ mnm03_L, [], [], [], [])
def mnm03_C : List xB := [(.eq, .arg 1, .int 109, true), (.eq, .arg 1, .int 115, false), (.eq, .arg 1, .int 105, false), (.eq, .arg 1, .int 110, false), (.eq, .arg 310, .int 0, true)]
def mnm03_ss : List yS := []
def mnm03_rs : List yR := [(some (.int 1), [(338, .int 10, .arg 310)], [(.eq, .arg 1, .int 109, true), (.eq, .arg 1, .int 115, false), (.eq, .arg 1, .int 105, false), (.eq, .arg 1, .int 110, false), (.eq, .arg 310, .int 0, true)], [])]
theorem mnm03_w : ywa mnm03_A mnm03_ss mnm03_rs = true := by decide +kernel
theorem mnm03_k : yis (yev mnm03_A 3000 60 174 [] (0, [(0, .index 338), (1, .arg 1)], [], mnm03_O, mnm03_C, [])) mnm03_ss mnm03_rs = true := by decide +kernel
def mnm03_r (v1_ v310 : Int32) (k_ : Nat) : Value := bif Nat.beq k_ 1 then .int v1_ else (bif Nat.beq k_ 310 then .int v310 else (.int 0))
def mnm03_s (n_ : Nat) : Nat := 0
theorem mnm03 {h_ : xH} {v1_ v310 : Int32} (hs : sHp h_) (o0_ : bpat h_ 338 10 = some (.int v310)) (c0_ : v1_ = (109 : Int32)) (c1_ : ¬ v1_ = (115 : Int32)) (c2_ : ¬ v1_ = (105 : Int32)) (c3_ : ¬ v1_ = (110 : Int32)) (c4_ : v310 = (0 : Int32)) : ∃ h', ysm h_ h' ∧ (((∀ a_ j_ : Nat, bpat h' a_ j_ = bpat h_ a_ j_) ∧ (∀ D_, 60 ≤ D_ → xrun D_ 174 0 [(0, .index 338), (1, .int v1_)] [] h_ (some (.int (1 : Int32)), h', [])))) := by
  have hA : yas mnm03_A (mnm03_r v1_ v310) (yg mnm03_s) := ⟨fun q_ hq => absurd hq List.not_mem_nil, fun q_ hq => absurd hq List.not_mem_nil, fun q_ hq => absurd hq List.not_mem_nil, fun n_ hn => yg_lo hn, fun q_ hq => absurd hq List.not_mem_nil⟩
  have Hs : ysh mnm03_A.1 (yg mnm03_s) h_ := ysh_of2 hs (fun q_ hq => absurd hq List.not_mem_nil)
  have Ho : ymem (mnm03_r v1_ v310) (yg mnm03_s) mnm03_O h_ := List.forall_mem_cons.mpr ⟨bpat_some o0_, fun q_ hq => absurd hq List.not_mem_nil⟩
  have HC : ∀ q_ ∈ mnm03_C, xhold (mnm03_r v1_ v310) q_ := List.forall_mem_cons.mpr ⟨xh_eqT2 c0_, List.forall_mem_cons.mpr ⟨xh_eqF2 c1_, List.forall_mem_cons.mpr ⟨xh_eqF2 c2_, List.forall_mem_cons.mpr ⟨xh_eqF2 c3_, List.forall_mem_cons.mpr ⟨xh_eqT2 c4_, fun q_ hq => absurd hq List.not_mem_nil⟩⟩⟩⟩⟩
  rcases yrun (yis_ok mnm03_k) hA Hs Ho HC with ⟨q_, hq, h', K_, G_⟩ | ⟨q_, hq, h', K_, G_⟩
  · cases hq
  · have e_ := List.mem_singleton.mp hq
    subst e_
    exact ⟨h', yfr_sm K_.2.2.2 hs K_.1 (ywa_r mnm03_w List.mem_cons_self), ⟨fun a_ j_ => yfr_bp K_.2.2.2 (fun q_ hq => absurd hq List.not_mem_nil), G_⟩⟩
-- mnm04: 18 steps, 0 ends, 1 returns
def mnm04_L : List (Nat × Nat × Nat) := []
def mnm04_O : yO := [(338, .int 10, .arg 310)]
def mnm04_A : yA := (yZ mnm04_L, [], [], [], [])
def mnm04_C : List xB := [(.eq, .arg 1, .int 115, false), (.eq, .arg 1, .int 105, false), (.eq, .arg 1, .int 110, false), (.eq, .arg 1, .int 109, false), (.eq, .arg 310, .int 0, true)]
def mnm04_ss : List yS := []
def mnm04_rs : List yR := [(some (.int 0), [(338, .int 10, .arg 310)], [(.eq, .arg 1, .int 115, false), (.eq, .arg 1, .int 105, false), (.eq, .arg 1, .int 110, false), (.eq, .arg 1, .int 109, false), (.eq, .arg 310, .int 0, true)], [])]
theorem mnm04_w : ywa mnm04_A mnm04_ss mnm04_rs = true := by decide +kernel
theorem mnm04_k : yis (yev mnm04_A 3000 60 174 [] (0, [(0, .index 338), (1, .arg 1)], [], mnm04_O, mnm04_C, [])) mnm04_ss mnm04_rs = true := by decide +kernel
def mnm04_r (v1_ v310 : Int32) (k_ : Nat) : Value := bif Nat.beq k_ 1 then .int v1_ else (bif Nat.beq k_ 310 then .int v310 else (.int 0))
def mnm04_s (n_ : Nat) : Nat := 0
theorem mnm04 {h_ : xH} {v1_ v310 : Int32} (hs : sHp h_) (o0_ : bpat h_ 338 10 = some (.int v310)) (c0_ : ¬ v1_ = (115 : Int32)) (c1_ : ¬ v1_ = (105 : Int32)) (c2_ : ¬ v1_ = (110 : Int32)) (c3_ : ¬ v1_ = (109 : Int32)) (c4_ : v310 = (0 : Int32)) : ∃ h', ysm h_ h' ∧ (((∀ a_ j_ : Nat, bpat h' a_ j_ = bpat h_ a_ j_) ∧ (∀ D_, 60 ≤ D_ → xrun D_ 174 0 [(0, .index 338), (1, .int v1_)] [] h_ (some (.int (0 : Int32)), h', [])))) := by
  have hA : yas mnm04_A (mnm04_r v1_ v310) (yg mnm04_s) := ⟨fun q_ hq => absurd hq List.not_mem_nil, fun q_ hq => absurd hq List.not_mem_nil, fun q_ hq => absurd hq List.not_mem_nil, fun n_ hn => yg_lo hn, fun q_ hq => absurd hq List.not_mem_nil⟩
  have Hs : ysh mnm04_A.1 (yg mnm04_s) h_ := ysh_of2 hs (fun q_ hq => absurd hq List.not_mem_nil)
  have Ho : ymem (mnm04_r v1_ v310) (yg mnm04_s) mnm04_O h_ := List.forall_mem_cons.mpr ⟨bpat_some o0_, fun q_ hq => absurd hq List.not_mem_nil⟩
  have HC : ∀ q_ ∈ mnm04_C, xhold (mnm04_r v1_ v310) q_ := List.forall_mem_cons.mpr ⟨xh_eqF2 c0_, List.forall_mem_cons.mpr ⟨xh_eqF2 c1_, List.forall_mem_cons.mpr ⟨xh_eqF2 c2_, List.forall_mem_cons.mpr ⟨xh_eqF2 c3_, List.forall_mem_cons.mpr ⟨xh_eqT2 c4_, fun q_ hq => absurd hq List.not_mem_nil⟩⟩⟩⟩⟩
  rcases yrun (yis_ok mnm04_k) hA Hs Ho HC with ⟨q_, hq, h', K_, G_⟩ | ⟨q_, hq, h', K_, G_⟩
  · cases hq
  · have e_ := List.mem_singleton.mp hq
    subst e_
    exact ⟨h', yfr_sm K_.2.2.2 hs K_.1 (ywa_r mnm04_w List.mem_cons_self), ⟨fun a_ j_ => yfr_bp K_.2.2.2 (fun q_ hq => absurd hq List.not_mem_nil), G_⟩⟩
-- mnm10: 9 steps, 0 ends, 1 returns
def mnm10_L : List (Nat × Nat × Nat) := []
def mnm10_O : yO := [(338, .int 10, .arg 310)]
def mnm10_A : yA := (yZ mnm10_L, [], [], [], [])
def mnm10_C : List xB := [(.eq, .arg 1, .int 111, true), (.eq, .arg 310, .int 0, false)]
def mnm10_ss : List yS := []
def mnm10_rs : List yR := [(some (.int 1), [(338, .int 10, .arg 310)], [(.eq, .arg 1, .int 111, true), (.eq, .arg 310, .int 0, false)], [])]
theorem mnm10_w : ywa mnm10_A mnm10_ss mnm10_rs = true := by decide +kernel
theorem mnm10_k : yis (yev mnm10_A 3000 60 174 [] (0, [(0, .index 338), (1, .arg 1)], [], mnm10_O, mnm10_C, [])) mnm10_ss mnm10_rs = true := by decide +kernel
def mnm10_r (v1_ v310 : Int32) (k_ : Nat) : Value := bif Nat.beq k_ 1 then .int v1_ else (bif Nat.beq k_ 310 then .int v310 else (.int 0))
def mnm10_s (n_ : Nat) : Nat := 0
theorem mnm10 {h_ : xH} {v1_ v310 : Int32} (hs : sHp h_) (o0_ : bpat h_ 338 10 = some (.int v310)) (c0_ : v1_ = (111 : Int32)) (c1_ : ¬ v310 = (0 : Int32)) : ∃ h', ysm h_ h' ∧ (((∀ a_ j_ : Nat, bpat h' a_ j_ = bpat h_ a_ j_) ∧ (∀ D_, 60 ≤ D_ → xrun D_ 174 0 [(0, .index 338), (1, .int v1_)] [] h_ (some (.int (1 : Int32)), h', [])))) := by
  have hA : yas mnm10_A (mnm10_r v1_ v310) (yg mnm10_s) := ⟨fun q_ hq => absurd hq List.not_mem_nil, fun q_ hq => absurd hq List.not_mem_nil, fun q_ hq => absurd hq List.not_mem_nil, fun n_ hn => yg_lo hn, fun q_ hq => absurd hq List.not_mem_nil⟩
  have Hs : ysh mnm10_A.1 (yg mnm10_s) h_ := ysh_of2 hs (fun q_ hq => absurd hq List.not_mem_nil)
  have Ho : ymem (mnm10_r v1_ v310) (yg mnm10_s) mnm10_O h_ := List.forall_mem_cons.mpr ⟨bpat_some o0_, fun q_ hq => absurd hq List.not_mem_nil⟩
  have HC : ∀ q_ ∈ mnm10_C, xhold (mnm10_r v1_ v310) q_ := List.forall_mem_cons.mpr ⟨xh_eqT2 c0_, List.forall_mem_cons.mpr ⟨xh_eqF2 c1_, fun q_ hq => absurd hq List.not_mem_nil⟩⟩
  rcases yrun (yis_ok mnm10_k) hA Hs Ho HC with ⟨q_, hq, h', K_, G_⟩ | ⟨q_, hq, h', K_, G_⟩
  · cases hq
  · have e_ := List.mem_singleton.mp hq
    subst e_
    exact ⟨h', yfr_sm K_.2.2.2 hs K_.1 (ywa_r mnm10_w List.mem_cons_self), ⟨fun a_ j_ => yfr_bp K_.2.2.2 (fun q_ hq => absurd hq List.not_mem_nil), G_⟩⟩
-- mnm11: 12 steps, 0 ends, 1 returns
def mnm11_L : List (Nat × Nat × Nat) := []
def mnm11_O : yO := [(338, .int 10, .arg 310)]
def mnm11_A : yA := (yZ mnm11_L, [], [], [], [])
def mnm11_C : List xB := [(.eq, .arg 1, .int 104, true), (.eq, .arg 1, .int 111, false), (.eq, .arg 310, .int 0, false)]
def mnm11_ss : List yS := []
def mnm11_rs : List yR := [(some (.int 1), [(338, .int 10, .arg 310)], [(.eq, .arg 1, .int 104, true), (.eq, .arg 1, .int 111, false), (.eq, .arg 310, .int 0, false)], [])]
theorem mnm11_w : ywa mnm11_A mnm11_ss mnm11_rs = true := by decide +kernel
theorem mnm11_k : yis (yev mnm11_A 3000 60 174 [] (0, [(0, .index 338), (1, .arg 1)], [], mnm11_O, mnm11_C, [])) mnm11_ss mnm11_rs = true := by decide +kernel
def mnm11_r (v1_ v310 : Int32) (k_ : Nat) : Value := bif Nat.beq k_ 1 then .int v1_ else (bif Nat.beq k_ 310 then .int v310 else (.int 0))
def mnm11_s (n_ : Nat) : Nat := 0
theorem mnm11 {h_ : xH} {v1_ v310 : Int32} (hs : sHp h_) (o0_ : bpat h_ 338 10 = some (.int v310)) (c0_ : v1_ = (104 : Int32)) (c1_ : ¬ v1_ = (111 : Int32)) (c2_ : ¬ v310 = (0 : Int32)) : ∃ h', ysm h_ h' ∧ (((∀ a_ j_ : Nat, bpat h' a_ j_ = bpat h_ a_ j_) ∧ (∀ D_, 60 ≤ D_ → xrun D_ 174 0 [(0, .index 338), (1, .int v1_)] [] h_ (some (.int (1 : Int32)), h', [])))) := by
  have hA : yas mnm11_A (mnm11_r v1_ v310) (yg mnm11_s) := ⟨fun q_ hq => absurd hq List.not_mem_nil, fun q_ hq => absurd hq List.not_mem_nil, fun q_ hq => absurd hq List.not_mem_nil, fun n_ hn => yg_lo hn, fun q_ hq => absurd hq List.not_mem_nil⟩
  have Hs : ysh mnm11_A.1 (yg mnm11_s) h_ := ysh_of2 hs (fun q_ hq => absurd hq List.not_mem_nil)
  have Ho : ymem (mnm11_r v1_ v310) (yg mnm11_s) mnm11_O h_ := List.forall_mem_cons.mpr ⟨bpat_some o0_, fun q_ hq => absurd hq List.not_mem_nil⟩
  have HC : ∀ q_ ∈ mnm11_C, xhold (mnm11_r v1_ v310) q_ := List.forall_mem_cons.mpr ⟨xh_eqT2 c0_, List.forall_mem_cons.mpr ⟨xh_eqF2 c1_, List.forall_mem_cons.mpr ⟨xh_eqF2 c2_, fun q_ hq => absurd hq List.not_mem_nil⟩⟩⟩
  rcases yrun (yis_ok mnm11_k) hA Hs Ho HC with ⟨q_, hq, h', K_, G_⟩ | ⟨q_, hq, h', K_, G_⟩
  · cases hq
  · have e_ := List.mem_singleton.mp hq
    subst e_
    exact ⟨h', yfr_sm K_.2.2.2 hs K_.1 (ywa_r mnm11_w List.mem_cons_self), ⟨fun a_ j_ => yfr_bp K_.2.2.2 (fun q_ hq => absurd hq List.not_mem_nil), G_⟩⟩
-- mnm12: 15 steps, 0 ends, 1 returns
def mnm12_L : List (Nat × Nat × Nat) := []
def mnm12_O : yO := [(338, .int 10, .arg 310)]
def mnm12_A : yA := (yZ mnm12_L, [], [], [], [])
def mnm12_C : List xB := [(.eq, .arg 1, .int 98, true), (.eq, .arg 1, .int 111, false), (.eq, .arg 1, .int 104, false), (.eq, .arg 310, .int 0, false)]
def mnm12_ss : List yS := []
def mnm12_rs : List yR := [(some (.int 1), [(338, .int 10, .arg 310)], [(.eq, .arg 1, .int 98, true), (.eq, .arg 1, .int 111, false), (.eq, .arg 1, .int 104, false), (.eq, .arg 310, .int 0, false)], [])]
theorem mnm12_w : ywa mnm12_A mnm12_ss mnm12_rs = true := by decide +kernel
theorem mnm12_k : yis (yev mnm12_A 3000 60 174 [] (0, [(0, .index 338), (1, .arg 1)], [], mnm12_O, mnm12_C, [])) mnm12_ss mnm12_rs = true := by decide +kernel
def mnm12_r (v1_ v310 : Int32) (k_ : Nat) : Value := bif Nat.beq k_ 1 then .int v1_ else (bif Nat.beq k_ 310 then .int v310 else (.int 0))
def mnm12_s (n_ : Nat) : Nat := 0
theorem mnm12 {h_ : xH} {v1_ v310 : Int32} (hs : sHp h_) (o0_ : bpat h_ 338 10 = some (.int v310)) (c0_ : v1_ = (98 : Int32)) (c1_ : ¬ v1_ = (111 : Int32)) (c2_ : ¬ v1_ = (104 : Int32)) (c3_ : ¬ v310 = (0 : Int32)) : ∃ h', ysm h_ h' ∧ (((∀ a_ j_ : Nat, bpat h' a_ j_ = bpat h_ a_ j_) ∧ (∀ D_, 60 ≤ D_ → xrun D_ 174 0 [(0, .index 338), (1, .int v1_)] [] h_ (some (.int (1 : Int32)), h', [])))) := by
  have hA : yas mnm12_A (mnm12_r v1_ v310) (yg mnm12_s) := ⟨fun q_ hq => absurd hq List.not_mem_nil, fun q_ hq => absurd hq List.not_mem_nil, fun q_ hq => absurd hq List.not_mem_nil, fun n_ hn => yg_lo hn, fun q_ hq => absurd hq List.not_mem_nil⟩
  have Hs : ysh mnm12_A.1 (yg mnm12_s) h_ := ysh_of2 hs (fun q_ hq => absurd hq List.not_mem_nil)
  have Ho : ymem (mnm12_r v1_ v310) (yg mnm12_s) mnm12_O h_ := List.forall_mem_cons.mpr ⟨bpat_some o0_, fun q_ hq => absurd hq List.not_mem_nil⟩
  have HC : ∀ q_ ∈ mnm12_C, xhold (mnm12_r v1_ v310) q_ := List.forall_mem_cons.mpr ⟨xh_eqT2 c0_, List.forall_mem_cons.mpr ⟨xh_eqF2 c1_, List.forall_mem_cons.mpr ⟨xh_eqF2 c2_, List.forall_mem_cons.mpr ⟨xh_eqF2 c3_, fun q_ hq => absurd hq List.not_mem_nil⟩⟩⟩⟩
  rcases yrun (yis_ok mnm12_k) hA Hs Ho HC with ⟨q_, hq, h', K_, G_⟩ | ⟨q_, hq, h', K_, G_⟩
  · cases hq
  · have e_ := List.mem_singleton.mp hq
    subst e_
    exact ⟨h', yfr_sm K_.2.2.2 hs K_.1 (ywa_r mnm12_w List.mem_cons_self), ⟨fun a_ j_ => yfr_bp K_.2.2.2 (fun q_ hq => absurd hq List.not_mem_nil), G_⟩⟩
-- mnm13: 18 steps, 0 ends, 1 returns
def mnm13_L : List (Nat × Nat × Nat) := []
def mnm13_O : yO := [(338, .int 10, .arg 310)]
def mnm13_A : yA := (yZ mnm13_L, [], [], [], [])
def mnm13_C : List xB := [(.eq, .arg 1, .int 116, true), (.eq, .arg 1, .int 111, false), (.eq, .arg 1, .int 104, false), (.eq, .arg 1, .int 98, false), (.eq, .arg 310, .int 0, false)]
def mnm13_ss : List yS := []
def mnm13_rs : List yR := [(some (.int 1), [(338, .int 10, .arg 310)], [(.eq, .arg 1, .int 116, true), (.eq, .arg 1, .int 111, false), (.eq, .arg 1, .int 104, false), (.eq, .arg 1, .int 98, false), (.eq, .arg 310, .int 0, false)], [])]
theorem mnm13_w : ywa mnm13_A mnm13_ss mnm13_rs = true := by decide +kernel
theorem mnm13_k : yis (yev mnm13_A 3000 60 174 [] (0, [(0, .index 338), (1, .arg 1)], [], mnm13_O, mnm13_C, [])) mnm13_ss mnm13_rs = true := by decide +kernel
def mnm13_r (v1_ v310 : Int32) (k_ : Nat) : Value := bif Nat.beq k_ 1 then .int v1_ else (bif Nat.beq k_ 310 then .int v310 else (.int 0))
def mnm13_s (n_ : Nat) : Nat := 0
theorem mnm13 {h_ : xH} {v1_ v310 : Int32} (hs : sHp h_) (o0_ : bpat h_ 338 10 = some (.int v310)) (c0_ : v1_ = (116 : Int32)) (c1_ : ¬ v1_ = (111 : Int32)) (c2_ : ¬ v1_ = (104 : Int32)) (c3_ : ¬ v1_ = (98 : Int32)) (c4_ : ¬ v310 = (0 : Int32)) : ∃ h', ysm h_ h' ∧ (((∀ a_ j_ : Nat, bpat h' a_ j_ = bpat h_ a_ j_) ∧ (∀ D_, 60 ≤ D_ → xrun D_ 174 0 [(0, .index 338), (1, .int v1_)] [] h_ (some (.int (1 : Int32)), h', [])))) := by
  have hA : yas mnm13_A (mnm13_r v1_ v310) (yg mnm13_s) := ⟨fun q_ hq => absurd hq List.not_mem_nil, fun q_ hq => absurd hq List.not_mem_nil, fun q_ hq => absurd hq List.not_mem_nil, fun n_ hn => yg_lo hn, fun q_ hq => absurd hq List.not_mem_nil⟩
  have Hs : ysh mnm13_A.1 (yg mnm13_s) h_ := ysh_of2 hs (fun q_ hq => absurd hq List.not_mem_nil)
  have Ho : ymem (mnm13_r v1_ v310) (yg mnm13_s) mnm13_O h_ := List.forall_mem_cons.mpr ⟨bpat_some o0_, fun q_ hq => absurd hq List.not_mem_nil⟩
  have HC : ∀ q_ ∈ mnm13_C, xhold (mnm13_r v1_ v310) q_ := List.forall_mem_cons.mpr ⟨xh_eqT2 c0_, List.forall_mem_cons.mpr ⟨xh_eqF2 c1_, List.forall_mem_cons.mpr ⟨xh_eqF2 c2_, List.forall_mem_cons.mpr ⟨xh_eqF2 c3_, List.forall_mem_cons.mpr ⟨xh_eqF2 c4_, fun q_ hq => absurd hq List.not_mem_nil⟩⟩⟩⟩⟩
  rcases yrun (yis_ok mnm13_k) hA Hs Ho HC with ⟨q_, hq, h', K_, G_⟩ | ⟨q_, hq, h', K_, G_⟩
  · cases hq
  · have e_ := List.mem_singleton.mp hq
    subst e_
    exact ⟨h', yfr_sm K_.2.2.2 hs K_.1 (ywa_r mnm13_w List.mem_cons_self), ⟨fun a_ j_ => yfr_bp K_.2.2.2 (fun q_ hq => absurd hq List.not_mem_nil), G_⟩⟩
-- mnm14: 17 steps, 0 ends, 1 returns
def mnm14_L : List (Nat × Nat × Nat) := []
def mnm14_O : yO := [(338, .int 10, .arg 310)]
def mnm14_A : yA := (yZ mnm14_L, [], [], [], [])
def mnm14_C : List xB := [(.eq, .arg 1, .int 111, false), (.eq, .arg 1, .int 104, false), (.eq, .arg 1, .int 98, false), (.eq, .arg 1, .int 116, false), (.eq, .arg 310, .int 0, false)]
def mnm14_ss : List yS := []
def mnm14_rs : List yR := [(some (.int 0), [(338, .int 10, .arg 310)], [(.eq, .arg 1, .int 111, false), (.eq, .arg 1, .int 104, false), (.eq, .arg 1, .int 98, false), (.eq, .arg 1, .int 116, false), (.eq, .arg 310, .int 0, false)], [])]
theorem mnm14_w : ywa mnm14_A mnm14_ss mnm14_rs = true := by decide +kernel
theorem mnm14_k : yis (yev mnm14_A 3000 60 174 [] (0, [(0, .index 338), (1, .arg 1)], [], mnm14_O, mnm14_C, [])) mnm14_ss mnm14_rs = true := by decide +kernel
def mnm14_r (v1_ v310 : Int32) (k_ : Nat) : Value := bif Nat.beq k_ 1 then .int v1_ else (bif Nat.beq k_ 310 then .int v310 else (.int 0))
def mnm14_s (n_ : Nat) : Nat := 0
theorem mnm14 {h_ : xH} {v1_ v310 : Int32} (hs : sHp h_) (o0_ : bpat h_ 338 10 = some (.int v310)) (c0_ : ¬ v1_ = (111 : Int32)) (c1_ : ¬ v1_ = (104 : Int32)) (c2_ : ¬ v1_ = (98 : Int32)) (c3_ : ¬ v1_ = (116 : Int32)) (c4_ : ¬ v310 = (0 : Int32)) : ∃ h', ysm h_ h' ∧ (((∀ a_ j_ : Nat, bpat h' a_ j_ = bpat h_ a_ j_) ∧ (∀ D_, 60 ≤ D_ → xrun D_ 174 0 [(0, .index 338), (1, .int v1_)] [] h_ (some (.int (0 : Int32)), h', [])))) := by
  have hA : yas mnm14_A (mnm14_r v1_ v310) (yg mnm14_s) := ⟨fun q_ hq => absurd hq List.not_mem_nil, fun q_ hq => absurd hq List.not_mem_nil, fun q_ hq => absurd hq List.not_mem_nil, fun n_ hn => yg_lo hn, fun q_ hq => absurd hq List.not_mem_nil⟩
  have Hs : ysh mnm14_A.1 (yg mnm14_s) h_ := ysh_of2 hs (fun q_ hq => absurd hq List.not_mem_nil)
  have Ho : ymem (mnm14_r v1_ v310) (yg mnm14_s) mnm14_O h_ := List.forall_mem_cons.mpr ⟨bpat_some o0_, fun q_ hq => absurd hq List.not_mem_nil⟩
  have HC : ∀ q_ ∈ mnm14_C, xhold (mnm14_r v1_ v310) q_ := List.forall_mem_cons.mpr ⟨xh_eqF2 c0_, List.forall_mem_cons.mpr ⟨xh_eqF2 c1_, List.forall_mem_cons.mpr ⟨xh_eqF2 c2_, List.forall_mem_cons.mpr ⟨xh_eqF2 c3_, List.forall_mem_cons.mpr ⟨xh_eqF2 c4_, fun q_ hq => absurd hq List.not_mem_nil⟩⟩⟩⟩⟩
  rcases yrun (yis_ok mnm14_k) hA Hs Ho HC with ⟨q_, hq, h', K_, G_⟩ | ⟨q_, hq, h', K_, G_⟩
  · cases hq
  · have e_ := List.mem_singleton.mp hq
    subst e_
    exact ⟨h', yfr_sm K_.2.2.2 hs K_.1 (ywa_r mnm14_w List.mem_cons_self), ⟨fun a_ j_ => yfr_bp K_.2.2.2 (fun q_ hq => absurd hq List.not_mem_nil), G_⟩⟩
-- ml0a: 1 steps, 1 ends, 0 returns
def ml0a_L : List (Nat × Nat × Nat) := []
def ml0a_O : yO := []
def ml0a_A : yA := (yZ ml0a_L, [], [], [], [])
def ml0a_C : List xB := []
def ml0a_ss : List yS := [(1, [(0, .index 338)], [.index 338], [], [], [])]
def ml0a_rs : List yR := []
theorem ml0a_w : ywa ml0a_A ml0a_ss ml0a_rs = true := by decide +kernel
theorem ml0a_k : yis (yev ml0a_A 3000 60 176 [1] (0, [(0, .index 338)], [], ml0a_O, ml0a_C, [])) ml0a_ss ml0a_rs = true := by decide +kernel
def ml0a_r (k_ : Nat) : Value := .int 0
def ml0a_s (n_ : Nat) : Nat := 0
theorem ml0a {h_ : xH} (hs : sHp h_) : ∃ h', ysm h_ h' ∧ (((∀ a_ j_ : Nat, bpat h' a_ j_ = bpat h_ a_ j_) ∧ (bldD 60 176 0 [(0, .index 338)] [] h_ 1 [(0, .index 338)] [.index 338] h'))) := by
  have hA : yas ml0a_A ml0a_r (yg ml0a_s) := ⟨fun q_ hq => absurd hq List.not_mem_nil, fun q_ hq => absurd hq List.not_mem_nil, fun q_ hq => absurd hq List.not_mem_nil, fun n_ hn => yg_lo hn, fun q_ hq => absurd hq List.not_mem_nil⟩
  have Hs : ysh ml0a_A.1 (yg ml0a_s) h_ := ysh_of2 hs (fun q_ hq => absurd hq List.not_mem_nil)
  have Ho : ymem ml0a_r (yg ml0a_s) ml0a_O h_ := fun q_ hq => absurd hq List.not_mem_nil
  have HC : ∀ q_ ∈ ml0a_C, xhold ml0a_r q_ := fun q_ hq => absurd hq List.not_mem_nil
  rcases yrun (yis_ok ml0a_k) hA Hs Ho HC with ⟨q_, hq, h', K_, G_⟩ | ⟨q_, hq, h', K_, G_⟩
  · have e_ := List.mem_singleton.mp hq
    subst e_
    exact ⟨h', yfr_sm K_.2.2.2 hs K_.1 (ywa_s ml0a_w List.mem_cons_self), ⟨fun a_ j_ => yfr_bp K_.2.2.2 (fun q_ hq => absurd hq List.not_mem_nil), G_⟩⟩
  · cases hq
-- ml0f: 3 steps, 0 ends, 1 returns
def ml0f_L : List (Nat × Nat × Nat) := []
def ml0f_O : yO := []
def ml0f_A : yA := (yZ ml0f_L, [], [], [], [])
def ml0f_C : List xB := [(.eq, .arg 5, .int 0, true)]
def ml0f_ss : List yS := []
def ml0f_rs : List yR := [(some (.int 0), [], [(.eq, .arg 5, .int 0, true)], [])]
theorem ml0f_w : ywa ml0f_A ml0f_ss ml0f_rs = true := by decide +kernel
theorem ml0f_k : yis (yev ml0f_A 3000 60 176 [] (4, [(0, .index 338)], [.arg 5], ml0f_O, ml0f_C, [])) ml0f_ss ml0f_rs = true := by decide +kernel
def ml0f_r (v5 : Int32) (k_ : Nat) : Value := bif Nat.beq k_ 5 then .int v5 else (.int 0)
def ml0f_s (n_ : Nat) : Nat := 0
theorem ml0f {h_ : xH} {v5 : Int32} (hs : sHp h_) (c0_ : v5 = (0 : Int32)) : ∃ h', ysm h_ h' ∧ (((∀ a_ j_ : Nat, bpat h' a_ j_ = bpat h_ a_ j_) ∧ (∀ D_, 60 ≤ D_ → xrun D_ 176 4 [(0, .index 338)] [.int v5] h_ (some (.int (0 : Int32)), h', [])))) := by
  have hA : yas ml0f_A (ml0f_r v5) (yg ml0f_s) := ⟨fun q_ hq => absurd hq List.not_mem_nil, fun q_ hq => absurd hq List.not_mem_nil, fun q_ hq => absurd hq List.not_mem_nil, fun n_ hn => yg_lo hn, fun q_ hq => absurd hq List.not_mem_nil⟩
  have Hs : ysh ml0f_A.1 (yg ml0f_s) h_ := ysh_of2 hs (fun q_ hq => absurd hq List.not_mem_nil)
  have Ho : ymem (ml0f_r v5) (yg ml0f_s) ml0f_O h_ := fun q_ hq => absurd hq List.not_mem_nil
  have HC : ∀ q_ ∈ ml0f_C, xhold (ml0f_r v5) q_ := List.forall_mem_cons.mpr ⟨xh_eqT2 c0_, fun q_ hq => absurd hq List.not_mem_nil⟩
  rcases yrun (yis_ok ml0f_k) hA Hs Ho HC with ⟨q_, hq, h', K_, G_⟩ | ⟨q_, hq, h', K_, G_⟩
  · cases hq
  · have e_ := List.mem_singleton.mp hq
    subst e_
    exact ⟨h', yfr_sm K_.2.2.2 hs K_.1 (ywa_r ml0f_w List.mem_cons_self), ⟨fun a_ j_ => yfr_bp K_.2.2.2 (fun q_ hq => absurd hq List.not_mem_nil), G_⟩⟩
-- ml0t: 1 steps, 1 ends, 0 returns
def ml0t_L : List (Nat × Nat × Nat) := []
def ml0t_O : yO := []
def ml0t_A : yA := (yZ ml0t_L, [], [], [], [])
def ml0t_C : List xB := [(.eq, .arg 5, .int 0, false)]
def ml0t_ss : List yS := [(9, [(0, .index 338)], [], [], [(.eq, .arg 5, .int 0, false)], [])]
def ml0t_rs : List yR := []
theorem ml0t_w : ywa ml0t_A ml0t_ss ml0t_rs = true := by decide +kernel
theorem ml0t_k : yis (yev ml0t_A 3000 60 176 [9] (4, [(0, .index 338)], [.arg 5], ml0t_O, ml0t_C, [])) ml0t_ss ml0t_rs = true := by decide +kernel
def ml0t_r (v5 : Int32) (k_ : Nat) : Value := bif Nat.beq k_ 5 then .int v5 else (.int 0)
def ml0t_s (n_ : Nat) : Nat := 0
theorem ml0t {h_ : xH} {v5 : Int32} (hs : sHp h_) (c0_ : ¬ v5 = (0 : Int32)) : ∃ h', ysm h_ h' ∧ (((∀ a_ j_ : Nat, bpat h' a_ j_ = bpat h_ a_ j_) ∧ (bldD 60 176 4 [(0, .index 338)] [.int v5] h_ 9 [(0, .index 338)] [] h'))) := by
  have hA : yas ml0t_A (ml0t_r v5) (yg ml0t_s) := ⟨fun q_ hq => absurd hq List.not_mem_nil, fun q_ hq => absurd hq List.not_mem_nil, fun q_ hq => absurd hq List.not_mem_nil, fun n_ hn => yg_lo hn, fun q_ hq => absurd hq List.not_mem_nil⟩
  have Hs : ysh ml0t_A.1 (yg ml0t_s) h_ := ysh_of2 hs (fun q_ hq => absurd hq List.not_mem_nil)
  have Ho : ymem (ml0t_r v5) (yg ml0t_s) ml0t_O h_ := fun q_ hq => absurd hq List.not_mem_nil
  have HC : ∀ q_ ∈ ml0t_C, xhold (ml0t_r v5) q_ := List.forall_mem_cons.mpr ⟨xh_eqF2 c0_, fun q_ hq => absurd hq List.not_mem_nil⟩
  rcases yrun (yis_ok ml0t_k) hA Hs Ho HC with ⟨q_, hq, h', K_, G_⟩ | ⟨q_, hq, h', K_, G_⟩
  · have e_ := List.mem_singleton.mp hq
    subst e_
    exact ⟨h', yfr_sm K_.2.2.2 hs K_.1 (ywa_s ml0t_w List.mem_cons_self), ⟨fun a_ j_ => yfr_bp K_.2.2.2 (fun q_ hq => absurd hq List.not_mem_nil), G_⟩⟩
  · cases hq
-- ml1a: 1 steps, 1 ends, 0 returns
def ml1a_L : List (Nat × Nat × Nat) := []
def ml1a_O : yO := []
def ml1a_A : yA := (yZ ml1a_L, [], [], [], [])
def ml1a_C : List xB := []
def ml1a_ss : List yS := [(1, [(0, .index 338)], [.index 338], [], [], [])]
def ml1a_rs : List yR := []
theorem ml1a_w : ywa ml1a_A ml1a_ss ml1a_rs = true := by decide +kernel
theorem ml1a_k : yis (yev ml1a_A 3000 60 177 [1] (0, [(0, .index 338)], [], ml1a_O, ml1a_C, [])) ml1a_ss ml1a_rs = true := by decide +kernel
def ml1a_r (k_ : Nat) : Value := .int 0
def ml1a_s (n_ : Nat) : Nat := 0
theorem ml1a {h_ : xH} (hs : sHp h_) : ∃ h', ysm h_ h' ∧ (((∀ a_ j_ : Nat, bpat h' a_ j_ = bpat h_ a_ j_) ∧ (bldD 60 177 0 [(0, .index 338)] [] h_ 1 [(0, .index 338)] [.index 338] h'))) := by
  have hA : yas ml1a_A ml1a_r (yg ml1a_s) := ⟨fun q_ hq => absurd hq List.not_mem_nil, fun q_ hq => absurd hq List.not_mem_nil, fun q_ hq => absurd hq List.not_mem_nil, fun n_ hn => yg_lo hn, fun q_ hq => absurd hq List.not_mem_nil⟩
  have Hs : ysh ml1a_A.1 (yg ml1a_s) h_ := ysh_of2 hs (fun q_ hq => absurd hq List.not_mem_nil)
  have Ho : ymem ml1a_r (yg ml1a_s) ml1a_O h_ := fun q_ hq => absurd hq List.not_mem_nil
  have HC : ∀ q_ ∈ ml1a_C, xhold ml1a_r q_ := fun q_ hq => absurd hq List.not_mem_nil
  rcases yrun (yis_ok ml1a_k) hA Hs Ho HC with ⟨q_, hq, h', K_, G_⟩ | ⟨q_, hq, h', K_, G_⟩
  · have e_ := List.mem_singleton.mp hq
    subst e_
    exact ⟨h', yfr_sm K_.2.2.2 hs K_.1 (ywa_s ml1a_w List.mem_cons_self), ⟨fun a_ j_ => yfr_bp K_.2.2.2 (fun q_ hq => absurd hq List.not_mem_nil), G_⟩⟩
  · cases hq
-- ml1f: 3 steps, 0 ends, 1 returns
def ml1f_L : List (Nat × Nat × Nat) := []
def ml1f_O : yO := []
def ml1f_A : yA := (yZ ml1f_L, [], [], [], [])
def ml1f_C : List xB := [(.eq, .arg 5, .int 0, true)]
def ml1f_ss : List yS := []
def ml1f_rs : List yR := [(some (.int 0), [], [(.eq, .arg 5, .int 0, true)], [])]
theorem ml1f_w : ywa ml1f_A ml1f_ss ml1f_rs = true := by decide +kernel
theorem ml1f_k : yis (yev ml1f_A 3000 60 177 [] (4, [(0, .index 338)], [.arg 5], ml1f_O, ml1f_C, [])) ml1f_ss ml1f_rs = true := by decide +kernel
def ml1f_r (v5 : Int32) (k_ : Nat) : Value := bif Nat.beq k_ 5 then .int v5 else (.int 0)
def ml1f_s (n_ : Nat) : Nat := 0
theorem ml1f {h_ : xH} {v5 : Int32} (hs : sHp h_) (c0_ : v5 = (0 : Int32)) : ∃ h', ysm h_ h' ∧ (((∀ a_ j_ : Nat, bpat h' a_ j_ = bpat h_ a_ j_) ∧ (∀ D_, 60 ≤ D_ → xrun D_ 177 4 [(0, .index 338)] [.int v5] h_ (some (.int (0 : Int32)), h', [])))) := by
  have hA : yas ml1f_A (ml1f_r v5) (yg ml1f_s) := ⟨fun q_ hq => absurd hq List.not_mem_nil, fun q_ hq => absurd hq List.not_mem_nil, fun q_ hq => absurd hq List.not_mem_nil, fun n_ hn => yg_lo hn, fun q_ hq => absurd hq List.not_mem_nil⟩
  have Hs : ysh ml1f_A.1 (yg ml1f_s) h_ := ysh_of2 hs (fun q_ hq => absurd hq List.not_mem_nil)
  have Ho : ymem (ml1f_r v5) (yg ml1f_s) ml1f_O h_ := fun q_ hq => absurd hq List.not_mem_nil
  have HC : ∀ q_ ∈ ml1f_C, xhold (ml1f_r v5) q_ := List.forall_mem_cons.mpr ⟨xh_eqT2 c0_, fun q_ hq => absurd hq List.not_mem_nil⟩
  rcases yrun (yis_ok ml1f_k) hA Hs Ho HC with ⟨q_, hq, h', K_, G_⟩ | ⟨q_, hq, h', K_, G_⟩
  · cases hq
  · have e_ := List.mem_singleton.mp hq
    subst e_
    exact ⟨h', yfr_sm K_.2.2.2 hs K_.1 (ywa_r ml1f_w List.mem_cons_self), ⟨fun a_ j_ => yfr_bp K_.2.2.2 (fun q_ hq => absurd hq List.not_mem_nil), G_⟩⟩
-- ml1t: 1 steps, 1 ends, 0 returns
def ml1t_L : List (Nat × Nat × Nat) := []
def ml1t_O : yO := []
def ml1t_A : yA := (yZ ml1t_L, [], [], [], [])
def ml1t_C : List xB := [(.eq, .arg 5, .int 0, false)]
def ml1t_ss : List yS := [(9, [(0, .index 338)], [], [], [(.eq, .arg 5, .int 0, false)], [])]
def ml1t_rs : List yR := []
theorem ml1t_w : ywa ml1t_A ml1t_ss ml1t_rs = true := by decide +kernel
theorem ml1t_k : yis (yev ml1t_A 3000 60 177 [9] (4, [(0, .index 338)], [.arg 5], ml1t_O, ml1t_C, [])) ml1t_ss ml1t_rs = true := by decide +kernel
def ml1t_r (v5 : Int32) (k_ : Nat) : Value := bif Nat.beq k_ 5 then .int v5 else (.int 0)
def ml1t_s (n_ : Nat) : Nat := 0
theorem ml1t {h_ : xH} {v5 : Int32} (hs : sHp h_) (c0_ : ¬ v5 = (0 : Int32)) : ∃ h', ysm h_ h' ∧ (((∀ a_ j_ : Nat, bpat h' a_ j_ = bpat h_ a_ j_) ∧ (bldD 60 177 4 [(0, .index 338)] [.int v5] h_ 9 [(0, .index 338)] [] h'))) := by
  have hA : yas ml1t_A (ml1t_r v5) (yg ml1t_s) := ⟨fun q_ hq => absurd hq List.not_mem_nil, fun q_ hq => absurd hq List.not_mem_nil, fun q_ hq => absurd hq List.not_mem_nil, fun n_ hn => yg_lo hn, fun q_ hq => absurd hq List.not_mem_nil⟩
  have Hs : ysh ml1t_A.1 (yg ml1t_s) h_ := ysh_of2 hs (fun q_ hq => absurd hq List.not_mem_nil)
  have Ho : ymem (ml1t_r v5) (yg ml1t_s) ml1t_O h_ := fun q_ hq => absurd hq List.not_mem_nil
  have HC : ∀ q_ ∈ ml1t_C, xhold (ml1t_r v5) q_ := List.forall_mem_cons.mpr ⟨xh_eqF2 c0_, fun q_ hq => absurd hq List.not_mem_nil⟩
  rcases yrun (yis_ok ml1t_k) hA Hs Ho HC with ⟨q_, hq, h', K_, G_⟩ | ⟨q_, hq, h', K_, G_⟩
  · have e_ := List.mem_singleton.mp hq
    subst e_
    exact ⟨h', yfr_sm K_.2.2.2 hs K_.1 (ywa_s ml1t_w List.mem_cons_self), ⟨fun a_ j_ => yfr_bp K_.2.2.2 (fun q_ hq => absurd hq List.not_mem_nil), G_⟩⟩
  · cases hq
-- ml2a: 1 steps, 1 ends, 0 returns
def ml2a_L : List (Nat × Nat × Nat) := []
def ml2a_O : yO := []
def ml2a_A : yA := (yZ ml2a_L, [], [], [], [])
def ml2a_C : List xB := []
def ml2a_ss : List yS := [(1, [(0, .index 338)], [.index 338], [], [], [])]
def ml2a_rs : List yR := []
theorem ml2a_w : ywa ml2a_A ml2a_ss ml2a_rs = true := by decide +kernel
theorem ml2a_k : yis (yev ml2a_A 3000 60 178 [1] (0, [(0, .index 338)], [], ml2a_O, ml2a_C, [])) ml2a_ss ml2a_rs = true := by decide +kernel
def ml2a_r (k_ : Nat) : Value := .int 0
def ml2a_s (n_ : Nat) : Nat := 0
theorem ml2a {h_ : xH} (hs : sHp h_) : ∃ h', ysm h_ h' ∧ (((∀ a_ j_ : Nat, bpat h' a_ j_ = bpat h_ a_ j_) ∧ (bldD 60 178 0 [(0, .index 338)] [] h_ 1 [(0, .index 338)] [.index 338] h'))) := by
  have hA : yas ml2a_A ml2a_r (yg ml2a_s) := ⟨fun q_ hq => absurd hq List.not_mem_nil, fun q_ hq => absurd hq List.not_mem_nil, fun q_ hq => absurd hq List.not_mem_nil, fun n_ hn => yg_lo hn, fun q_ hq => absurd hq List.not_mem_nil⟩
  have Hs : ysh ml2a_A.1 (yg ml2a_s) h_ := ysh_of2 hs (fun q_ hq => absurd hq List.not_mem_nil)
  have Ho : ymem ml2a_r (yg ml2a_s) ml2a_O h_ := fun q_ hq => absurd hq List.not_mem_nil
  have HC : ∀ q_ ∈ ml2a_C, xhold ml2a_r q_ := fun q_ hq => absurd hq List.not_mem_nil
  rcases yrun (yis_ok ml2a_k) hA Hs Ho HC with ⟨q_, hq, h', K_, G_⟩ | ⟨q_, hq, h', K_, G_⟩
  · have e_ := List.mem_singleton.mp hq
    subst e_
    exact ⟨h', yfr_sm K_.2.2.2 hs K_.1 (ywa_s ml2a_w List.mem_cons_self), ⟨fun a_ j_ => yfr_bp K_.2.2.2 (fun q_ hq => absurd hq List.not_mem_nil), G_⟩⟩
  · cases hq
-- ml2f: 3 steps, 0 ends, 1 returns
def ml2f_L : List (Nat × Nat × Nat) := []
def ml2f_O : yO := []
def ml2f_A : yA := (yZ ml2f_L, [], [], [], [])
def ml2f_C : List xB := [(.eq, .arg 5, .int 0, true)]
def ml2f_ss : List yS := []
def ml2f_rs : List yR := [(some (.int 0), [], [(.eq, .arg 5, .int 0, true)], [])]
theorem ml2f_w : ywa ml2f_A ml2f_ss ml2f_rs = true := by decide +kernel
theorem ml2f_k : yis (yev ml2f_A 3000 60 178 [] (4, [(0, .index 338)], [.arg 5], ml2f_O, ml2f_C, [])) ml2f_ss ml2f_rs = true := by decide +kernel
def ml2f_r (v5 : Int32) (k_ : Nat) : Value := bif Nat.beq k_ 5 then .int v5 else (.int 0)
def ml2f_s (n_ : Nat) : Nat := 0
theorem ml2f {h_ : xH} {v5 : Int32} (hs : sHp h_) (c0_ : v5 = (0 : Int32)) : ∃ h', ysm h_ h' ∧ (((∀ a_ j_ : Nat, bpat h' a_ j_ = bpat h_ a_ j_) ∧ (∀ D_, 60 ≤ D_ → xrun D_ 178 4 [(0, .index 338)] [.int v5] h_ (some (.int (0 : Int32)), h', [])))) := by
  have hA : yas ml2f_A (ml2f_r v5) (yg ml2f_s) := ⟨fun q_ hq => absurd hq List.not_mem_nil, fun q_ hq => absurd hq List.not_mem_nil, fun q_ hq => absurd hq List.not_mem_nil, fun n_ hn => yg_lo hn, fun q_ hq => absurd hq List.not_mem_nil⟩
  have Hs : ysh ml2f_A.1 (yg ml2f_s) h_ := ysh_of2 hs (fun q_ hq => absurd hq List.not_mem_nil)
  have Ho : ymem (ml2f_r v5) (yg ml2f_s) ml2f_O h_ := fun q_ hq => absurd hq List.not_mem_nil
  have HC : ∀ q_ ∈ ml2f_C, xhold (ml2f_r v5) q_ := List.forall_mem_cons.mpr ⟨xh_eqT2 c0_, fun q_ hq => absurd hq List.not_mem_nil⟩
  rcases yrun (yis_ok ml2f_k) hA Hs Ho HC with ⟨q_, hq, h', K_, G_⟩ | ⟨q_, hq, h', K_, G_⟩
  · cases hq
  · have e_ := List.mem_singleton.mp hq
    subst e_
    exact ⟨h', yfr_sm K_.2.2.2 hs K_.1 (ywa_r ml2f_w List.mem_cons_self), ⟨fun a_ j_ => yfr_bp K_.2.2.2 (fun q_ hq => absurd hq List.not_mem_nil), G_⟩⟩
-- ml2t: 1 steps, 1 ends, 0 returns
def ml2t_L : List (Nat × Nat × Nat) := []
def ml2t_O : yO := []
def ml2t_A : yA := (yZ ml2t_L, [], [], [], [])
def ml2t_C : List xB := [(.eq, .arg 5, .int 0, false)]
def ml2t_ss : List yS := [(9, [(0, .index 338)], [], [], [(.eq, .arg 5, .int 0, false)], [])]
def ml2t_rs : List yR := []
theorem ml2t_w : ywa ml2t_A ml2t_ss ml2t_rs = true := by decide +kernel
theorem ml2t_k : yis (yev ml2t_A 3000 60 178 [9] (4, [(0, .index 338)], [.arg 5], ml2t_O, ml2t_C, [])) ml2t_ss ml2t_rs = true := by decide +kernel
def ml2t_r (v5 : Int32) (k_ : Nat) : Value := bif Nat.beq k_ 5 then .int v5 else (.int 0)
def ml2t_s (n_ : Nat) : Nat := 0
theorem ml2t {h_ : xH} {v5 : Int32} (hs : sHp h_) (c0_ : ¬ v5 = (0 : Int32)) : ∃ h', ysm h_ h' ∧ (((∀ a_ j_ : Nat, bpat h' a_ j_ = bpat h_ a_ j_) ∧ (bldD 60 178 4 [(0, .index 338)] [.int v5] h_ 9 [(0, .index 338)] [] h'))) := by
  have hA : yas ml2t_A (ml2t_r v5) (yg ml2t_s) := ⟨fun q_ hq => absurd hq List.not_mem_nil, fun q_ hq => absurd hq List.not_mem_nil, fun q_ hq => absurd hq List.not_mem_nil, fun n_ hn => yg_lo hn, fun q_ hq => absurd hq List.not_mem_nil⟩
  have Hs : ysh ml2t_A.1 (yg ml2t_s) h_ := ysh_of2 hs (fun q_ hq => absurd hq List.not_mem_nil)
  have Ho : ymem (ml2t_r v5) (yg ml2t_s) ml2t_O h_ := fun q_ hq => absurd hq List.not_mem_nil
  have HC : ∀ q_ ∈ ml2t_C, xhold (ml2t_r v5) q_ := List.forall_mem_cons.mpr ⟨xh_eqF2 c0_, fun q_ hq => absurd hq List.not_mem_nil⟩
  rcases yrun (yis_ok ml2t_k) hA Hs Ho HC with ⟨q_, hq, h', K_, G_⟩ | ⟨q_, hq, h', K_, G_⟩
  · have e_ := List.mem_singleton.mp hq
    subst e_
    exact ⟨h', yfr_sm K_.2.2.2 hs K_.1 (ywa_s ml2t_w List.mem_cons_self), ⟨fun a_ j_ => yfr_bp K_.2.2.2 (fun q_ hq => absurd hq List.not_mem_nil), G_⟩⟩
  · cases hq
-- ml3a: 1 steps, 1 ends, 0 returns
def ml3a_L : List (Nat × Nat × Nat) := []
def ml3a_O : yO := []
def ml3a_A : yA := (yZ ml3a_L, [], [], [], [])
def ml3a_C : List xB := []
def ml3a_ss : List yS := [(1, [(0, .index 338)], [.index 338], [], [], [])]
def ml3a_rs : List yR := []
theorem ml3a_w : ywa ml3a_A ml3a_ss ml3a_rs = true := by decide +kernel
theorem ml3a_k : yis (yev ml3a_A 3000 60 179 [1] (0, [(0, .index 338)], [], ml3a_O, ml3a_C, [])) ml3a_ss ml3a_rs = true := by decide +kernel
def ml3a_r (k_ : Nat) : Value := .int 0
def ml3a_s (n_ : Nat) : Nat := 0
theorem ml3a {h_ : xH} (hs : sHp h_) : ∃ h', ysm h_ h' ∧ (((∀ a_ j_ : Nat, bpat h' a_ j_ = bpat h_ a_ j_) ∧ (bldD 60 179 0 [(0, .index 338)] [] h_ 1 [(0, .index 338)] [.index 338] h'))) := by
  have hA : yas ml3a_A ml3a_r (yg ml3a_s) := ⟨fun q_ hq => absurd hq List.not_mem_nil, fun q_ hq => absurd hq List.not_mem_nil, fun q_ hq => absurd hq List.not_mem_nil, fun n_ hn => yg_lo hn, fun q_ hq => absurd hq List.not_mem_nil⟩
  have Hs : ysh ml3a_A.1 (yg ml3a_s) h_ := ysh_of2 hs (fun q_ hq => absurd hq List.not_mem_nil)
  have Ho : ymem ml3a_r (yg ml3a_s) ml3a_O h_ := fun q_ hq => absurd hq List.not_mem_nil
  have HC : ∀ q_ ∈ ml3a_C, xhold ml3a_r q_ := fun q_ hq => absurd hq List.not_mem_nil
  rcases yrun (yis_ok ml3a_k) hA Hs Ho HC with ⟨q_, hq, h', K_, G_⟩ | ⟨q_, hq, h', K_, G_⟩
  · have e_ := List.mem_singleton.mp hq
    subst e_
    exact ⟨h', yfr_sm K_.2.2.2 hs K_.1 (ywa_s ml3a_w List.mem_cons_self), ⟨fun a_ j_ => yfr_bp K_.2.2.2 (fun q_ hq => absurd hq List.not_mem_nil), G_⟩⟩
  · cases hq
-- ml3f: 3 steps, 0 ends, 1 returns
def ml3f_L : List (Nat × Nat × Nat) := []
def ml3f_O : yO := []
def ml3f_A : yA := (yZ ml3f_L, [], [], [], [])
def ml3f_C : List xB := [(.eq, .arg 5, .int 0, true)]
def ml3f_ss : List yS := []
def ml3f_rs : List yR := [(some (.int 0), [], [(.eq, .arg 5, .int 0, true)], [])]
theorem ml3f_w : ywa ml3f_A ml3f_ss ml3f_rs = true := by decide +kernel
theorem ml3f_k : yis (yev ml3f_A 3000 60 179 [] (4, [(0, .index 338)], [.arg 5], ml3f_O, ml3f_C, [])) ml3f_ss ml3f_rs = true := by decide +kernel
def ml3f_r (v5 : Int32) (k_ : Nat) : Value := bif Nat.beq k_ 5 then .int v5 else (.int 0)
def ml3f_s (n_ : Nat) : Nat := 0
theorem ml3f {h_ : xH} {v5 : Int32} (hs : sHp h_) (c0_ : v5 = (0 : Int32)) : ∃ h', ysm h_ h' ∧ (((∀ a_ j_ : Nat, bpat h' a_ j_ = bpat h_ a_ j_) ∧ (∀ D_, 60 ≤ D_ → xrun D_ 179 4 [(0, .index 338)] [.int v5] h_ (some (.int (0 : Int32)), h', [])))) := by
  have hA : yas ml3f_A (ml3f_r v5) (yg ml3f_s) := ⟨fun q_ hq => absurd hq List.not_mem_nil, fun q_ hq => absurd hq List.not_mem_nil, fun q_ hq => absurd hq List.not_mem_nil, fun n_ hn => yg_lo hn, fun q_ hq => absurd hq List.not_mem_nil⟩
  have Hs : ysh ml3f_A.1 (yg ml3f_s) h_ := ysh_of2 hs (fun q_ hq => absurd hq List.not_mem_nil)
  have Ho : ymem (ml3f_r v5) (yg ml3f_s) ml3f_O h_ := fun q_ hq => absurd hq List.not_mem_nil
  have HC : ∀ q_ ∈ ml3f_C, xhold (ml3f_r v5) q_ := List.forall_mem_cons.mpr ⟨xh_eqT2 c0_, fun q_ hq => absurd hq List.not_mem_nil⟩
  rcases yrun (yis_ok ml3f_k) hA Hs Ho HC with ⟨q_, hq, h', K_, G_⟩ | ⟨q_, hq, h', K_, G_⟩
  · cases hq
  · have e_ := List.mem_singleton.mp hq
    subst e_
    exact ⟨h', yfr_sm K_.2.2.2 hs K_.1 (ywa_r ml3f_w List.mem_cons_self), ⟨fun a_ j_ => yfr_bp K_.2.2.2 (fun q_ hq => absurd hq List.not_mem_nil), G_⟩⟩
-- ml3t: 1 steps, 1 ends, 0 returns
def ml3t_L : List (Nat × Nat × Nat) := []
def ml3t_O : yO := []
def ml3t_A : yA := (yZ ml3t_L, [], [], [], [])
def ml3t_C : List xB := [(.eq, .arg 5, .int 0, false)]
def ml3t_ss : List yS := [(9, [(0, .index 338)], [], [], [(.eq, .arg 5, .int 0, false)], [])]
def ml3t_rs : List yR := []
theorem ml3t_w : ywa ml3t_A ml3t_ss ml3t_rs = true := by decide +kernel
theorem ml3t_k : yis (yev ml3t_A 3000 60 179 [9] (4, [(0, .index 338)], [.arg 5], ml3t_O, ml3t_C, [])) ml3t_ss ml3t_rs = true := by decide +kernel
def ml3t_r (v5 : Int32) (k_ : Nat) : Value := bif Nat.beq k_ 5 then .int v5 else (.int 0)
def ml3t_s (n_ : Nat) : Nat := 0
theorem ml3t {h_ : xH} {v5 : Int32} (hs : sHp h_) (c0_ : ¬ v5 = (0 : Int32)) : ∃ h', ysm h_ h' ∧ (((∀ a_ j_ : Nat, bpat h' a_ j_ = bpat h_ a_ j_) ∧ (bldD 60 179 4 [(0, .index 338)] [.int v5] h_ 9 [(0, .index 338)] [] h'))) := by
  have hA : yas ml3t_A (ml3t_r v5) (yg ml3t_s) := ⟨fun q_ hq => absurd hq List.not_mem_nil, fun q_ hq => absurd hq List.not_mem_nil, fun q_ hq => absurd hq List.not_mem_nil, fun n_ hn => yg_lo hn, fun q_ hq => absurd hq List.not_mem_nil⟩
  have Hs : ysh ml3t_A.1 (yg ml3t_s) h_ := ysh_of2 hs (fun q_ hq => absurd hq List.not_mem_nil)
  have Ho : ymem (ml3t_r v5) (yg ml3t_s) ml3t_O h_ := fun q_ hq => absurd hq List.not_mem_nil
  have HC : ∀ q_ ∈ ml3t_C, xhold (ml3t_r v5) q_ := List.forall_mem_cons.mpr ⟨xh_eqF2 c0_, fun q_ hq => absurd hq List.not_mem_nil⟩
  rcases yrun (yis_ok ml3t_k) hA Hs Ho HC with ⟨q_, hq, h', K_, G_⟩ | ⟨q_, hq, h', K_, G_⟩
  · have e_ := List.mem_singleton.mp hq
    subst e_
    exact ⟨h', yfr_sm K_.2.2.2 hs K_.1 (ywa_s ml3t_w List.mem_cons_self), ⟨fun a_ j_ => yfr_bp K_.2.2.2 (fun q_ hq => absurd hq List.not_mem_nil), G_⟩⟩
  · cases hq
-- ml4a: 1 steps, 1 ends, 0 returns
def ml4a_L : List (Nat × Nat × Nat) := []
def ml4a_O : yO := []
def ml4a_A : yA := (yZ ml4a_L, [], [], [], [])
def ml4a_C : List xB := []
def ml4a_ss : List yS := [(1, [(0, .index 338)], [.index 338], [], [], [])]
def ml4a_rs : List yR := []
theorem ml4a_w : ywa ml4a_A ml4a_ss ml4a_rs = true := by decide +kernel
theorem ml4a_k : yis (yev ml4a_A 3000 60 180 [1] (0, [(0, .index 338)], [], ml4a_O, ml4a_C, [])) ml4a_ss ml4a_rs = true := by decide +kernel
def ml4a_r (k_ : Nat) : Value := .int 0
def ml4a_s (n_ : Nat) : Nat := 0
theorem ml4a {h_ : xH} (hs : sHp h_) : ∃ h', ysm h_ h' ∧ (((∀ a_ j_ : Nat, bpat h' a_ j_ = bpat h_ a_ j_) ∧ (bldD 60 180 0 [(0, .index 338)] [] h_ 1 [(0, .index 338)] [.index 338] h'))) := by
  have hA : yas ml4a_A ml4a_r (yg ml4a_s) := ⟨fun q_ hq => absurd hq List.not_mem_nil, fun q_ hq => absurd hq List.not_mem_nil, fun q_ hq => absurd hq List.not_mem_nil, fun n_ hn => yg_lo hn, fun q_ hq => absurd hq List.not_mem_nil⟩
  have Hs : ysh ml4a_A.1 (yg ml4a_s) h_ := ysh_of2 hs (fun q_ hq => absurd hq List.not_mem_nil)
  have Ho : ymem ml4a_r (yg ml4a_s) ml4a_O h_ := fun q_ hq => absurd hq List.not_mem_nil
  have HC : ∀ q_ ∈ ml4a_C, xhold ml4a_r q_ := fun q_ hq => absurd hq List.not_mem_nil
  rcases yrun (yis_ok ml4a_k) hA Hs Ho HC with ⟨q_, hq, h', K_, G_⟩ | ⟨q_, hq, h', K_, G_⟩
  · have e_ := List.mem_singleton.mp hq
    subst e_
    exact ⟨h', yfr_sm K_.2.2.2 hs K_.1 (ywa_s ml4a_w List.mem_cons_self), ⟨fun a_ j_ => yfr_bp K_.2.2.2 (fun q_ hq => absurd hq List.not_mem_nil), G_⟩⟩
  · cases hq
-- ml4f: 3 steps, 0 ends, 1 returns
def ml4f_L : List (Nat × Nat × Nat) := []
def ml4f_O : yO := []
def ml4f_A : yA := (yZ ml4f_L, [], [], [], [])
def ml4f_C : List xB := [(.eq, .arg 5, .int 0, true)]
def ml4f_ss : List yS := []
def ml4f_rs : List yR := [(some (.int 0), [], [(.eq, .arg 5, .int 0, true)], [])]
theorem ml4f_w : ywa ml4f_A ml4f_ss ml4f_rs = true := by decide +kernel
theorem ml4f_k : yis (yev ml4f_A 3000 60 180 [] (4, [(0, .index 338)], [.arg 5], ml4f_O, ml4f_C, [])) ml4f_ss ml4f_rs = true := by decide +kernel
def ml4f_r (v5 : Int32) (k_ : Nat) : Value := bif Nat.beq k_ 5 then .int v5 else (.int 0)
def ml4f_s (n_ : Nat) : Nat := 0
theorem ml4f {h_ : xH} {v5 : Int32} (hs : sHp h_) (c0_ : v5 = (0 : Int32)) : ∃ h', ysm h_ h' ∧ (((∀ a_ j_ : Nat, bpat h' a_ j_ = bpat h_ a_ j_) ∧ (∀ D_, 60 ≤ D_ → xrun D_ 180 4 [(0, .index 338)] [.int v5] h_ (some (.int (0 : Int32)), h', [])))) := by
  have hA : yas ml4f_A (ml4f_r v5) (yg ml4f_s) := ⟨fun q_ hq => absurd hq List.not_mem_nil, fun q_ hq => absurd hq List.not_mem_nil, fun q_ hq => absurd hq List.not_mem_nil, fun n_ hn => yg_lo hn, fun q_ hq => absurd hq List.not_mem_nil⟩
  have Hs : ysh ml4f_A.1 (yg ml4f_s) h_ := ysh_of2 hs (fun q_ hq => absurd hq List.not_mem_nil)
  have Ho : ymem (ml4f_r v5) (yg ml4f_s) ml4f_O h_ := fun q_ hq => absurd hq List.not_mem_nil
  have HC : ∀ q_ ∈ ml4f_C, xhold (ml4f_r v5) q_ := List.forall_mem_cons.mpr ⟨xh_eqT2 c0_, fun q_ hq => absurd hq List.not_mem_nil⟩
  rcases yrun (yis_ok ml4f_k) hA Hs Ho HC with ⟨q_, hq, h', K_, G_⟩ | ⟨q_, hq, h', K_, G_⟩
  · cases hq
  · have e_ := List.mem_singleton.mp hq
    subst e_
    exact ⟨h', yfr_sm K_.2.2.2 hs K_.1 (ywa_r ml4f_w List.mem_cons_self), ⟨fun a_ j_ => yfr_bp K_.2.2.2 (fun q_ hq => absurd hq List.not_mem_nil), G_⟩⟩
-- ml4t: 1 steps, 1 ends, 0 returns
def ml4t_L : List (Nat × Nat × Nat) := []
def ml4t_O : yO := []
def ml4t_A : yA := (yZ ml4t_L, [], [], [], [])
def ml4t_C : List xB := [(.eq, .arg 5, .int 0, false)]
def ml4t_ss : List yS := [(9, [(0, .index 338)], [], [], [(.eq, .arg 5, .int 0, false)], [])]
def ml4t_rs : List yR := []
theorem ml4t_w : ywa ml4t_A ml4t_ss ml4t_rs = true := by decide +kernel
theorem ml4t_k : yis (yev ml4t_A 3000 60 180 [9] (4, [(0, .index 338)], [.arg 5], ml4t_O, ml4t_C, [])) ml4t_ss ml4t_rs = true := by decide +kernel
def ml4t_r (v5 : Int32) (k_ : Nat) : Value := bif Nat.beq k_ 5 then .int v5 else (.int 0)
def ml4t_s (n_ : Nat) : Nat := 0
theorem ml4t {h_ : xH} {v5 : Int32} (hs : sHp h_) (c0_ : ¬ v5 = (0 : Int32)) : ∃ h', ysm h_ h' ∧ (((∀ a_ j_ : Nat, bpat h' a_ j_ = bpat h_ a_ j_) ∧ (bldD 60 180 4 [(0, .index 338)] [.int v5] h_ 9 [(0, .index 338)] [] h'))) := by
  have hA : yas ml4t_A (ml4t_r v5) (yg ml4t_s) := ⟨fun q_ hq => absurd hq List.not_mem_nil, fun q_ hq => absurd hq List.not_mem_nil, fun q_ hq => absurd hq List.not_mem_nil, fun n_ hn => yg_lo hn, fun q_ hq => absurd hq List.not_mem_nil⟩
  have Hs : ysh ml4t_A.1 (yg ml4t_s) h_ := ysh_of2 hs (fun q_ hq => absurd hq List.not_mem_nil)
  have Ho : ymem (ml4t_r v5) (yg ml4t_s) ml4t_O h_ := fun q_ hq => absurd hq List.not_mem_nil
  have HC : ∀ q_ ∈ ml4t_C, xhold (ml4t_r v5) q_ := List.forall_mem_cons.mpr ⟨xh_eqF2 c0_, fun q_ hq => absurd hq List.not_mem_nil⟩
  rcases yrun (yis_ok ml4t_k) hA Hs Ho HC with ⟨q_, hq, h', K_, G_⟩ | ⟨q_, hq, h', K_, G_⟩
  · have e_ := List.mem_singleton.mp hq
    subst e_
    exact ⟨h', yfr_sm K_.2.2.2 hs K_.1 (ywa_s ml4t_w List.mem_cons_self), ⟨fun a_ j_ => yfr_bp K_.2.2.2 (fun q_ hq => absurd hq List.not_mem_nil), G_⟩⟩
  · cases hq
-- mj0l: 1 steps, 1 ends, 0 returns
def mj0l_L : List (Nat × Nat × Nat) := []
def mj0l_O : yO := []
def mj0l_A : yA := (yZ mj0l_L, [], [], [], [])
def mj0l_C : List xB := []
def mj0l_ss : List yS := [(10, [(0, .index 338)], [.index 338], [], [], [])]
def mj0l_rs : List yR := []
theorem mj0l_w : ywa mj0l_A mj0l_ss mj0l_rs = true := by decide +kernel
theorem mj0l_k : yis (yev mj0l_A 3000 60 176 [10] (9, [(0, .index 338)], [], mj0l_O, mj0l_C, [])) mj0l_ss mj0l_rs = true := by decide +kernel
def mj0l_r (k_ : Nat) : Value := .int 0
def mj0l_s (n_ : Nat) : Nat := 0
theorem mj0l {h_ : xH} (hs : sHp h_) : ∃ h', ysm h_ h' ∧ (((∀ a_ j_ : Nat, bpat h' a_ j_ = bpat h_ a_ j_) ∧ (bldD 60 176 9 [(0, .index 338)] [] h_ 10 [(0, .index 338)] [.index 338] h'))) := by
  have hA : yas mj0l_A mj0l_r (yg mj0l_s) := ⟨fun q_ hq => absurd hq List.not_mem_nil, fun q_ hq => absurd hq List.not_mem_nil, fun q_ hq => absurd hq List.not_mem_nil, fun n_ hn => yg_lo hn, fun q_ hq => absurd hq List.not_mem_nil⟩
  have Hs : ysh mj0l_A.1 (yg mj0l_s) h_ := ysh_of2 hs (fun q_ hq => absurd hq List.not_mem_nil)
  have Ho : ymem mj0l_r (yg mj0l_s) mj0l_O h_ := fun q_ hq => absurd hq List.not_mem_nil
  have HC : ∀ q_ ∈ mj0l_C, xhold mj0l_r q_ := fun q_ hq => absurd hq List.not_mem_nil
  rcases yrun (yis_ok mj0l_k) hA Hs Ho HC with ⟨q_, hq, h', K_, G_⟩ | ⟨q_, hq, h', K_, G_⟩
  · have e_ := List.mem_singleton.mp hq
    subst e_
    exact ⟨h', yfr_sm K_.2.2.2 hs K_.1 (ywa_s mj0l_w List.mem_cons_self), ⟨fun a_ j_ => yfr_bp K_.2.2.2 (fun q_ hq => absurd hq List.not_mem_nil), G_⟩⟩
  · cases hq
-- mj0n: 4 steps, 0 ends, 1 returns
def mj0n_L : List (Nat × Nat × Nat) := []
def mj0n_O : yO := []
def mj0n_A : yA := (yZ mj0n_L, [], [], [], [])
def mj0n_C : List xB := [(.eq, .arg 5, .int 124, false)]
def mj0n_ss : List yS := []
def mj0n_rs : List yR := [(some (.int 1), [], [(.eq, .arg 5, .int 124, false)], [])]
theorem mj0n_w : ywa mj0n_A mj0n_ss mj0n_rs = true := by decide +kernel
theorem mj0n_k : yis (yev mj0n_A 3000 60 176 [] (13, [(0, .index 338)], [.arg 5], mj0n_O, mj0n_C, [])) mj0n_ss mj0n_rs = true := by decide +kernel
def mj0n_r (v5 : Int32) (k_ : Nat) : Value := bif Nat.beq k_ 5 then .int v5 else (.int 0)
def mj0n_s (n_ : Nat) : Nat := 0
theorem mj0n {h_ : xH} {v5 : Int32} (hs : sHp h_) (c0_ : ¬ v5 = (124 : Int32)) : ∃ h', ysm h_ h' ∧ (((∀ a_ j_ : Nat, bpat h' a_ j_ = bpat h_ a_ j_) ∧ (∀ D_, 60 ≤ D_ → xrun D_ 176 13 [(0, .index 338)] [.int v5] h_ (some (.int (1 : Int32)), h', [])))) := by
  have hA : yas mj0n_A (mj0n_r v5) (yg mj0n_s) := ⟨fun q_ hq => absurd hq List.not_mem_nil, fun q_ hq => absurd hq List.not_mem_nil, fun q_ hq => absurd hq List.not_mem_nil, fun n_ hn => yg_lo hn, fun q_ hq => absurd hq List.not_mem_nil⟩
  have Hs : ysh mj0n_A.1 (yg mj0n_s) h_ := ysh_of2 hs (fun q_ hq => absurd hq List.not_mem_nil)
  have Ho : ymem (mj0n_r v5) (yg mj0n_s) mj0n_O h_ := fun q_ hq => absurd hq List.not_mem_nil
  have HC : ∀ q_ ∈ mj0n_C, xhold (mj0n_r v5) q_ := List.forall_mem_cons.mpr ⟨xh_eqF2 c0_, fun q_ hq => absurd hq List.not_mem_nil⟩
  rcases yrun (yis_ok mj0n_k) hA Hs Ho HC with ⟨q_, hq, h', K_, G_⟩ | ⟨q_, hq, h', K_, G_⟩
  · cases hq
  · have e_ := List.mem_singleton.mp hq
    subst e_
    exact ⟨h', yfr_sm K_.2.2.2 hs K_.1 (ywa_r mj0n_w List.mem_cons_self), ⟨fun a_ j_ => yfr_bp K_.2.2.2 (fun q_ hq => absurd hq List.not_mem_nil), G_⟩⟩
-- mj0y: 9 steps, 1 ends, 0 returns
def mj0y_L : List (Nat × Nat × Nat) := []
def mj0y_O : yO := [(338, .int 7, .arg 307)]
def mj0y_A : yA := (yZ mj0y_L, [], [], [], [])
def mj0y_C : List xB := [(.eq, .arg 5, .int 124, true)]
def mj0y_ss : List yS := [(29, [(0, .index 338)], [.index 338], [(338, .int 7, .add (.arg 307) (.int 1))], [(.eq, .arg 5, .int 124, true)], [(338, .int 7)])]
def mj0y_rs : List yR := []
theorem mj0y_w : ywa mj0y_A mj0y_ss mj0y_rs = true := by decide +kernel
theorem mj0y_k : yis (yev mj0y_A 3000 60 176 [29] (13, [(0, .index 338)], [.arg 5], mj0y_O, mj0y_C, [])) mj0y_ss mj0y_rs = true := by decide +kernel
def mj0y_r (v5 v307 : Int32) (k_ : Nat) : Value := bif Nat.beq k_ 5 then .int v5 else (bif Nat.beq k_ 307 then .int v307 else (.int 0))
def mj0y_s (n_ : Nat) : Nat := 0
theorem mj0y {h_ : xH} {v5 v307 : Int32} (hs : sHp h_) (o0_ : bpat h_ 338 7 = some (.int v307)) (c0_ : v5 = (124 : Int32)) : ∃ h', ysm h_ h' ∧ (((bpat h' 338 7 = some (.int (v307 + (1 : Int32)))) ∧ (∀ a_ j_ : Nat, ¬ (a_ = 338 ∧ j_ = 7) → bpat h' a_ j_ = bpat h_ a_ j_) ∧ (bldD 60 176 13 [(0, .index 338)] [.int v5] h_ 29 [(0, .index 338)] [.index 338] h'))) := by
  have hA : yas mj0y_A (mj0y_r v5 v307) (yg mj0y_s) := ⟨fun q_ hq => absurd hq List.not_mem_nil, fun q_ hq => absurd hq List.not_mem_nil, fun q_ hq => absurd hq List.not_mem_nil, fun n_ hn => yg_lo hn, fun q_ hq => absurd hq List.not_mem_nil⟩
  have Hs : ysh mj0y_A.1 (yg mj0y_s) h_ := ysh_of2 hs (fun q_ hq => absurd hq List.not_mem_nil)
  have Ho : ymem (mj0y_r v5 v307) (yg mj0y_s) mj0y_O h_ := List.forall_mem_cons.mpr ⟨bpat_some o0_, fun q_ hq => absurd hq List.not_mem_nil⟩
  have HC : ∀ q_ ∈ mj0y_C, xhold (mj0y_r v5 v307) q_ := List.forall_mem_cons.mpr ⟨xh_eqT2 c0_, fun q_ hq => absurd hq List.not_mem_nil⟩
  rcases yrun (yis_ok mj0y_k) hA Hs Ho HC with ⟨q_, hq, h', K_, G_⟩ | ⟨q_, hq, h', K_, G_⟩
  · have e_ := List.mem_singleton.mp hq
    subst e_
    exact ⟨h', yfr_sm K_.2.2.2 hs K_.1 (ywa_s mj0y_w List.mem_cons_self), ⟨bpat_of (K_.2.1 _ List.mem_cons_self), fun a_ j_ n0_ => yfr_bp K_.2.2.2 (List.forall_mem_cons.mpr ⟨fun e_ => n0_ ⟨e_.1.symm, e_.2.symm⟩, fun q_ hq => absurd hq List.not_mem_nil⟩), G_⟩⟩
  · cases hq
-- mj0f: 3 steps, 0 ends, 1 returns
def mj0f_L : List (Nat × Nat × Nat) := []
def mj0f_O : yO := []
def mj0f_A : yA := (yZ mj0f_L, [], [], [], [])
def mj0f_C : List xB := [(.eq, .arg 5, .int 0, true)]
def mj0f_ss : List yS := []
def mj0f_rs : List yR := [(some (.int 0), [], [(.eq, .arg 5, .int 0, true)], [])]
theorem mj0f_w : ywa mj0f_A mj0f_ss mj0f_rs = true := by decide +kernel
theorem mj0f_k : yis (yev mj0f_A 3000 60 176 [] (32, [(0, .index 338)], [.arg 5], mj0f_O, mj0f_C, [])) mj0f_ss mj0f_rs = true := by decide +kernel
def mj0f_r (v5 : Int32) (k_ : Nat) : Value := bif Nat.beq k_ 5 then .int v5 else (.int 0)
def mj0f_s (n_ : Nat) : Nat := 0
theorem mj0f {h_ : xH} {v5 : Int32} (hs : sHp h_) (c0_ : v5 = (0 : Int32)) : ∃ h', ysm h_ h' ∧ (((∀ a_ j_ : Nat, bpat h' a_ j_ = bpat h_ a_ j_) ∧ (∀ D_, 60 ≤ D_ → xrun D_ 176 32 [(0, .index 338)] [.int v5] h_ (some (.int (0 : Int32)), h', [])))) := by
  have hA : yas mj0f_A (mj0f_r v5) (yg mj0f_s) := ⟨fun q_ hq => absurd hq List.not_mem_nil, fun q_ hq => absurd hq List.not_mem_nil, fun q_ hq => absurd hq List.not_mem_nil, fun n_ hn => yg_lo hn, fun q_ hq => absurd hq List.not_mem_nil⟩
  have Hs : ysh mj0f_A.1 (yg mj0f_s) h_ := ysh_of2 hs (fun q_ hq => absurd hq List.not_mem_nil)
  have Ho : ymem (mj0f_r v5) (yg mj0f_s) mj0f_O h_ := fun q_ hq => absurd hq List.not_mem_nil
  have HC : ∀ q_ ∈ mj0f_C, xhold (mj0f_r v5) q_ := List.forall_mem_cons.mpr ⟨xh_eqT2 c0_, fun q_ hq => absurd hq List.not_mem_nil⟩
  rcases yrun (yis_ok mj0f_k) hA Hs Ho HC with ⟨q_, hq, h', K_, G_⟩ | ⟨q_, hq, h', K_, G_⟩
  · cases hq
  · have e_ := List.mem_singleton.mp hq
    subst e_
    exact ⟨h', yfr_sm K_.2.2.2 hs K_.1 (ywa_r mj0f_w List.mem_cons_self), ⟨fun a_ j_ => yfr_bp K_.2.2.2 (fun q_ hq => absurd hq List.not_mem_nil), G_⟩⟩
-- mj0t: 4 steps, 1 ends, 0 returns
def mj0t_L : List (Nat × Nat × Nat) := []
def mj0t_O : yO := []
def mj0t_A : yA := (yZ mj0t_L, [], [], [], [])
def mj0t_C : List xB := [(.eq, .arg 5, .int 0, false)]
def mj0t_ss : List yS := [(41, [(0, .index 338)], [.int 124, .int 3, .index 338], [], [(.eq, .arg 5, .int 0, false)], [])]
def mj0t_rs : List yR := []
theorem mj0t_w : ywa mj0t_A mj0t_ss mj0t_rs = true := by decide +kernel
theorem mj0t_k : yis (yev mj0t_A 3000 60 176 [41] (32, [(0, .index 338)], [.arg 5], mj0t_O, mj0t_C, [])) mj0t_ss mj0t_rs = true := by decide +kernel
def mj0t_r (v5 : Int32) (k_ : Nat) : Value := bif Nat.beq k_ 5 then .int v5 else (.int 0)
def mj0t_s (n_ : Nat) : Nat := 0
theorem mj0t {h_ : xH} {v5 : Int32} (hs : sHp h_) (c0_ : ¬ v5 = (0 : Int32)) : ∃ h', ysm h_ h' ∧ (((∀ a_ j_ : Nat, bpat h' a_ j_ = bpat h_ a_ j_) ∧ (bldD 60 176 32 [(0, .index 338)] [.int v5] h_ 41 [(0, .index 338)] [.int (124 : Int32), .int (3 : Int32), .index 338] h'))) := by
  have hA : yas mj0t_A (mj0t_r v5) (yg mj0t_s) := ⟨fun q_ hq => absurd hq List.not_mem_nil, fun q_ hq => absurd hq List.not_mem_nil, fun q_ hq => absurd hq List.not_mem_nil, fun n_ hn => yg_lo hn, fun q_ hq => absurd hq List.not_mem_nil⟩
  have Hs : ysh mj0t_A.1 (yg mj0t_s) h_ := ysh_of2 hs (fun q_ hq => absurd hq List.not_mem_nil)
  have Ho : ymem (mj0t_r v5) (yg mj0t_s) mj0t_O h_ := fun q_ hq => absurd hq List.not_mem_nil
  have HC : ∀ q_ ∈ mj0t_C, xhold (mj0t_r v5) q_ := List.forall_mem_cons.mpr ⟨xh_eqF2 c0_, fun q_ hq => absurd hq List.not_mem_nil⟩
  rcases yrun (yis_ok mj0t_k) hA Hs Ho HC with ⟨q_, hq, h', K_, G_⟩ | ⟨q_, hq, h', K_, G_⟩
  · have e_ := List.mem_singleton.mp hq
    subst e_
    exact ⟨h', yfr_sm K_.2.2.2 hs K_.1 (ywa_s mj0t_w List.mem_cons_self), ⟨fun a_ j_ => yfr_bp K_.2.2.2 (fun q_ hq => absurd hq List.not_mem_nil), G_⟩⟩
  · cases hq
-- mj0r: 1 steps, 1 ends, 0 returns
def mj0r_L : List (Nat × Nat × Nat) := []
def mj0r_O : yO := []
def mj0r_A : yA := (yZ mj0r_L, [], [], [], [])
def mj0r_C : List xB := []
def mj0r_ss : List yS := [(9, [(0, .index 338)], [], [], [], [])]
def mj0r_rs : List yR := []
theorem mj0r_w : ywa mj0r_A mj0r_ss mj0r_rs = true := by decide +kernel
theorem mj0r_k : yis (yev mj0r_A 3000 60 176 [9] (44, [(0, .index 338)], [], mj0r_O, mj0r_C, [])) mj0r_ss mj0r_rs = true := by decide +kernel
def mj0r_r (k_ : Nat) : Value := .int 0
def mj0r_s (n_ : Nat) : Nat := 0
theorem mj0r {h_ : xH} (hs : sHp h_) : ∃ h', ysm h_ h' ∧ (((∀ a_ j_ : Nat, bpat h' a_ j_ = bpat h_ a_ j_) ∧ (bldD 60 176 44 [(0, .index 338)] [] h_ 9 [(0, .index 338)] [] h'))) := by
  have hA : yas mj0r_A mj0r_r (yg mj0r_s) := ⟨fun q_ hq => absurd hq List.not_mem_nil, fun q_ hq => absurd hq List.not_mem_nil, fun q_ hq => absurd hq List.not_mem_nil, fun n_ hn => yg_lo hn, fun q_ hq => absurd hq List.not_mem_nil⟩
  have Hs : ysh mj0r_A.1 (yg mj0r_s) h_ := ysh_of2 hs (fun q_ hq => absurd hq List.not_mem_nil)
  have Ho : ymem mj0r_r (yg mj0r_s) mj0r_O h_ := fun q_ hq => absurd hq List.not_mem_nil
  have HC : ∀ q_ ∈ mj0r_C, xhold mj0r_r q_ := fun q_ hq => absurd hq List.not_mem_nil
  rcases yrun (yis_ok mj0r_k) hA Hs Ho HC with ⟨q_, hq, h', K_, G_⟩ | ⟨q_, hq, h', K_, G_⟩
  · have e_ := List.mem_singleton.mp hq
    subst e_
    exact ⟨h', yfr_sm K_.2.2.2 hs K_.1 (ywa_s mj0r_w List.mem_cons_self), ⟨fun a_ j_ => yfr_bp K_.2.2.2 (fun q_ hq => absurd hq List.not_mem_nil), G_⟩⟩
  · cases hq
-- mj1l: 1 steps, 1 ends, 0 returns
def mj1l_L : List (Nat × Nat × Nat) := []
def mj1l_O : yO := []
def mj1l_A : yA := (yZ mj1l_L, [], [], [], [])
def mj1l_C : List xB := []
def mj1l_ss : List yS := [(10, [(0, .index 338)], [.index 338], [], [], [])]
def mj1l_rs : List yR := []
theorem mj1l_w : ywa mj1l_A mj1l_ss mj1l_rs = true := by decide +kernel
theorem mj1l_k : yis (yev mj1l_A 3000 60 177 [10] (9, [(0, .index 338)], [], mj1l_O, mj1l_C, [])) mj1l_ss mj1l_rs = true := by decide +kernel
def mj1l_r (k_ : Nat) : Value := .int 0
def mj1l_s (n_ : Nat) : Nat := 0
theorem mj1l {h_ : xH} (hs : sHp h_) : ∃ h', ysm h_ h' ∧ (((∀ a_ j_ : Nat, bpat h' a_ j_ = bpat h_ a_ j_) ∧ (bldD 60 177 9 [(0, .index 338)] [] h_ 10 [(0, .index 338)] [.index 338] h'))) := by
  have hA : yas mj1l_A mj1l_r (yg mj1l_s) := ⟨fun q_ hq => absurd hq List.not_mem_nil, fun q_ hq => absurd hq List.not_mem_nil, fun q_ hq => absurd hq List.not_mem_nil, fun n_ hn => yg_lo hn, fun q_ hq => absurd hq List.not_mem_nil⟩
  have Hs : ysh mj1l_A.1 (yg mj1l_s) h_ := ysh_of2 hs (fun q_ hq => absurd hq List.not_mem_nil)
  have Ho : ymem mj1l_r (yg mj1l_s) mj1l_O h_ := fun q_ hq => absurd hq List.not_mem_nil
  have HC : ∀ q_ ∈ mj1l_C, xhold mj1l_r q_ := fun q_ hq => absurd hq List.not_mem_nil
  rcases yrun (yis_ok mj1l_k) hA Hs Ho HC with ⟨q_, hq, h', K_, G_⟩ | ⟨q_, hq, h', K_, G_⟩
  · have e_ := List.mem_singleton.mp hq
    subst e_
    exact ⟨h', yfr_sm K_.2.2.2 hs K_.1 (ywa_s mj1l_w List.mem_cons_self), ⟨fun a_ j_ => yfr_bp K_.2.2.2 (fun q_ hq => absurd hq List.not_mem_nil), G_⟩⟩
  · cases hq
-- mj1n: 4 steps, 0 ends, 1 returns
def mj1n_L : List (Nat × Nat × Nat) := []
def mj1n_O : yO := []
def mj1n_A : yA := (yZ mj1n_L, [], [], [], [])
def mj1n_C : List xB := [(.eq, .arg 5, .int 38, false)]
def mj1n_ss : List yS := []
def mj1n_rs : List yR := [(some (.int 1), [], [(.eq, .arg 5, .int 38, false)], [])]
theorem mj1n_w : ywa mj1n_A mj1n_ss mj1n_rs = true := by decide +kernel
theorem mj1n_k : yis (yev mj1n_A 3000 60 177 [] (13, [(0, .index 338)], [.arg 5], mj1n_O, mj1n_C, [])) mj1n_ss mj1n_rs = true := by decide +kernel
def mj1n_r (v5 : Int32) (k_ : Nat) : Value := bif Nat.beq k_ 5 then .int v5 else (.int 0)
def mj1n_s (n_ : Nat) : Nat := 0
theorem mj1n {h_ : xH} {v5 : Int32} (hs : sHp h_) (c0_ : ¬ v5 = (38 : Int32)) : ∃ h', ysm h_ h' ∧ (((∀ a_ j_ : Nat, bpat h' a_ j_ = bpat h_ a_ j_) ∧ (∀ D_, 60 ≤ D_ → xrun D_ 177 13 [(0, .index 338)] [.int v5] h_ (some (.int (1 : Int32)), h', [])))) := by
  have hA : yas mj1n_A (mj1n_r v5) (yg mj1n_s) := ⟨fun q_ hq => absurd hq List.not_mem_nil, fun q_ hq => absurd hq List.not_mem_nil, fun q_ hq => absurd hq List.not_mem_nil, fun n_ hn => yg_lo hn, fun q_ hq => absurd hq List.not_mem_nil⟩
  have Hs : ysh mj1n_A.1 (yg mj1n_s) h_ := ysh_of2 hs (fun q_ hq => absurd hq List.not_mem_nil)
  have Ho : ymem (mj1n_r v5) (yg mj1n_s) mj1n_O h_ := fun q_ hq => absurd hq List.not_mem_nil
  have HC : ∀ q_ ∈ mj1n_C, xhold (mj1n_r v5) q_ := List.forall_mem_cons.mpr ⟨xh_eqF2 c0_, fun q_ hq => absurd hq List.not_mem_nil⟩
  rcases yrun (yis_ok mj1n_k) hA Hs Ho HC with ⟨q_, hq, h', K_, G_⟩ | ⟨q_, hq, h', K_, G_⟩
  · cases hq
  · have e_ := List.mem_singleton.mp hq
    subst e_
    exact ⟨h', yfr_sm K_.2.2.2 hs K_.1 (ywa_r mj1n_w List.mem_cons_self), ⟨fun a_ j_ => yfr_bp K_.2.2.2 (fun q_ hq => absurd hq List.not_mem_nil), G_⟩⟩
-- mj1y: 9 steps, 1 ends, 0 returns
def mj1y_L : List (Nat × Nat × Nat) := []
def mj1y_O : yO := [(338, .int 7, .arg 307)]
def mj1y_A : yA := (yZ mj1y_L, [], [], [], [])
def mj1y_C : List xB := [(.eq, .arg 5, .int 38, true)]
def mj1y_ss : List yS := [(29, [(0, .index 338)], [.index 338], [(338, .int 7, .add (.arg 307) (.int 1))], [(.eq, .arg 5, .int 38, true)], [(338, .int 7)])]
def mj1y_rs : List yR := []
theorem mj1y_w : ywa mj1y_A mj1y_ss mj1y_rs = true := by decide +kernel
theorem mj1y_k : yis (yev mj1y_A 3000 60 177 [29] (13, [(0, .index 338)], [.arg 5], mj1y_O, mj1y_C, [])) mj1y_ss mj1y_rs = true := by decide +kernel
def mj1y_r (v5 v307 : Int32) (k_ : Nat) : Value := bif Nat.beq k_ 5 then .int v5 else (bif Nat.beq k_ 307 then .int v307 else (.int 0))
def mj1y_s (n_ : Nat) : Nat := 0
theorem mj1y {h_ : xH} {v5 v307 : Int32} (hs : sHp h_) (o0_ : bpat h_ 338 7 = some (.int v307)) (c0_ : v5 = (38 : Int32)) : ∃ h', ysm h_ h' ∧ (((bpat h' 338 7 = some (.int (v307 + (1 : Int32)))) ∧ (∀ a_ j_ : Nat, ¬ (a_ = 338 ∧ j_ = 7) → bpat h' a_ j_ = bpat h_ a_ j_) ∧ (bldD 60 177 13 [(0, .index 338)] [.int v5] h_ 29 [(0, .index 338)] [.index 338] h'))) := by
  have hA : yas mj1y_A (mj1y_r v5 v307) (yg mj1y_s) := ⟨fun q_ hq => absurd hq List.not_mem_nil, fun q_ hq => absurd hq List.not_mem_nil, fun q_ hq => absurd hq List.not_mem_nil, fun n_ hn => yg_lo hn, fun q_ hq => absurd hq List.not_mem_nil⟩
  have Hs : ysh mj1y_A.1 (yg mj1y_s) h_ := ysh_of2 hs (fun q_ hq => absurd hq List.not_mem_nil)
  have Ho : ymem (mj1y_r v5 v307) (yg mj1y_s) mj1y_O h_ := List.forall_mem_cons.mpr ⟨bpat_some o0_, fun q_ hq => absurd hq List.not_mem_nil⟩
  have HC : ∀ q_ ∈ mj1y_C, xhold (mj1y_r v5 v307) q_ := List.forall_mem_cons.mpr ⟨xh_eqT2 c0_, fun q_ hq => absurd hq List.not_mem_nil⟩
  rcases yrun (yis_ok mj1y_k) hA Hs Ho HC with ⟨q_, hq, h', K_, G_⟩ | ⟨q_, hq, h', K_, G_⟩
  · have e_ := List.mem_singleton.mp hq
    subst e_
    exact ⟨h', yfr_sm K_.2.2.2 hs K_.1 (ywa_s mj1y_w List.mem_cons_self), ⟨bpat_of (K_.2.1 _ List.mem_cons_self), fun a_ j_ n0_ => yfr_bp K_.2.2.2 (List.forall_mem_cons.mpr ⟨fun e_ => n0_ ⟨e_.1.symm, e_.2.symm⟩, fun q_ hq => absurd hq List.not_mem_nil⟩), G_⟩⟩
  · cases hq
-- mj1f: 3 steps, 0 ends, 1 returns
def mj1f_L : List (Nat × Nat × Nat) := []
def mj1f_O : yO := []
def mj1f_A : yA := (yZ mj1f_L, [], [], [], [])
def mj1f_C : List xB := [(.eq, .arg 5, .int 0, true)]
def mj1f_ss : List yS := []
def mj1f_rs : List yR := [(some (.int 0), [], [(.eq, .arg 5, .int 0, true)], [])]
theorem mj1f_w : ywa mj1f_A mj1f_ss mj1f_rs = true := by decide +kernel
theorem mj1f_k : yis (yev mj1f_A 3000 60 177 [] (32, [(0, .index 338)], [.arg 5], mj1f_O, mj1f_C, [])) mj1f_ss mj1f_rs = true := by decide +kernel
def mj1f_r (v5 : Int32) (k_ : Nat) : Value := bif Nat.beq k_ 5 then .int v5 else (.int 0)
def mj1f_s (n_ : Nat) : Nat := 0
theorem mj1f {h_ : xH} {v5 : Int32} (hs : sHp h_) (c0_ : v5 = (0 : Int32)) : ∃ h', ysm h_ h' ∧ (((∀ a_ j_ : Nat, bpat h' a_ j_ = bpat h_ a_ j_) ∧ (∀ D_, 60 ≤ D_ → xrun D_ 177 32 [(0, .index 338)] [.int v5] h_ (some (.int (0 : Int32)), h', [])))) := by
  have hA : yas mj1f_A (mj1f_r v5) (yg mj1f_s) := ⟨fun q_ hq => absurd hq List.not_mem_nil, fun q_ hq => absurd hq List.not_mem_nil, fun q_ hq => absurd hq List.not_mem_nil, fun n_ hn => yg_lo hn, fun q_ hq => absurd hq List.not_mem_nil⟩
  have Hs : ysh mj1f_A.1 (yg mj1f_s) h_ := ysh_of2 hs (fun q_ hq => absurd hq List.not_mem_nil)
  have Ho : ymem (mj1f_r v5) (yg mj1f_s) mj1f_O h_ := fun q_ hq => absurd hq List.not_mem_nil
  have HC : ∀ q_ ∈ mj1f_C, xhold (mj1f_r v5) q_ := List.forall_mem_cons.mpr ⟨xh_eqT2 c0_, fun q_ hq => absurd hq List.not_mem_nil⟩
  rcases yrun (yis_ok mj1f_k) hA Hs Ho HC with ⟨q_, hq, h', K_, G_⟩ | ⟨q_, hq, h', K_, G_⟩
  · cases hq
  · have e_ := List.mem_singleton.mp hq
    subst e_
    exact ⟨h', yfr_sm K_.2.2.2 hs K_.1 (ywa_r mj1f_w List.mem_cons_self), ⟨fun a_ j_ => yfr_bp K_.2.2.2 (fun q_ hq => absurd hq List.not_mem_nil), G_⟩⟩
-- mj1t: 4 steps, 1 ends, 0 returns
def mj1t_L : List (Nat × Nat × Nat) := []
def mj1t_O : yO := []
def mj1t_A : yA := (yZ mj1t_L, [], [], [], [])
def mj1t_C : List xB := [(.eq, .arg 5, .int 0, false)]
def mj1t_ss : List yS := [(41, [(0, .index 338)], [.int 38, .int 3, .index 338], [], [(.eq, .arg 5, .int 0, false)], [])]
def mj1t_rs : List yR := []
theorem mj1t_w : ywa mj1t_A mj1t_ss mj1t_rs = true := by decide +kernel
theorem mj1t_k : yis (yev mj1t_A 3000 60 177 [41] (32, [(0, .index 338)], [.arg 5], mj1t_O, mj1t_C, [])) mj1t_ss mj1t_rs = true := by decide +kernel
def mj1t_r (v5 : Int32) (k_ : Nat) : Value := bif Nat.beq k_ 5 then .int v5 else (.int 0)
def mj1t_s (n_ : Nat) : Nat := 0
theorem mj1t {h_ : xH} {v5 : Int32} (hs : sHp h_) (c0_ : ¬ v5 = (0 : Int32)) : ∃ h', ysm h_ h' ∧ (((∀ a_ j_ : Nat, bpat h' a_ j_ = bpat h_ a_ j_) ∧ (bldD 60 177 32 [(0, .index 338)] [.int v5] h_ 41 [(0, .index 338)] [.int (38 : Int32), .int (3 : Int32), .index 338] h'))) := by
  have hA : yas mj1t_A (mj1t_r v5) (yg mj1t_s) := ⟨fun q_ hq => absurd hq List.not_mem_nil, fun q_ hq => absurd hq List.not_mem_nil, fun q_ hq => absurd hq List.not_mem_nil, fun n_ hn => yg_lo hn, fun q_ hq => absurd hq List.not_mem_nil⟩
  have Hs : ysh mj1t_A.1 (yg mj1t_s) h_ := ysh_of2 hs (fun q_ hq => absurd hq List.not_mem_nil)
  have Ho : ymem (mj1t_r v5) (yg mj1t_s) mj1t_O h_ := fun q_ hq => absurd hq List.not_mem_nil
  have HC : ∀ q_ ∈ mj1t_C, xhold (mj1t_r v5) q_ := List.forall_mem_cons.mpr ⟨xh_eqF2 c0_, fun q_ hq => absurd hq List.not_mem_nil⟩
  rcases yrun (yis_ok mj1t_k) hA Hs Ho HC with ⟨q_, hq, h', K_, G_⟩ | ⟨q_, hq, h', K_, G_⟩
  · have e_ := List.mem_singleton.mp hq
    subst e_
    exact ⟨h', yfr_sm K_.2.2.2 hs K_.1 (ywa_s mj1t_w List.mem_cons_self), ⟨fun a_ j_ => yfr_bp K_.2.2.2 (fun q_ hq => absurd hq List.not_mem_nil), G_⟩⟩
  · cases hq
-- mj1r: 1 steps, 1 ends, 0 returns
def mj1r_L : List (Nat × Nat × Nat) := []
def mj1r_O : yO := []
def mj1r_A : yA := (yZ mj1r_L, [], [], [], [])
def mj1r_C : List xB := []
def mj1r_ss : List yS := [(9, [(0, .index 338)], [], [], [], [])]
def mj1r_rs : List yR := []
theorem mj1r_w : ywa mj1r_A mj1r_ss mj1r_rs = true := by decide +kernel
theorem mj1r_k : yis (yev mj1r_A 3000 60 177 [9] (44, [(0, .index 338)], [], mj1r_O, mj1r_C, [])) mj1r_ss mj1r_rs = true := by decide +kernel
def mj1r_r (k_ : Nat) : Value := .int 0
def mj1r_s (n_ : Nat) : Nat := 0
theorem mj1r {h_ : xH} (hs : sHp h_) : ∃ h', ysm h_ h' ∧ (((∀ a_ j_ : Nat, bpat h' a_ j_ = bpat h_ a_ j_) ∧ (bldD 60 177 44 [(0, .index 338)] [] h_ 9 [(0, .index 338)] [] h'))) := by
  have hA : yas mj1r_A mj1r_r (yg mj1r_s) := ⟨fun q_ hq => absurd hq List.not_mem_nil, fun q_ hq => absurd hq List.not_mem_nil, fun q_ hq => absurd hq List.not_mem_nil, fun n_ hn => yg_lo hn, fun q_ hq => absurd hq List.not_mem_nil⟩
  have Hs : ysh mj1r_A.1 (yg mj1r_s) h_ := ysh_of2 hs (fun q_ hq => absurd hq List.not_mem_nil)
  have Ho : ymem mj1r_r (yg mj1r_s) mj1r_O h_ := fun q_ hq => absurd hq List.not_mem_nil
  have HC : ∀ q_ ∈ mj1r_C, xhold mj1r_r q_ := fun q_ hq => absurd hq List.not_mem_nil
  rcases yrun (yis_ok mj1r_k) hA Hs Ho HC with ⟨q_, hq, h', K_, G_⟩ | ⟨q_, hq, h', K_, G_⟩
  · have e_ := List.mem_singleton.mp hq
    subst e_
    exact ⟨h', yfr_sm K_.2.2.2 hs K_.1 (ywa_s mj1r_w List.mem_cons_self), ⟨fun a_ j_ => yfr_bp K_.2.2.2 (fun q_ hq => absurd hq List.not_mem_nil), G_⟩⟩
  · cases hq
-- mj2l: 1 steps, 1 ends, 0 returns
def mj2l_L : List (Nat × Nat × Nat) := []
def mj2l_O : yO := []
def mj2l_A : yA := (yZ mj2l_L, [], [], [], [])
def mj2l_C : List xB := []
def mj2l_ss : List yS := [(10, [(0, .index 338)], [.index 338], [], [], [])]
def mj2l_rs : List yR := []
theorem mj2l_w : ywa mj2l_A mj2l_ss mj2l_rs = true := by decide +kernel
theorem mj2l_k : yis (yev mj2l_A 3000 60 178 [10] (9, [(0, .index 338)], [], mj2l_O, mj2l_C, [])) mj2l_ss mj2l_rs = true := by decide +kernel
def mj2l_r (k_ : Nat) : Value := .int 0
def mj2l_s (n_ : Nat) : Nat := 0
theorem mj2l {h_ : xH} (hs : sHp h_) : ∃ h', ysm h_ h' ∧ (((∀ a_ j_ : Nat, bpat h' a_ j_ = bpat h_ a_ j_) ∧ (bldD 60 178 9 [(0, .index 338)] [] h_ 10 [(0, .index 338)] [.index 338] h'))) := by
  have hA : yas mj2l_A mj2l_r (yg mj2l_s) := ⟨fun q_ hq => absurd hq List.not_mem_nil, fun q_ hq => absurd hq List.not_mem_nil, fun q_ hq => absurd hq List.not_mem_nil, fun n_ hn => yg_lo hn, fun q_ hq => absurd hq List.not_mem_nil⟩
  have Hs : ysh mj2l_A.1 (yg mj2l_s) h_ := ysh_of2 hs (fun q_ hq => absurd hq List.not_mem_nil)
  have Ho : ymem mj2l_r (yg mj2l_s) mj2l_O h_ := fun q_ hq => absurd hq List.not_mem_nil
  have HC : ∀ q_ ∈ mj2l_C, xhold mj2l_r q_ := fun q_ hq => absurd hq List.not_mem_nil
  rcases yrun (yis_ok mj2l_k) hA Hs Ho HC with ⟨q_, hq, h', K_, G_⟩ | ⟨q_, hq, h', K_, G_⟩
  · have e_ := List.mem_singleton.mp hq
    subst e_
    exact ⟨h', yfr_sm K_.2.2.2 hs K_.1 (ywa_s mj2l_w List.mem_cons_self), ⟨fun a_ j_ => yfr_bp K_.2.2.2 (fun q_ hq => absurd hq List.not_mem_nil), G_⟩⟩
  · cases hq
-- mj2n: 12 steps, 0 ends, 1 returns
def mj2n_L : List (Nat × Nat × Nat) := []
def mj2n_O : yO := []
def mj2n_A : yA := (yZ mj2n_L, [], [], [], [])
def mj2n_C : List xB := [(.eq, .arg 5, .int 60, false), (.eq, .arg 5, .int 61, false), (.eq, .arg 5, .int 62, false)]
def mj2n_ss : List yS := []
def mj2n_rs : List yR := [(some (.int 1), [], [(.eq, .arg 5, .int 60, false), (.eq, .arg 5, .int 61, false), (.eq, .arg 5, .int 62, false)], [])]
theorem mj2n_w : ywa mj2n_A mj2n_ss mj2n_rs = true := by decide +kernel
theorem mj2n_k : yis (yev mj2n_A 3000 60 178 [] (13, [(0, .index 338)], [.arg 5], mj2n_O, mj2n_C, [])) mj2n_ss mj2n_rs = true := by decide +kernel
def mj2n_r (v5 : Int32) (k_ : Nat) : Value := bif Nat.beq k_ 5 then .int v5 else (.int 0)
def mj2n_s (n_ : Nat) : Nat := 0
theorem mj2n {h_ : xH} {v5 : Int32} (hs : sHp h_) (c0_ : ¬ v5 = (60 : Int32)) (c1_ : ¬ v5 = (61 : Int32)) (c2_ : ¬ v5 = (62 : Int32)) : ∃ h', ysm h_ h' ∧ (((∀ a_ j_ : Nat, bpat h' a_ j_ = bpat h_ a_ j_) ∧ (∀ D_, 60 ≤ D_ → xrun D_ 178 13 [(0, .index 338)] [.int v5] h_ (some (.int (1 : Int32)), h', [])))) := by
  have hA : yas mj2n_A (mj2n_r v5) (yg mj2n_s) := ⟨fun q_ hq => absurd hq List.not_mem_nil, fun q_ hq => absurd hq List.not_mem_nil, fun q_ hq => absurd hq List.not_mem_nil, fun n_ hn => yg_lo hn, fun q_ hq => absurd hq List.not_mem_nil⟩
  have Hs : ysh mj2n_A.1 (yg mj2n_s) h_ := ysh_of2 hs (fun q_ hq => absurd hq List.not_mem_nil)
  have Ho : ymem (mj2n_r v5) (yg mj2n_s) mj2n_O h_ := fun q_ hq => absurd hq List.not_mem_nil
  have HC : ∀ q_ ∈ mj2n_C, xhold (mj2n_r v5) q_ := List.forall_mem_cons.mpr ⟨xh_eqF2 c0_, List.forall_mem_cons.mpr ⟨xh_eqF2 c1_, List.forall_mem_cons.mpr ⟨xh_eqF2 c2_, fun q_ hq => absurd hq List.not_mem_nil⟩⟩⟩
  rcases yrun (yis_ok mj2n_k) hA Hs Ho HC with ⟨q_, hq, h', K_, G_⟩ | ⟨q_, hq, h', K_, G_⟩
  · cases hq
  · have e_ := List.mem_singleton.mp hq
    subst e_
    exact ⟨h', yfr_sm K_.2.2.2 hs K_.1 (ywa_r mj2n_w List.mem_cons_self), ⟨fun a_ j_ => yfr_bp K_.2.2.2 (fun q_ hq => absurd hq List.not_mem_nil), G_⟩⟩
-- mj2y60: 11 steps, 1 ends, 0 returns
def mj2y60_L : List (Nat × Nat × Nat) := []
def mj2y60_O : yO := [(338, .int 7, .arg 307)]
def mj2y60_A : yA := (yZ mj2y60_L, [], [], [], [])
def mj2y60_C : List xB := [(.eq, .arg 5, .int 60, true)]
def mj2y60_ss : List yS := [(45, [(1, .arg 5), (0, .index 338)], [.index 338], [(338, .int 7, .add (.arg 307) (.int 1))], [(.eq, .arg 5, .int 60, true)], [(338, .int 7)])]
def mj2y60_rs : List yR := []
theorem mj2y60_w : ywa mj2y60_A mj2y60_ss mj2y60_rs = true := by decide +kernel
theorem mj2y60_k : yis (yev mj2y60_A 3000 60 178 [45] (13, [(0, .index 338)], [.arg 5], mj2y60_O, mj2y60_C, [])) mj2y60_ss mj2y60_rs = true := by decide +kernel
def mj2y60_r (v5 v307 : Int32) (k_ : Nat) : Value := bif Nat.beq k_ 5 then .int v5 else (bif Nat.beq k_ 307 then .int v307 else (.int 0))
def mj2y60_s (n_ : Nat) : Nat := 0
theorem mj2y60 {h_ : xH} {v5 v307 : Int32} (hs : sHp h_) (o0_ : bpat h_ 338 7 = some (.int v307)) (c0_ : v5 = (60 : Int32)) : ∃ h', ysm h_ h' ∧ (((bpat h' 338 7 = some (.int (v307 + (1 : Int32)))) ∧ (∀ a_ j_ : Nat, ¬ (a_ = 338 ∧ j_ = 7) → bpat h' a_ j_ = bpat h_ a_ j_) ∧ (bldD 60 178 13 [(0, .index 338)] [.int v5] h_ 45 [(1, .int v5), (0, .index 338)] [.index 338] h'))) := by
  have hA : yas mj2y60_A (mj2y60_r v5 v307) (yg mj2y60_s) := ⟨fun q_ hq => absurd hq List.not_mem_nil, fun q_ hq => absurd hq List.not_mem_nil, fun q_ hq => absurd hq List.not_mem_nil, fun n_ hn => yg_lo hn, fun q_ hq => absurd hq List.not_mem_nil⟩
  have Hs : ysh mj2y60_A.1 (yg mj2y60_s) h_ := ysh_of2 hs (fun q_ hq => absurd hq List.not_mem_nil)
  have Ho : ymem (mj2y60_r v5 v307) (yg mj2y60_s) mj2y60_O h_ := List.forall_mem_cons.mpr ⟨bpat_some o0_, fun q_ hq => absurd hq List.not_mem_nil⟩
  have HC : ∀ q_ ∈ mj2y60_C, xhold (mj2y60_r v5 v307) q_ := List.forall_mem_cons.mpr ⟨xh_eqT2 c0_, fun q_ hq => absurd hq List.not_mem_nil⟩
  rcases yrun (yis_ok mj2y60_k) hA Hs Ho HC with ⟨q_, hq, h', K_, G_⟩ | ⟨q_, hq, h', K_, G_⟩
  · have e_ := List.mem_singleton.mp hq
    subst e_
    exact ⟨h', yfr_sm K_.2.2.2 hs K_.1 (ywa_s mj2y60_w List.mem_cons_self), ⟨bpat_of (K_.2.1 _ List.mem_cons_self), fun a_ j_ n0_ => yfr_bp K_.2.2.2 (List.forall_mem_cons.mpr ⟨fun e_ => n0_ ⟨e_.1.symm, e_.2.symm⟩, fun q_ hq => absurd hq List.not_mem_nil⟩), G_⟩⟩
  · cases hq
-- mj2y61: 14 steps, 1 ends, 0 returns
def mj2y61_L : List (Nat × Nat × Nat) := []
def mj2y61_O : yO := [(338, .int 7, .arg 307)]
def mj2y61_A : yA := (yZ mj2y61_L, [], [], [], [])
def mj2y61_C : List xB := [(.eq, .arg 5, .int 61, true), (.eq, .arg 5, .int 60, false)]
def mj2y61_ss : List yS := [(45, [(1, .arg 5), (0, .index 338)], [.index 338], [(338, .int 7, .add (.arg 307) (.int 1))], [(.eq, .arg 5, .int 61, true), (.eq, .arg 5, .int 60, false)], [(338, .int 7)])]
def mj2y61_rs : List yR := []
theorem mj2y61_w : ywa mj2y61_A mj2y61_ss mj2y61_rs = true := by decide +kernel
theorem mj2y61_k : yis (yev mj2y61_A 3000 60 178 [45] (13, [(0, .index 338)], [.arg 5], mj2y61_O, mj2y61_C, [])) mj2y61_ss mj2y61_rs = true := by decide +kernel
def mj2y61_r (v5 v307 : Int32) (k_ : Nat) : Value := bif Nat.beq k_ 5 then .int v5 else (bif Nat.beq k_ 307 then .int v307 else (.int 0))
def mj2y61_s (n_ : Nat) : Nat := 0
theorem mj2y61 {h_ : xH} {v5 v307 : Int32} (hs : sHp h_) (o0_ : bpat h_ 338 7 = some (.int v307)) (c0_ : v5 = (61 : Int32)) (c1_ : ¬ v5 = (60 : Int32)) : ∃ h', ysm h_ h' ∧ (((bpat h' 338 7 = some (.int (v307 + (1 : Int32)))) ∧ (∀ a_ j_ : Nat, ¬ (a_ = 338 ∧ j_ = 7) → bpat h' a_ j_ = bpat h_ a_ j_) ∧ (bldD 60 178 13 [(0, .index 338)] [.int v5] h_ 45 [(1, .int v5), (0, .index 338)] [.index 338] h'))) := by
  have hA : yas mj2y61_A (mj2y61_r v5 v307) (yg mj2y61_s) := ⟨fun q_ hq => absurd hq List.not_mem_nil, fun q_ hq => absurd hq List.not_mem_nil, fun q_ hq => absurd hq List.not_mem_nil, fun n_ hn => yg_lo hn, fun q_ hq => absurd hq List.not_mem_nil⟩
  have Hs : ysh mj2y61_A.1 (yg mj2y61_s) h_ := ysh_of2 hs (fun q_ hq => absurd hq List.not_mem_nil)
  have Ho : ymem (mj2y61_r v5 v307) (yg mj2y61_s) mj2y61_O h_ := List.forall_mem_cons.mpr ⟨bpat_some o0_, fun q_ hq => absurd hq List.not_mem_nil⟩
  have HC : ∀ q_ ∈ mj2y61_C, xhold (mj2y61_r v5 v307) q_ := List.forall_mem_cons.mpr ⟨xh_eqT2 c0_, List.forall_mem_cons.mpr ⟨xh_eqF2 c1_, fun q_ hq => absurd hq List.not_mem_nil⟩⟩
  rcases yrun (yis_ok mj2y61_k) hA Hs Ho HC with ⟨q_, hq, h', K_, G_⟩ | ⟨q_, hq, h', K_, G_⟩
  · have e_ := List.mem_singleton.mp hq
    subst e_
    exact ⟨h', yfr_sm K_.2.2.2 hs K_.1 (ywa_s mj2y61_w List.mem_cons_self), ⟨bpat_of (K_.2.1 _ List.mem_cons_self), fun a_ j_ n0_ => yfr_bp K_.2.2.2 (List.forall_mem_cons.mpr ⟨fun e_ => n0_ ⟨e_.1.symm, e_.2.symm⟩, fun q_ hq => absurd hq List.not_mem_nil⟩), G_⟩⟩
  · cases hq
-- mj2y62: 17 steps, 1 ends, 0 returns
def mj2y62_L : List (Nat × Nat × Nat) := []
def mj2y62_O : yO := [(338, .int 7, .arg 307)]
def mj2y62_A : yA := (yZ mj2y62_L, [], [], [], [])
def mj2y62_C : List xB := [(.eq, .arg 5, .int 62, true), (.eq, .arg 5, .int 60, false), (.eq, .arg 5, .int 61, false)]
def mj2y62_ss : List yS := [(45, [(1, .arg 5), (0, .index 338)], [.index 338], [(338, .int 7, .add (.arg 307) (.int 1))], [(.eq, .arg 5, .int 62, true), (.eq, .arg 5, .int 60, false), (.eq, .arg 5, .int 61, false)], [(338, .int 7)])]
def mj2y62_rs : List yR := []
theorem mj2y62_w : ywa mj2y62_A mj2y62_ss mj2y62_rs = true := by decide +kernel
theorem mj2y62_k : yis (yev mj2y62_A 3000 60 178 [45] (13, [(0, .index 338)], [.arg 5], mj2y62_O, mj2y62_C, [])) mj2y62_ss mj2y62_rs = true := by decide +kernel
def mj2y62_r (v5 v307 : Int32) (k_ : Nat) : Value := bif Nat.beq k_ 5 then .int v5 else (bif Nat.beq k_ 307 then .int v307 else (.int 0))
def mj2y62_s (n_ : Nat) : Nat := 0
theorem mj2y62 {h_ : xH} {v5 v307 : Int32} (hs : sHp h_) (o0_ : bpat h_ 338 7 = some (.int v307)) (c0_ : v5 = (62 : Int32)) (c1_ : ¬ v5 = (60 : Int32)) (c2_ : ¬ v5 = (61 : Int32)) : ∃ h', ysm h_ h' ∧ (((bpat h' 338 7 = some (.int (v307 + (1 : Int32)))) ∧ (∀ a_ j_ : Nat, ¬ (a_ = 338 ∧ j_ = 7) → bpat h' a_ j_ = bpat h_ a_ j_) ∧ (bldD 60 178 13 [(0, .index 338)] [.int v5] h_ 45 [(1, .int v5), (0, .index 338)] [.index 338] h'))) := by
  have hA : yas mj2y62_A (mj2y62_r v5 v307) (yg mj2y62_s) := ⟨fun q_ hq => absurd hq List.not_mem_nil, fun q_ hq => absurd hq List.not_mem_nil, fun q_ hq => absurd hq List.not_mem_nil, fun n_ hn => yg_lo hn, fun q_ hq => absurd hq List.not_mem_nil⟩
  have Hs : ysh mj2y62_A.1 (yg mj2y62_s) h_ := ysh_of2 hs (fun q_ hq => absurd hq List.not_mem_nil)
  have Ho : ymem (mj2y62_r v5 v307) (yg mj2y62_s) mj2y62_O h_ := List.forall_mem_cons.mpr ⟨bpat_some o0_, fun q_ hq => absurd hq List.not_mem_nil⟩
  have HC : ∀ q_ ∈ mj2y62_C, xhold (mj2y62_r v5 v307) q_ := List.forall_mem_cons.mpr ⟨xh_eqT2 c0_, List.forall_mem_cons.mpr ⟨xh_eqF2 c1_, List.forall_mem_cons.mpr ⟨xh_eqF2 c2_, fun q_ hq => absurd hq List.not_mem_nil⟩⟩⟩
  rcases yrun (yis_ok mj2y62_k) hA Hs Ho HC with ⟨q_, hq, h', K_, G_⟩ | ⟨q_, hq, h', K_, G_⟩
  · have e_ := List.mem_singleton.mp hq
    subst e_
    exact ⟨h', yfr_sm K_.2.2.2 hs K_.1 (ywa_s mj2y62_w List.mem_cons_self), ⟨bpat_of (K_.2.1 _ List.mem_cons_self), fun a_ j_ n0_ => yfr_bp K_.2.2.2 (List.forall_mem_cons.mpr ⟨fun e_ => n0_ ⟨e_.1.symm, e_.2.symm⟩, fun q_ hq => absurd hq List.not_mem_nil⟩), G_⟩⟩
  · cases hq
-- mj2f: 3 steps, 0 ends, 1 returns
def mj2f_L : List (Nat × Nat × Nat) := []
def mj2f_O : yO := []
def mj2f_A : yA := (yZ mj2f_L, [], [], [], [])
def mj2f_C : List xB := [(.eq, .arg 5, .int 0, true)]
def mj2f_ss : List yS := []
def mj2f_rs : List yR := [(some (.int 0), [], [(.eq, .arg 5, .int 0, true)], [])]
theorem mj2f_w : ywa mj2f_A mj2f_ss mj2f_rs = true := by decide +kernel
theorem mj2f_k : yis (yev mj2f_A 3000 60 178 [] (48, [(1, .arg 1), (0, .index 338)], [.arg 5], mj2f_O, mj2f_C, [])) mj2f_ss mj2f_rs = true := by decide +kernel
def mj2f_r (v1_ v5 : Int32) (k_ : Nat) : Value := bif Nat.beq k_ 1 then .int v1_ else (bif Nat.beq k_ 5 then .int v5 else (.int 0))
def mj2f_s (n_ : Nat) : Nat := 0
theorem mj2f {h_ : xH} {v1_ v5 : Int32} (hs : sHp h_) (c0_ : v5 = (0 : Int32)) : ∃ h', ysm h_ h' ∧ (((∀ a_ j_ : Nat, bpat h' a_ j_ = bpat h_ a_ j_) ∧ (∀ D_, 60 ≤ D_ → xrun D_ 178 48 [(1, .int v1_), (0, .index 338)] [.int v5] h_ (some (.int (0 : Int32)), h', [])))) := by
  have hA : yas mj2f_A (mj2f_r v1_ v5) (yg mj2f_s) := ⟨fun q_ hq => absurd hq List.not_mem_nil, fun q_ hq => absurd hq List.not_mem_nil, fun q_ hq => absurd hq List.not_mem_nil, fun n_ hn => yg_lo hn, fun q_ hq => absurd hq List.not_mem_nil⟩
  have Hs : ysh mj2f_A.1 (yg mj2f_s) h_ := ysh_of2 hs (fun q_ hq => absurd hq List.not_mem_nil)
  have Ho : ymem (mj2f_r v1_ v5) (yg mj2f_s) mj2f_O h_ := fun q_ hq => absurd hq List.not_mem_nil
  have HC : ∀ q_ ∈ mj2f_C, xhold (mj2f_r v1_ v5) q_ := List.forall_mem_cons.mpr ⟨xh_eqT2 c0_, fun q_ hq => absurd hq List.not_mem_nil⟩
  rcases yrun (yis_ok mj2f_k) hA Hs Ho HC with ⟨q_, hq, h', K_, G_⟩ | ⟨q_, hq, h', K_, G_⟩
  · cases hq
  · have e_ := List.mem_singleton.mp hq
    subst e_
    exact ⟨h', yfr_sm K_.2.2.2 hs K_.1 (ywa_r mj2f_w List.mem_cons_self), ⟨fun a_ j_ => yfr_bp K_.2.2.2 (fun q_ hq => absurd hq List.not_mem_nil), G_⟩⟩
-- mj2t: 4 steps, 1 ends, 0 returns
def mj2t_L : List (Nat × Nat × Nat) := []
def mj2t_O : yO := []
def mj2t_A : yA := (yZ mj2t_L, [], [], [], [])
def mj2t_C : List xB := [(.eq, .arg 5, .int 0, false)]
def mj2t_ss : List yS := [(56, [(1, .arg 1), (0, .index 338)], [.arg 1, .int 3, .index 338], [], [(.eq, .arg 5, .int 0, false)], [])]
def mj2t_rs : List yR := []
theorem mj2t_w : ywa mj2t_A mj2t_ss mj2t_rs = true := by decide +kernel
theorem mj2t_k : yis (yev mj2t_A 3000 60 178 [56] (48, [(1, .arg 1), (0, .index 338)], [.arg 5], mj2t_O, mj2t_C, [])) mj2t_ss mj2t_rs = true := by decide +kernel
def mj2t_r (v1_ v5 : Int32) (k_ : Nat) : Value := bif Nat.beq k_ 1 then .int v1_ else (bif Nat.beq k_ 5 then .int v5 else (.int 0))
def mj2t_s (n_ : Nat) : Nat := 0
theorem mj2t {h_ : xH} {v1_ v5 : Int32} (hs : sHp h_) (c0_ : ¬ v5 = (0 : Int32)) : ∃ h', ysm h_ h' ∧ (((∀ a_ j_ : Nat, bpat h' a_ j_ = bpat h_ a_ j_) ∧ (bldD 60 178 48 [(1, .int v1_), (0, .index 338)] [.int v5] h_ 56 [(1, .int v1_), (0, .index 338)] [.int v1_, .int (3 : Int32), .index 338] h'))) := by
  have hA : yas mj2t_A (mj2t_r v1_ v5) (yg mj2t_s) := ⟨fun q_ hq => absurd hq List.not_mem_nil, fun q_ hq => absurd hq List.not_mem_nil, fun q_ hq => absurd hq List.not_mem_nil, fun n_ hn => yg_lo hn, fun q_ hq => absurd hq List.not_mem_nil⟩
  have Hs : ysh mj2t_A.1 (yg mj2t_s) h_ := ysh_of2 hs (fun q_ hq => absurd hq List.not_mem_nil)
  have Ho : ymem (mj2t_r v1_ v5) (yg mj2t_s) mj2t_O h_ := fun q_ hq => absurd hq List.not_mem_nil
  have HC : ∀ q_ ∈ mj2t_C, xhold (mj2t_r v1_ v5) q_ := List.forall_mem_cons.mpr ⟨xh_eqF2 c0_, fun q_ hq => absurd hq List.not_mem_nil⟩
  rcases yrun (yis_ok mj2t_k) hA Hs Ho HC with ⟨q_, hq, h', K_, G_⟩ | ⟨q_, hq, h', K_, G_⟩
  · have e_ := List.mem_singleton.mp hq
    subst e_
    exact ⟨h', yfr_sm K_.2.2.2 hs K_.1 (ywa_s mj2t_w List.mem_cons_self), ⟨fun a_ j_ => yfr_bp K_.2.2.2 (fun q_ hq => absurd hq List.not_mem_nil), G_⟩⟩
  · cases hq
-- mj2r: 2 steps, 0 ends, 1 returns
def mj2r_L : List (Nat × Nat × Nat) := []
def mj2r_O : yO := []
def mj2r_A : yA := (yZ mj2r_L, [], [], [], [])
def mj2r_C : List xB := []
def mj2r_ss : List yS := []
def mj2r_rs : List yR := [(some (.int 1), [], [], [])]
theorem mj2r_w : ywa mj2r_A mj2r_ss mj2r_rs = true := by decide +kernel
theorem mj2r_k : yis (yev mj2r_A 3000 60 178 [] (59, [(1, .arg 1), (0, .index 338)], [], mj2r_O, mj2r_C, [])) mj2r_ss mj2r_rs = true := by decide +kernel
def mj2r_r (v1_ : Int32) (k_ : Nat) : Value := bif Nat.beq k_ 1 then .int v1_ else (.int 0)
def mj2r_s (n_ : Nat) : Nat := 0
theorem mj2r {h_ : xH} {v1_ : Int32} (hs : sHp h_) : ∃ h', ysm h_ h' ∧ (((∀ a_ j_ : Nat, bpat h' a_ j_ = bpat h_ a_ j_) ∧ (∀ D_, 60 ≤ D_ → xrun D_ 178 59 [(1, .int v1_), (0, .index 338)] [] h_ (some (.int (1 : Int32)), h', [])))) := by
  have hA : yas mj2r_A (mj2r_r v1_) (yg mj2r_s) := ⟨fun q_ hq => absurd hq List.not_mem_nil, fun q_ hq => absurd hq List.not_mem_nil, fun q_ hq => absurd hq List.not_mem_nil, fun n_ hn => yg_lo hn, fun q_ hq => absurd hq List.not_mem_nil⟩
  have Hs : ysh mj2r_A.1 (yg mj2r_s) h_ := ysh_of2 hs (fun q_ hq => absurd hq List.not_mem_nil)
  have Ho : ymem (mj2r_r v1_) (yg mj2r_s) mj2r_O h_ := fun q_ hq => absurd hq List.not_mem_nil
  have HC : ∀ q_ ∈ mj2r_C, xhold (mj2r_r v1_) q_ := fun q_ hq => absurd hq List.not_mem_nil
  rcases yrun (yis_ok mj2r_k) hA Hs Ho HC with ⟨q_, hq, h', K_, G_⟩ | ⟨q_, hq, h', K_, G_⟩
  · cases hq
  · have e_ := List.mem_singleton.mp hq
    subst e_
    exact ⟨h', yfr_sm K_.2.2.2 hs K_.1 (ywa_r mj2r_w List.mem_cons_self), ⟨fun a_ j_ => yfr_bp K_.2.2.2 (fun q_ hq => absurd hq List.not_mem_nil), G_⟩⟩
-- mj3lA: 1 steps, 1 ends, 0 returns
def mj3lA_L : List (Nat × Nat × Nat) := []
def mj3lA_O : yO := []
def mj3lA_A : yA := (yZ mj3lA_L, [], [], [], [])
def mj3lA_C : List xB := []
def mj3lA_ss : List yS := [(10, [(0, .index 338)], [.index 338], [], [], [])]
def mj3lA_rs : List yR := []
theorem mj3lA_w : ywa mj3lA_A mj3lA_ss mj3lA_rs = true := by decide +kernel
theorem mj3lA_k : yis (yev mj3lA_A 3000 60 179 [10] (9, [(0, .index 338)], [], mj3lA_O, mj3lA_C, [])) mj3lA_ss mj3lA_rs = true := by decide +kernel
def mj3lA_r (k_ : Nat) : Value := .int 0
def mj3lA_s (n_ : Nat) : Nat := 0
theorem mj3lA {h_ : xH} (hs : sHp h_) : ∃ h', ysm h_ h' ∧ (((∀ a_ j_ : Nat, bpat h' a_ j_ = bpat h_ a_ j_) ∧ (bldD 60 179 9 [(0, .index 338)] [] h_ 10 [(0, .index 338)] [.index 338] h'))) := by
  have hA : yas mj3lA_A mj3lA_r (yg mj3lA_s) := ⟨fun q_ hq => absurd hq List.not_mem_nil, fun q_ hq => absurd hq List.not_mem_nil, fun q_ hq => absurd hq List.not_mem_nil, fun n_ hn => yg_lo hn, fun q_ hq => absurd hq List.not_mem_nil⟩
  have Hs : ysh mj3lA_A.1 (yg mj3lA_s) h_ := ysh_of2 hs (fun q_ hq => absurd hq List.not_mem_nil)
  have Ho : ymem mj3lA_r (yg mj3lA_s) mj3lA_O h_ := fun q_ hq => absurd hq List.not_mem_nil
  have HC : ∀ q_ ∈ mj3lA_C, xhold mj3lA_r q_ := fun q_ hq => absurd hq List.not_mem_nil
  rcases yrun (yis_ok mj3lA_k) hA Hs Ho HC with ⟨q_, hq, h', K_, G_⟩ | ⟨q_, hq, h', K_, G_⟩
  · have e_ := List.mem_singleton.mp hq
    subst e_
    exact ⟨h', yfr_sm K_.2.2.2 hs K_.1 (ywa_s mj3lA_w List.mem_cons_self), ⟨fun a_ j_ => yfr_bp K_.2.2.2 (fun q_ hq => absurd hq List.not_mem_nil), G_⟩⟩
  · cases hq
-- mj3pA: 3 steps, 1 ends, 0 returns
def mj3pA_L : List (Nat × Nat × Nat) := []
def mj3pA_O : yO := []
def mj3pA_A : yA := (yZ mj3pA_L, [], [], [], [])
def mj3pA_C : List xB := [(.eq, .arg 5, .int 43, true)]
def mj3pA_ss : List yS := [(28, [(0, .index 338)], [.index 338], [], [(.eq, .arg 5, .int 43, true)], [])]
def mj3pA_rs : List yR := []
theorem mj3pA_w : ywa mj3pA_A mj3pA_ss mj3pA_rs = true := by decide +kernel
theorem mj3pA_k : yis (yev mj3pA_A 3000 60 179 [28] (13, [(0, .index 338)], [.arg 5], mj3pA_O, mj3pA_C, [])) mj3pA_ss mj3pA_rs = true := by decide +kernel
def mj3pA_r (v5 : Int32) (k_ : Nat) : Value := bif Nat.beq k_ 5 then .int v5 else (.int 0)
def mj3pA_s (n_ : Nat) : Nat := 0
theorem mj3pA {h_ : xH} {v5 : Int32} (hs : sHp h_) (c0_ : v5 = (43 : Int32)) : ∃ h', ysm h_ h' ∧ (((∀ a_ j_ : Nat, bpat h' a_ j_ = bpat h_ a_ j_) ∧ (bldD 60 179 13 [(0, .index 338)] [.int v5] h_ 28 [(0, .index 338)] [.index 338] h'))) := by
  have hA : yas mj3pA_A (mj3pA_r v5) (yg mj3pA_s) := ⟨fun q_ hq => absurd hq List.not_mem_nil, fun q_ hq => absurd hq List.not_mem_nil, fun q_ hq => absurd hq List.not_mem_nil, fun n_ hn => yg_lo hn, fun q_ hq => absurd hq List.not_mem_nil⟩
  have Hs : ysh mj3pA_A.1 (yg mj3pA_s) h_ := ysh_of2 hs (fun q_ hq => absurd hq List.not_mem_nil)
  have Ho : ymem (mj3pA_r v5) (yg mj3pA_s) mj3pA_O h_ := fun q_ hq => absurd hq List.not_mem_nil
  have HC : ∀ q_ ∈ mj3pA_C, xhold (mj3pA_r v5) q_ := List.forall_mem_cons.mpr ⟨xh_eqT2 c0_, fun q_ hq => absurd hq List.not_mem_nil⟩
  rcases yrun (yis_ok mj3pA_k) hA Hs Ho HC with ⟨q_, hq, h', K_, G_⟩ | ⟨q_, hq, h', K_, G_⟩
  · have e_ := List.mem_singleton.mp hq
    subst e_
    exact ⟨h', yfr_sm K_.2.2.2 hs K_.1 (ywa_s mj3pA_w List.mem_cons_self), ⟨fun a_ j_ => yfr_bp K_.2.2.2 (fun q_ hq => absurd hq List.not_mem_nil), G_⟩⟩
  · cases hq
-- mj3qA: 3 steps, 1 ends, 0 returns
def mj3qA_L : List (Nat × Nat × Nat) := []
def mj3qA_O : yO := []
def mj3qA_A : yA := (yZ mj3qA_L, [], [], [], [])
def mj3qA_C : List xB := [(.eq, .arg 5, .int 43, false)]
def mj3qA_ss : List yS := [(19, [(0, .index 338)], [.index 338], [], [(.eq, .arg 5, .int 43, false)], [])]
def mj3qA_rs : List yR := []
theorem mj3qA_w : ywa mj3qA_A mj3qA_ss mj3qA_rs = true := by decide +kernel
theorem mj3qA_k : yis (yev mj3qA_A 3000 60 179 [19] (13, [(0, .index 338)], [.arg 5], mj3qA_O, mj3qA_C, [])) mj3qA_ss mj3qA_rs = true := by decide +kernel
def mj3qA_r (v5 : Int32) (k_ : Nat) : Value := bif Nat.beq k_ 5 then .int v5 else (.int 0)
def mj3qA_s (n_ : Nat) : Nat := 0
theorem mj3qA {h_ : xH} {v5 : Int32} (hs : sHp h_) (c0_ : ¬ v5 = (43 : Int32)) : ∃ h', ysm h_ h' ∧ (((∀ a_ j_ : Nat, bpat h' a_ j_ = bpat h_ a_ j_) ∧ (bldD 60 179 13 [(0, .index 338)] [.int v5] h_ 19 [(0, .index 338)] [.index 338] h'))) := by
  have hA : yas mj3qA_A (mj3qA_r v5) (yg mj3qA_s) := ⟨fun q_ hq => absurd hq List.not_mem_nil, fun q_ hq => absurd hq List.not_mem_nil, fun q_ hq => absurd hq List.not_mem_nil, fun n_ hn => yg_lo hn, fun q_ hq => absurd hq List.not_mem_nil⟩
  have Hs : ysh mj3qA_A.1 (yg mj3qA_s) h_ := ysh_of2 hs (fun q_ hq => absurd hq List.not_mem_nil)
  have Ho : ymem (mj3qA_r v5) (yg mj3qA_s) mj3qA_O h_ := fun q_ hq => absurd hq List.not_mem_nil
  have HC : ∀ q_ ∈ mj3qA_C, xhold (mj3qA_r v5) q_ := List.forall_mem_cons.mpr ⟨xh_eqF2 c0_, fun q_ hq => absurd hq List.not_mem_nil⟩
  rcases yrun (yis_ok mj3qA_k) hA Hs Ho HC with ⟨q_, hq, h', K_, G_⟩ | ⟨q_, hq, h', K_, G_⟩
  · have e_ := List.mem_singleton.mp hq
    subst e_
    exact ⟨h', yfr_sm K_.2.2.2 hs K_.1 (ywa_s mj3qA_w List.mem_cons_self), ⟨fun a_ j_ => yfr_bp K_.2.2.2 (fun q_ hq => absurd hq List.not_mem_nil), G_⟩⟩
  · cases hq
-- mj3mA: 3 steps, 1 ends, 0 returns
def mj3mA_L : List (Nat × Nat × Nat) := []
def mj3mA_O : yO := []
def mj3mA_A : yA := (yZ mj3mA_L, [], [], [], [])
def mj3mA_C : List xB := [(.eq, .arg 5, .int 45, true)]
def mj3mA_ss : List yS := [(28, [(0, .index 338)], [.index 338], [], [(.eq, .arg 5, .int 45, true)], [])]
def mj3mA_rs : List yR := []
theorem mj3mA_w : ywa mj3mA_A mj3mA_ss mj3mA_rs = true := by decide +kernel
theorem mj3mA_k : yis (yev mj3mA_A 3000 60 179 [28] (22, [(0, .index 338)], [.arg 5], mj3mA_O, mj3mA_C, [])) mj3mA_ss mj3mA_rs = true := by decide +kernel
def mj3mA_r (v5 : Int32) (k_ : Nat) : Value := bif Nat.beq k_ 5 then .int v5 else (.int 0)
def mj3mA_s (n_ : Nat) : Nat := 0
theorem mj3mA {h_ : xH} {v5 : Int32} (hs : sHp h_) (c0_ : v5 = (45 : Int32)) : ∃ h', ysm h_ h' ∧ (((∀ a_ j_ : Nat, bpat h' a_ j_ = bpat h_ a_ j_) ∧ (bldD 60 179 22 [(0, .index 338)] [.int v5] h_ 28 [(0, .index 338)] [.index 338] h'))) := by
  have hA : yas mj3mA_A (mj3mA_r v5) (yg mj3mA_s) := ⟨fun q_ hq => absurd hq List.not_mem_nil, fun q_ hq => absurd hq List.not_mem_nil, fun q_ hq => absurd hq List.not_mem_nil, fun n_ hn => yg_lo hn, fun q_ hq => absurd hq List.not_mem_nil⟩
  have Hs : ysh mj3mA_A.1 (yg mj3mA_s) h_ := ysh_of2 hs (fun q_ hq => absurd hq List.not_mem_nil)
  have Ho : ymem (mj3mA_r v5) (yg mj3mA_s) mj3mA_O h_ := fun q_ hq => absurd hq List.not_mem_nil
  have HC : ∀ q_ ∈ mj3mA_C, xhold (mj3mA_r v5) q_ := List.forall_mem_cons.mpr ⟨xh_eqT2 c0_, fun q_ hq => absurd hq List.not_mem_nil⟩
  rcases yrun (yis_ok mj3mA_k) hA Hs Ho HC with ⟨q_, hq, h', K_, G_⟩ | ⟨q_, hq, h', K_, G_⟩
  · have e_ := List.mem_singleton.mp hq
    subst e_
    exact ⟨h', yfr_sm K_.2.2.2 hs K_.1 (ywa_s mj3mA_w List.mem_cons_self), ⟨fun a_ j_ => yfr_bp K_.2.2.2 (fun q_ hq => absurd hq List.not_mem_nil), G_⟩⟩
  · cases hq
-- mj3nA: 4 steps, 0 ends, 1 returns
def mj3nA_L : List (Nat × Nat × Nat) := []
def mj3nA_O : yO := []
def mj3nA_A : yA := (yZ mj3nA_L, [], [], [], [])
def mj3nA_C : List xB := [(.eq, .arg 5, .int 45, false)]
def mj3nA_ss : List yS := []
def mj3nA_rs : List yR := [(some (.int 1), [], [(.eq, .arg 5, .int 45, false)], [])]
theorem mj3nA_w : ywa mj3nA_A mj3nA_ss mj3nA_rs = true := by decide +kernel
theorem mj3nA_k : yis (yev mj3nA_A 3000 60 179 [] (22, [(0, .index 338)], [.arg 5], mj3nA_O, mj3nA_C, [])) mj3nA_ss mj3nA_rs = true := by decide +kernel
def mj3nA_r (v5 : Int32) (k_ : Nat) : Value := bif Nat.beq k_ 5 then .int v5 else (.int 0)
def mj3nA_s (n_ : Nat) : Nat := 0
theorem mj3nA {h_ : xH} {v5 : Int32} (hs : sHp h_) (c0_ : ¬ v5 = (45 : Int32)) : ∃ h', ysm h_ h' ∧ (((∀ a_ j_ : Nat, bpat h' a_ j_ = bpat h_ a_ j_) ∧ (∀ D_, 60 ≤ D_ → xrun D_ 179 22 [(0, .index 338)] [.int v5] h_ (some (.int (1 : Int32)), h', [])))) := by
  have hA : yas mj3nA_A (mj3nA_r v5) (yg mj3nA_s) := ⟨fun q_ hq => absurd hq List.not_mem_nil, fun q_ hq => absurd hq List.not_mem_nil, fun q_ hq => absurd hq List.not_mem_nil, fun n_ hn => yg_lo hn, fun q_ hq => absurd hq List.not_mem_nil⟩
  have Hs : ysh mj3nA_A.1 (yg mj3nA_s) h_ := ysh_of2 hs (fun q_ hq => absurd hq List.not_mem_nil)
  have Ho : ymem (mj3nA_r v5) (yg mj3nA_s) mj3nA_O h_ := fun q_ hq => absurd hq List.not_mem_nil
  have HC : ∀ q_ ∈ mj3nA_C, xhold (mj3nA_r v5) q_ := List.forall_mem_cons.mpr ⟨xh_eqF2 c0_, fun q_ hq => absurd hq List.not_mem_nil⟩
  rcases yrun (yis_ok mj3nA_k) hA Hs Ho HC with ⟨q_, hq, h', K_, G_⟩ | ⟨q_, hq, h', K_, G_⟩
  · cases hq
  · have e_ := List.mem_singleton.mp hq
    subst e_
    exact ⟨h', yfr_sm K_.2.2.2 hs K_.1 (ywa_r mj3nA_w List.mem_cons_self), ⟨fun a_ j_ => yfr_bp K_.2.2.2 (fun q_ hq => absurd hq List.not_mem_nil), G_⟩⟩
-- mj3yA: 8 steps, 1 ends, 0 returns
def mj3yA_L : List (Nat × Nat × Nat) := []
def mj3yA_O : yO := [(338, .int 7, .arg 307)]
def mj3yA_A : yA := (yZ mj3yA_L, [], [], [], [])
def mj3yA_C : List xB := []
def mj3yA_ss : List yS := [(43, [(1, .arg 5), (0, .index 338)], [.index 338], [(338, .int 7, .add (.arg 307) (.int 1))], [], [(338, .int 7)])]
def mj3yA_rs : List yR := []
theorem mj3yA_w : ywa mj3yA_A mj3yA_ss mj3yA_rs = true := by decide +kernel
theorem mj3yA_k : yis (yev mj3yA_A 3000 60 179 [43] (31, [(0, .index 338)], [.arg 5], mj3yA_O, mj3yA_C, [])) mj3yA_ss mj3yA_rs = true := by decide +kernel
def mj3yA_r (v5 v307 : Int32) (k_ : Nat) : Value := bif Nat.beq k_ 5 then .int v5 else (bif Nat.beq k_ 307 then .int v307 else (.int 0))
def mj3yA_s (n_ : Nat) : Nat := 0
theorem mj3yA {h_ : xH} {v5 v307 : Int32} (hs : sHp h_) (o0_ : bpat h_ 338 7 = some (.int v307)) : ∃ h', ysm h_ h' ∧ (((bpat h' 338 7 = some (.int (v307 + (1 : Int32)))) ∧ (∀ a_ j_ : Nat, ¬ (a_ = 338 ∧ j_ = 7) → bpat h' a_ j_ = bpat h_ a_ j_) ∧ (bldD 60 179 31 [(0, .index 338)] [.int v5] h_ 43 [(1, .int v5), (0, .index 338)] [.index 338] h'))) := by
  have hA : yas mj3yA_A (mj3yA_r v5 v307) (yg mj3yA_s) := ⟨fun q_ hq => absurd hq List.not_mem_nil, fun q_ hq => absurd hq List.not_mem_nil, fun q_ hq => absurd hq List.not_mem_nil, fun n_ hn => yg_lo hn, fun q_ hq => absurd hq List.not_mem_nil⟩
  have Hs : ysh mj3yA_A.1 (yg mj3yA_s) h_ := ysh_of2 hs (fun q_ hq => absurd hq List.not_mem_nil)
  have Ho : ymem (mj3yA_r v5 v307) (yg mj3yA_s) mj3yA_O h_ := List.forall_mem_cons.mpr ⟨bpat_some o0_, fun q_ hq => absurd hq List.not_mem_nil⟩
  have HC : ∀ q_ ∈ mj3yA_C, xhold (mj3yA_r v5 v307) q_ := fun q_ hq => absurd hq List.not_mem_nil
  rcases yrun (yis_ok mj3yA_k) hA Hs Ho HC with ⟨q_, hq, h', K_, G_⟩ | ⟨q_, hq, h', K_, G_⟩
  · have e_ := List.mem_singleton.mp hq
    subst e_
    exact ⟨h', yfr_sm K_.2.2.2 hs K_.1 (ywa_s mj3yA_w List.mem_cons_self), ⟨bpat_of (K_.2.1 _ List.mem_cons_self), fun a_ j_ n0_ => yfr_bp K_.2.2.2 (List.forall_mem_cons.mpr ⟨fun e_ => n0_ ⟨e_.1.symm, e_.2.symm⟩, fun q_ hq => absurd hq List.not_mem_nil⟩), G_⟩⟩
  · cases hq
-- mj4lA: 1 steps, 1 ends, 0 returns
def mj4lA_L : List (Nat × Nat × Nat) := []
def mj4lA_O : yO := []
def mj4lA_A : yA := (yZ mj4lA_L, [], [], [], [])
def mj4lA_C : List xB := []
def mj4lA_ss : List yS := [(10, [(0, .index 338)], [.index 338], [], [], [])]
def mj4lA_rs : List yR := []
theorem mj4lA_w : ywa mj4lA_A mj4lA_ss mj4lA_rs = true := by decide +kernel
theorem mj4lA_k : yis (yev mj4lA_A 3000 60 180 [10] (9, [(0, .index 338)], [], mj4lA_O, mj4lA_C, [])) mj4lA_ss mj4lA_rs = true := by decide +kernel
def mj4lA_r (k_ : Nat) : Value := .int 0
def mj4lA_s (n_ : Nat) : Nat := 0
theorem mj4lA {h_ : xH} (hs : sHp h_) : ∃ h', ysm h_ h' ∧ (((∀ a_ j_ : Nat, bpat h' a_ j_ = bpat h_ a_ j_) ∧ (bldD 60 180 9 [(0, .index 338)] [] h_ 10 [(0, .index 338)] [.index 338] h'))) := by
  have hA : yas mj4lA_A mj4lA_r (yg mj4lA_s) := ⟨fun q_ hq => absurd hq List.not_mem_nil, fun q_ hq => absurd hq List.not_mem_nil, fun q_ hq => absurd hq List.not_mem_nil, fun n_ hn => yg_lo hn, fun q_ hq => absurd hq List.not_mem_nil⟩
  have Hs : ysh mj4lA_A.1 (yg mj4lA_s) h_ := ysh_of2 hs (fun q_ hq => absurd hq List.not_mem_nil)
  have Ho : ymem mj4lA_r (yg mj4lA_s) mj4lA_O h_ := fun q_ hq => absurd hq List.not_mem_nil
  have HC : ∀ q_ ∈ mj4lA_C, xhold mj4lA_r q_ := fun q_ hq => absurd hq List.not_mem_nil
  rcases yrun (yis_ok mj4lA_k) hA Hs Ho HC with ⟨q_, hq, h', K_, G_⟩ | ⟨q_, hq, h', K_, G_⟩
  · have e_ := List.mem_singleton.mp hq
    subst e_
    exact ⟨h', yfr_sm K_.2.2.2 hs K_.1 (ywa_s mj4lA_w List.mem_cons_self), ⟨fun a_ j_ => yfr_bp K_.2.2.2 (fun q_ hq => absurd hq List.not_mem_nil), G_⟩⟩
  · cases hq
-- mj4pA: 3 steps, 1 ends, 0 returns
def mj4pA_L : List (Nat × Nat × Nat) := []
def mj4pA_O : yO := []
def mj4pA_A : yA := (yZ mj4pA_L, [], [], [], [])
def mj4pA_C : List xB := [(.eq, .arg 5, .int 42, true)]
def mj4pA_ss : List yS := [(37, [(0, .index 338)], [.index 338], [], [(.eq, .arg 5, .int 42, true)], [])]
def mj4pA_rs : List yR := []
theorem mj4pA_w : ywa mj4pA_A mj4pA_ss mj4pA_rs = true := by decide +kernel
theorem mj4pA_k : yis (yev mj4pA_A 3000 60 180 [37] (13, [(0, .index 338)], [.arg 5], mj4pA_O, mj4pA_C, [])) mj4pA_ss mj4pA_rs = true := by decide +kernel
def mj4pA_r (v5 : Int32) (k_ : Nat) : Value := bif Nat.beq k_ 5 then .int v5 else (.int 0)
def mj4pA_s (n_ : Nat) : Nat := 0
theorem mj4pA {h_ : xH} {v5 : Int32} (hs : sHp h_) (c0_ : v5 = (42 : Int32)) : ∃ h', ysm h_ h' ∧ (((∀ a_ j_ : Nat, bpat h' a_ j_ = bpat h_ a_ j_) ∧ (bldD 60 180 13 [(0, .index 338)] [.int v5] h_ 37 [(0, .index 338)] [.index 338] h'))) := by
  have hA : yas mj4pA_A (mj4pA_r v5) (yg mj4pA_s) := ⟨fun q_ hq => absurd hq List.not_mem_nil, fun q_ hq => absurd hq List.not_mem_nil, fun q_ hq => absurd hq List.not_mem_nil, fun n_ hn => yg_lo hn, fun q_ hq => absurd hq List.not_mem_nil⟩
  have Hs : ysh mj4pA_A.1 (yg mj4pA_s) h_ := ysh_of2 hs (fun q_ hq => absurd hq List.not_mem_nil)
  have Ho : ymem (mj4pA_r v5) (yg mj4pA_s) mj4pA_O h_ := fun q_ hq => absurd hq List.not_mem_nil
  have HC : ∀ q_ ∈ mj4pA_C, xhold (mj4pA_r v5) q_ := List.forall_mem_cons.mpr ⟨xh_eqT2 c0_, fun q_ hq => absurd hq List.not_mem_nil⟩
  rcases yrun (yis_ok mj4pA_k) hA Hs Ho HC with ⟨q_, hq, h', K_, G_⟩ | ⟨q_, hq, h', K_, G_⟩
  · have e_ := List.mem_singleton.mp hq
    subst e_
    exact ⟨h', yfr_sm K_.2.2.2 hs K_.1 (ywa_s mj4pA_w List.mem_cons_self), ⟨fun a_ j_ => yfr_bp K_.2.2.2 (fun q_ hq => absurd hq List.not_mem_nil), G_⟩⟩
  · cases hq
-- mj4qA: 3 steps, 1 ends, 0 returns
def mj4qA_L : List (Nat × Nat × Nat) := []
def mj4qA_O : yO := []
def mj4qA_A : yA := (yZ mj4qA_L, [], [], [], [])
def mj4qA_C : List xB := [(.eq, .arg 5, .int 42, false)]
def mj4qA_ss : List yS := [(19, [(0, .index 338)], [.index 338], [], [(.eq, .arg 5, .int 42, false)], [])]
def mj4qA_rs : List yR := []
theorem mj4qA_w : ywa mj4qA_A mj4qA_ss mj4qA_rs = true := by decide +kernel
theorem mj4qA_k : yis (yev mj4qA_A 3000 60 180 [19] (13, [(0, .index 338)], [.arg 5], mj4qA_O, mj4qA_C, [])) mj4qA_ss mj4qA_rs = true := by decide +kernel
def mj4qA_r (v5 : Int32) (k_ : Nat) : Value := bif Nat.beq k_ 5 then .int v5 else (.int 0)
def mj4qA_s (n_ : Nat) : Nat := 0
theorem mj4qA {h_ : xH} {v5 : Int32} (hs : sHp h_) (c0_ : ¬ v5 = (42 : Int32)) : ∃ h', ysm h_ h' ∧ (((∀ a_ j_ : Nat, bpat h' a_ j_ = bpat h_ a_ j_) ∧ (bldD 60 180 13 [(0, .index 338)] [.int v5] h_ 19 [(0, .index 338)] [.index 338] h'))) := by
  have hA : yas mj4qA_A (mj4qA_r v5) (yg mj4qA_s) := ⟨fun q_ hq => absurd hq List.not_mem_nil, fun q_ hq => absurd hq List.not_mem_nil, fun q_ hq => absurd hq List.not_mem_nil, fun n_ hn => yg_lo hn, fun q_ hq => absurd hq List.not_mem_nil⟩
  have Hs : ysh mj4qA_A.1 (yg mj4qA_s) h_ := ysh_of2 hs (fun q_ hq => absurd hq List.not_mem_nil)
  have Ho : ymem (mj4qA_r v5) (yg mj4qA_s) mj4qA_O h_ := fun q_ hq => absurd hq List.not_mem_nil
  have HC : ∀ q_ ∈ mj4qA_C, xhold (mj4qA_r v5) q_ := List.forall_mem_cons.mpr ⟨xh_eqF2 c0_, fun q_ hq => absurd hq List.not_mem_nil⟩
  rcases yrun (yis_ok mj4qA_k) hA Hs Ho HC with ⟨q_, hq, h', K_, G_⟩ | ⟨q_, hq, h', K_, G_⟩
  · have e_ := List.mem_singleton.mp hq
    subst e_
    exact ⟨h', yfr_sm K_.2.2.2 hs K_.1 (ywa_s mj4qA_w List.mem_cons_self), ⟨fun a_ j_ => yfr_bp K_.2.2.2 (fun q_ hq => absurd hq List.not_mem_nil), G_⟩⟩
  · cases hq
-- mj4mA: 3 steps, 1 ends, 0 returns
def mj4mA_L : List (Nat × Nat × Nat) := []
def mj4mA_O : yO := []
def mj4mA_A : yA := (yZ mj4mA_L, [], [], [], [])
def mj4mA_C : List xB := [(.eq, .arg 5, .int 47, true)]
def mj4mA_ss : List yS := [(37, [(0, .index 338)], [.index 338], [], [(.eq, .arg 5, .int 47, true)], [])]
def mj4mA_rs : List yR := []
theorem mj4mA_w : ywa mj4mA_A mj4mA_ss mj4mA_rs = true := by decide +kernel
theorem mj4mA_k : yis (yev mj4mA_A 3000 60 180 [37] (22, [(0, .index 338)], [.arg 5], mj4mA_O, mj4mA_C, [])) mj4mA_ss mj4mA_rs = true := by decide +kernel
def mj4mA_r (v5 : Int32) (k_ : Nat) : Value := bif Nat.beq k_ 5 then .int v5 else (.int 0)
def mj4mA_s (n_ : Nat) : Nat := 0
theorem mj4mA {h_ : xH} {v5 : Int32} (hs : sHp h_) (c0_ : v5 = (47 : Int32)) : ∃ h', ysm h_ h' ∧ (((∀ a_ j_ : Nat, bpat h' a_ j_ = bpat h_ a_ j_) ∧ (bldD 60 180 22 [(0, .index 338)] [.int v5] h_ 37 [(0, .index 338)] [.index 338] h'))) := by
  have hA : yas mj4mA_A (mj4mA_r v5) (yg mj4mA_s) := ⟨fun q_ hq => absurd hq List.not_mem_nil, fun q_ hq => absurd hq List.not_mem_nil, fun q_ hq => absurd hq List.not_mem_nil, fun n_ hn => yg_lo hn, fun q_ hq => absurd hq List.not_mem_nil⟩
  have Hs : ysh mj4mA_A.1 (yg mj4mA_s) h_ := ysh_of2 hs (fun q_ hq => absurd hq List.not_mem_nil)
  have Ho : ymem (mj4mA_r v5) (yg mj4mA_s) mj4mA_O h_ := fun q_ hq => absurd hq List.not_mem_nil
  have HC : ∀ q_ ∈ mj4mA_C, xhold (mj4mA_r v5) q_ := List.forall_mem_cons.mpr ⟨xh_eqT2 c0_, fun q_ hq => absurd hq List.not_mem_nil⟩
  rcases yrun (yis_ok mj4mA_k) hA Hs Ho HC with ⟨q_, hq, h', K_, G_⟩ | ⟨q_, hq, h', K_, G_⟩
  · have e_ := List.mem_singleton.mp hq
    subst e_
    exact ⟨h', yfr_sm K_.2.2.2 hs K_.1 (ywa_s mj4mA_w List.mem_cons_self), ⟨fun a_ j_ => yfr_bp K_.2.2.2 (fun q_ hq => absurd hq List.not_mem_nil), G_⟩⟩
  · cases hq
-- mj4oA: 3 steps, 1 ends, 0 returns
def mj4oA_L : List (Nat × Nat × Nat) := []
def mj4oA_O : yO := []
def mj4oA_A : yA := (yZ mj4oA_L, [], [], [], [])
def mj4oA_C : List xB := [(.eq, .arg 5, .int 47, false)]
def mj4oA_ss : List yS := [(28, [(0, .index 338)], [.index 338], [], [(.eq, .arg 5, .int 47, false)], [])]
def mj4oA_rs : List yR := []
theorem mj4oA_w : ywa mj4oA_A mj4oA_ss mj4oA_rs = true := by decide +kernel
theorem mj4oA_k : yis (yev mj4oA_A 3000 60 180 [28] (22, [(0, .index 338)], [.arg 5], mj4oA_O, mj4oA_C, [])) mj4oA_ss mj4oA_rs = true := by decide +kernel
def mj4oA_r (v5 : Int32) (k_ : Nat) : Value := bif Nat.beq k_ 5 then .int v5 else (.int 0)
def mj4oA_s (n_ : Nat) : Nat := 0
theorem mj4oA {h_ : xH} {v5 : Int32} (hs : sHp h_) (c0_ : ¬ v5 = (47 : Int32)) : ∃ h', ysm h_ h' ∧ (((∀ a_ j_ : Nat, bpat h' a_ j_ = bpat h_ a_ j_) ∧ (bldD 60 180 22 [(0, .index 338)] [.int v5] h_ 28 [(0, .index 338)] [.index 338] h'))) := by
  have hA : yas mj4oA_A (mj4oA_r v5) (yg mj4oA_s) := ⟨fun q_ hq => absurd hq List.not_mem_nil, fun q_ hq => absurd hq List.not_mem_nil, fun q_ hq => absurd hq List.not_mem_nil, fun n_ hn => yg_lo hn, fun q_ hq => absurd hq List.not_mem_nil⟩
  have Hs : ysh mj4oA_A.1 (yg mj4oA_s) h_ := ysh_of2 hs (fun q_ hq => absurd hq List.not_mem_nil)
  have Ho : ymem (mj4oA_r v5) (yg mj4oA_s) mj4oA_O h_ := fun q_ hq => absurd hq List.not_mem_nil
  have HC : ∀ q_ ∈ mj4oA_C, xhold (mj4oA_r v5) q_ := List.forall_mem_cons.mpr ⟨xh_eqF2 c0_, fun q_ hq => absurd hq List.not_mem_nil⟩
  rcases yrun (yis_ok mj4oA_k) hA Hs Ho HC with ⟨q_, hq, h', K_, G_⟩ | ⟨q_, hq, h', K_, G_⟩
  · have e_ := List.mem_singleton.mp hq
    subst e_
    exact ⟨h', yfr_sm K_.2.2.2 hs K_.1 (ywa_s mj4oA_w List.mem_cons_self), ⟨fun a_ j_ => yfr_bp K_.2.2.2 (fun q_ hq => absurd hq List.not_mem_nil), G_⟩⟩
  · cases hq
-- mj4dA: 3 steps, 1 ends, 0 returns
def mj4dA_L : List (Nat × Nat × Nat) := []
def mj4dA_O : yO := []
def mj4dA_A : yA := (yZ mj4dA_L, [], [], [], [])
def mj4dA_C : List xB := [(.eq, .arg 5, .int 37, true)]
def mj4dA_ss : List yS := [(37, [(0, .index 338)], [.index 338], [], [(.eq, .arg 5, .int 37, true)], [])]
def mj4dA_rs : List yR := []
theorem mj4dA_w : ywa mj4dA_A mj4dA_ss mj4dA_rs = true := by decide +kernel
theorem mj4dA_k : yis (yev mj4dA_A 3000 60 180 [37] (31, [(0, .index 338)], [.arg 5], mj4dA_O, mj4dA_C, [])) mj4dA_ss mj4dA_rs = true := by decide +kernel
def mj4dA_r (v5 : Int32) (k_ : Nat) : Value := bif Nat.beq k_ 5 then .int v5 else (.int 0)
def mj4dA_s (n_ : Nat) : Nat := 0
theorem mj4dA {h_ : xH} {v5 : Int32} (hs : sHp h_) (c0_ : v5 = (37 : Int32)) : ∃ h', ysm h_ h' ∧ (((∀ a_ j_ : Nat, bpat h' a_ j_ = bpat h_ a_ j_) ∧ (bldD 60 180 31 [(0, .index 338)] [.int v5] h_ 37 [(0, .index 338)] [.index 338] h'))) := by
  have hA : yas mj4dA_A (mj4dA_r v5) (yg mj4dA_s) := ⟨fun q_ hq => absurd hq List.not_mem_nil, fun q_ hq => absurd hq List.not_mem_nil, fun q_ hq => absurd hq List.not_mem_nil, fun n_ hn => yg_lo hn, fun q_ hq => absurd hq List.not_mem_nil⟩
  have Hs : ysh mj4dA_A.1 (yg mj4dA_s) h_ := ysh_of2 hs (fun q_ hq => absurd hq List.not_mem_nil)
  have Ho : ymem (mj4dA_r v5) (yg mj4dA_s) mj4dA_O h_ := fun q_ hq => absurd hq List.not_mem_nil
  have HC : ∀ q_ ∈ mj4dA_C, xhold (mj4dA_r v5) q_ := List.forall_mem_cons.mpr ⟨xh_eqT2 c0_, fun q_ hq => absurd hq List.not_mem_nil⟩
  rcases yrun (yis_ok mj4dA_k) hA Hs Ho HC with ⟨q_, hq, h', K_, G_⟩ | ⟨q_, hq, h', K_, G_⟩
  · have e_ := List.mem_singleton.mp hq
    subst e_
    exact ⟨h', yfr_sm K_.2.2.2 hs K_.1 (ywa_s mj4dA_w List.mem_cons_self), ⟨fun a_ j_ => yfr_bp K_.2.2.2 (fun q_ hq => absurd hq List.not_mem_nil), G_⟩⟩
  · cases hq
-- mj4nA: 4 steps, 0 ends, 1 returns
def mj4nA_L : List (Nat × Nat × Nat) := []
def mj4nA_O : yO := []
def mj4nA_A : yA := (yZ mj4nA_L, [], [], [], [])
def mj4nA_C : List xB := [(.eq, .arg 5, .int 37, false)]
def mj4nA_ss : List yS := []
def mj4nA_rs : List yR := [(some (.int 1), [], [(.eq, .arg 5, .int 37, false)], [])]
theorem mj4nA_w : ywa mj4nA_A mj4nA_ss mj4nA_rs = true := by decide +kernel
theorem mj4nA_k : yis (yev mj4nA_A 3000 60 180 [] (31, [(0, .index 338)], [.arg 5], mj4nA_O, mj4nA_C, [])) mj4nA_ss mj4nA_rs = true := by decide +kernel
def mj4nA_r (v5 : Int32) (k_ : Nat) : Value := bif Nat.beq k_ 5 then .int v5 else (.int 0)
def mj4nA_s (n_ : Nat) : Nat := 0
theorem mj4nA {h_ : xH} {v5 : Int32} (hs : sHp h_) (c0_ : ¬ v5 = (37 : Int32)) : ∃ h', ysm h_ h' ∧ (((∀ a_ j_ : Nat, bpat h' a_ j_ = bpat h_ a_ j_) ∧ (∀ D_, 60 ≤ D_ → xrun D_ 180 31 [(0, .index 338)] [.int v5] h_ (some (.int (1 : Int32)), h', [])))) := by
  have hA : yas mj4nA_A (mj4nA_r v5) (yg mj4nA_s) := ⟨fun q_ hq => absurd hq List.not_mem_nil, fun q_ hq => absurd hq List.not_mem_nil, fun q_ hq => absurd hq List.not_mem_nil, fun n_ hn => yg_lo hn, fun q_ hq => absurd hq List.not_mem_nil⟩
  have Hs : ysh mj4nA_A.1 (yg mj4nA_s) h_ := ysh_of2 hs (fun q_ hq => absurd hq List.not_mem_nil)
  have Ho : ymem (mj4nA_r v5) (yg mj4nA_s) mj4nA_O h_ := fun q_ hq => absurd hq List.not_mem_nil
  have HC : ∀ q_ ∈ mj4nA_C, xhold (mj4nA_r v5) q_ := List.forall_mem_cons.mpr ⟨xh_eqF2 c0_, fun q_ hq => absurd hq List.not_mem_nil⟩
  rcases yrun (yis_ok mj4nA_k) hA Hs Ho HC with ⟨q_, hq, h', K_, G_⟩ | ⟨q_, hq, h', K_, G_⟩
  · cases hq
  · have e_ := List.mem_singleton.mp hq
    subst e_
    exact ⟨h', yfr_sm K_.2.2.2 hs K_.1 (ywa_r mj4nA_w List.mem_cons_self), ⟨fun a_ j_ => yfr_bp K_.2.2.2 (fun q_ hq => absurd hq List.not_mem_nil), G_⟩⟩
-- mj4yA: 8 steps, 1 ends, 0 returns
def mj4yA_L : List (Nat × Nat × Nat) := []
def mj4yA_O : yO := [(338, .int 7, .arg 307)]
def mj4yA_A : yA := (yZ mj4yA_L, [], [], [], [])
def mj4yA_C : List xB := []
def mj4yA_ss : List yS := [(52, [(1, .arg 5), (0, .index 338)], [.index 338], [(338, .int 7, .add (.arg 307) (.int 1))], [], [(338, .int 7)])]
def mj4yA_rs : List yR := []
theorem mj4yA_w : ywa mj4yA_A mj4yA_ss mj4yA_rs = true := by decide +kernel
theorem mj4yA_k : yis (yev mj4yA_A 3000 60 180 [52] (40, [(0, .index 338)], [.arg 5], mj4yA_O, mj4yA_C, [])) mj4yA_ss mj4yA_rs = true := by decide +kernel
def mj4yA_r (v5 v307 : Int32) (k_ : Nat) : Value := bif Nat.beq k_ 5 then .int v5 else (bif Nat.beq k_ 307 then .int v307 else (.int 0))
def mj4yA_s (n_ : Nat) : Nat := 0
theorem mj4yA {h_ : xH} {v5 v307 : Int32} (hs : sHp h_) (o0_ : bpat h_ 338 7 = some (.int v307)) : ∃ h', ysm h_ h' ∧ (((bpat h' 338 7 = some (.int (v307 + (1 : Int32)))) ∧ (∀ a_ j_ : Nat, ¬ (a_ = 338 ∧ j_ = 7) → bpat h' a_ j_ = bpat h_ a_ j_) ∧ (bldD 60 180 40 [(0, .index 338)] [.int v5] h_ 52 [(1, .int v5), (0, .index 338)] [.index 338] h'))) := by
  have hA : yas mj4yA_A (mj4yA_r v5 v307) (yg mj4yA_s) := ⟨fun q_ hq => absurd hq List.not_mem_nil, fun q_ hq => absurd hq List.not_mem_nil, fun q_ hq => absurd hq List.not_mem_nil, fun n_ hn => yg_lo hn, fun q_ hq => absurd hq List.not_mem_nil⟩
  have Hs : ysh mj4yA_A.1 (yg mj4yA_s) h_ := ysh_of2 hs (fun q_ hq => absurd hq List.not_mem_nil)
  have Ho : ymem (mj4yA_r v5 v307) (yg mj4yA_s) mj4yA_O h_ := List.forall_mem_cons.mpr ⟨bpat_some o0_, fun q_ hq => absurd hq List.not_mem_nil⟩
  have HC : ∀ q_ ∈ mj4yA_C, xhold (mj4yA_r v5 v307) q_ := fun q_ hq => absurd hq List.not_mem_nil
  rcases yrun (yis_ok mj4yA_k) hA Hs Ho HC with ⟨q_, hq, h', K_, G_⟩ | ⟨q_, hq, h', K_, G_⟩
  · have e_ := List.mem_singleton.mp hq
    subst e_
    exact ⟨h', yfr_sm K_.2.2.2 hs K_.1 (ywa_s mj4yA_w List.mem_cons_self), ⟨bpat_of (K_.2.1 _ List.mem_cons_self), fun a_ j_ n0_ => yfr_bp K_.2.2.2 (List.forall_mem_cons.mpr ⟨fun e_ => n0_ ⟨e_.1.symm, e_.2.symm⟩, fun q_ hq => absurd hq List.not_mem_nil⟩), G_⟩⟩
  · cases hq
-- mj3lB: 1 steps, 1 ends, 0 returns
def mj3lB_L : List (Nat × Nat × Nat) := []
def mj3lB_O : yO := []
def mj3lB_A : yA := (yZ mj3lB_L, [], [], [], [])
def mj3lB_C : List xB := []
def mj3lB_ss : List yS := [(10, [(1, .arg 1), (0, .index 338)], [.index 338], [], [], [])]
def mj3lB_rs : List yR := []
theorem mj3lB_w : ywa mj3lB_A mj3lB_ss mj3lB_rs = true := by decide +kernel
theorem mj3lB_k : yis (yev mj3lB_A 3000 60 179 [10] (9, [(1, .arg 1), (0, .index 338)], [], mj3lB_O, mj3lB_C, [])) mj3lB_ss mj3lB_rs = true := by decide +kernel
def mj3lB_r (v1_ : Int32) (k_ : Nat) : Value := bif Nat.beq k_ 1 then .int v1_ else (.int 0)
def mj3lB_s (n_ : Nat) : Nat := 0
theorem mj3lB {h_ : xH} {v1_ : Int32} (hs : sHp h_) : ∃ h', ysm h_ h' ∧ (((∀ a_ j_ : Nat, bpat h' a_ j_ = bpat h_ a_ j_) ∧ (bldD 60 179 9 [(1, .int v1_), (0, .index 338)] [] h_ 10 [(1, .int v1_), (0, .index 338)] [.index 338] h'))) := by
  have hA : yas mj3lB_A (mj3lB_r v1_) (yg mj3lB_s) := ⟨fun q_ hq => absurd hq List.not_mem_nil, fun q_ hq => absurd hq List.not_mem_nil, fun q_ hq => absurd hq List.not_mem_nil, fun n_ hn => yg_lo hn, fun q_ hq => absurd hq List.not_mem_nil⟩
  have Hs : ysh mj3lB_A.1 (yg mj3lB_s) h_ := ysh_of2 hs (fun q_ hq => absurd hq List.not_mem_nil)
  have Ho : ymem (mj3lB_r v1_) (yg mj3lB_s) mj3lB_O h_ := fun q_ hq => absurd hq List.not_mem_nil
  have HC : ∀ q_ ∈ mj3lB_C, xhold (mj3lB_r v1_) q_ := fun q_ hq => absurd hq List.not_mem_nil
  rcases yrun (yis_ok mj3lB_k) hA Hs Ho HC with ⟨q_, hq, h', K_, G_⟩ | ⟨q_, hq, h', K_, G_⟩
  · have e_ := List.mem_singleton.mp hq
    subst e_
    exact ⟨h', yfr_sm K_.2.2.2 hs K_.1 (ywa_s mj3lB_w List.mem_cons_self), ⟨fun a_ j_ => yfr_bp K_.2.2.2 (fun q_ hq => absurd hq List.not_mem_nil), G_⟩⟩
  · cases hq
-- mj3pB: 3 steps, 1 ends, 0 returns
def mj3pB_L : List (Nat × Nat × Nat) := []
def mj3pB_O : yO := []
def mj3pB_A : yA := (yZ mj3pB_L, [], [], [], [])
def mj3pB_C : List xB := [(.eq, .arg 5, .int 43, true)]
def mj3pB_ss : List yS := [(28, [(1, .arg 1), (0, .index 338)], [.index 338], [], [(.eq, .arg 5, .int 43, true)], [])]
def mj3pB_rs : List yR := []
theorem mj3pB_w : ywa mj3pB_A mj3pB_ss mj3pB_rs = true := by decide +kernel
theorem mj3pB_k : yis (yev mj3pB_A 3000 60 179 [28] (13, [(1, .arg 1), (0, .index 338)], [.arg 5], mj3pB_O, mj3pB_C, [])) mj3pB_ss mj3pB_rs = true := by decide +kernel
def mj3pB_r (v1_ v5 : Int32) (k_ : Nat) : Value := bif Nat.beq k_ 1 then .int v1_ else (bif Nat.beq k_ 5 then .int v5 else (.int 0))
def mj3pB_s (n_ : Nat) : Nat := 0
theorem mj3pB {h_ : xH} {v1_ v5 : Int32} (hs : sHp h_) (c0_ : v5 = (43 : Int32)) : ∃ h', ysm h_ h' ∧ (((∀ a_ j_ : Nat, bpat h' a_ j_ = bpat h_ a_ j_) ∧ (bldD 60 179 13 [(1, .int v1_), (0, .index 338)] [.int v5] h_ 28 [(1, .int v1_), (0, .index 338)] [.index 338] h'))) := by
  have hA : yas mj3pB_A (mj3pB_r v1_ v5) (yg mj3pB_s) := ⟨fun q_ hq => absurd hq List.not_mem_nil, fun q_ hq => absurd hq List.not_mem_nil, fun q_ hq => absurd hq List.not_mem_nil, fun n_ hn => yg_lo hn, fun q_ hq => absurd hq List.not_mem_nil⟩
  have Hs : ysh mj3pB_A.1 (yg mj3pB_s) h_ := ysh_of2 hs (fun q_ hq => absurd hq List.not_mem_nil)
  have Ho : ymem (mj3pB_r v1_ v5) (yg mj3pB_s) mj3pB_O h_ := fun q_ hq => absurd hq List.not_mem_nil
  have HC : ∀ q_ ∈ mj3pB_C, xhold (mj3pB_r v1_ v5) q_ := List.forall_mem_cons.mpr ⟨xh_eqT2 c0_, fun q_ hq => absurd hq List.not_mem_nil⟩
  rcases yrun (yis_ok mj3pB_k) hA Hs Ho HC with ⟨q_, hq, h', K_, G_⟩ | ⟨q_, hq, h', K_, G_⟩
  · have e_ := List.mem_singleton.mp hq
    subst e_
    exact ⟨h', yfr_sm K_.2.2.2 hs K_.1 (ywa_s mj3pB_w List.mem_cons_self), ⟨fun a_ j_ => yfr_bp K_.2.2.2 (fun q_ hq => absurd hq List.not_mem_nil), G_⟩⟩
  · cases hq
-- mj3qB: 3 steps, 1 ends, 0 returns
def mj3qB_L : List (Nat × Nat × Nat) := []
def mj3qB_O : yO := []
def mj3qB_A : yA := (yZ mj3qB_L, [], [], [], [])
def mj3qB_C : List xB := [(.eq, .arg 5, .int 43, false)]
def mj3qB_ss : List yS := [(19, [(1, .arg 1), (0, .index 338)], [.index 338], [], [(.eq, .arg 5, .int 43, false)], [])]
def mj3qB_rs : List yR := []
theorem mj3qB_w : ywa mj3qB_A mj3qB_ss mj3qB_rs = true := by decide +kernel
theorem mj3qB_k : yis (yev mj3qB_A 3000 60 179 [19] (13, [(1, .arg 1), (0, .index 338)], [.arg 5], mj3qB_O, mj3qB_C, [])) mj3qB_ss mj3qB_rs = true := by decide +kernel
def mj3qB_r (v1_ v5 : Int32) (k_ : Nat) : Value := bif Nat.beq k_ 1 then .int v1_ else (bif Nat.beq k_ 5 then .int v5 else (.int 0))
def mj3qB_s (n_ : Nat) : Nat := 0
theorem mj3qB {h_ : xH} {v1_ v5 : Int32} (hs : sHp h_) (c0_ : ¬ v5 = (43 : Int32)) : ∃ h', ysm h_ h' ∧ (((∀ a_ j_ : Nat, bpat h' a_ j_ = bpat h_ a_ j_) ∧ (bldD 60 179 13 [(1, .int v1_), (0, .index 338)] [.int v5] h_ 19 [(1, .int v1_), (0, .index 338)] [.index 338] h'))) := by
  have hA : yas mj3qB_A (mj3qB_r v1_ v5) (yg mj3qB_s) := ⟨fun q_ hq => absurd hq List.not_mem_nil, fun q_ hq => absurd hq List.not_mem_nil, fun q_ hq => absurd hq List.not_mem_nil, fun n_ hn => yg_lo hn, fun q_ hq => absurd hq List.not_mem_nil⟩
  have Hs : ysh mj3qB_A.1 (yg mj3qB_s) h_ := ysh_of2 hs (fun q_ hq => absurd hq List.not_mem_nil)
  have Ho : ymem (mj3qB_r v1_ v5) (yg mj3qB_s) mj3qB_O h_ := fun q_ hq => absurd hq List.not_mem_nil
  have HC : ∀ q_ ∈ mj3qB_C, xhold (mj3qB_r v1_ v5) q_ := List.forall_mem_cons.mpr ⟨xh_eqF2 c0_, fun q_ hq => absurd hq List.not_mem_nil⟩
  rcases yrun (yis_ok mj3qB_k) hA Hs Ho HC with ⟨q_, hq, h', K_, G_⟩ | ⟨q_, hq, h', K_, G_⟩
  · have e_ := List.mem_singleton.mp hq
    subst e_
    exact ⟨h', yfr_sm K_.2.2.2 hs K_.1 (ywa_s mj3qB_w List.mem_cons_self), ⟨fun a_ j_ => yfr_bp K_.2.2.2 (fun q_ hq => absurd hq List.not_mem_nil), G_⟩⟩
  · cases hq
-- mj3mB: 3 steps, 1 ends, 0 returns
def mj3mB_L : List (Nat × Nat × Nat) := []
def mj3mB_O : yO := []
def mj3mB_A : yA := (yZ mj3mB_L, [], [], [], [])
def mj3mB_C : List xB := [(.eq, .arg 5, .int 45, true)]
def mj3mB_ss : List yS := [(28, [(1, .arg 1), (0, .index 338)], [.index 338], [], [(.eq, .arg 5, .int 45, true)], [])]
def mj3mB_rs : List yR := []
theorem mj3mB_w : ywa mj3mB_A mj3mB_ss mj3mB_rs = true := by decide +kernel
theorem mj3mB_k : yis (yev mj3mB_A 3000 60 179 [28] (22, [(1, .arg 1), (0, .index 338)], [.arg 5], mj3mB_O, mj3mB_C, [])) mj3mB_ss mj3mB_rs = true := by decide +kernel
def mj3mB_r (v1_ v5 : Int32) (k_ : Nat) : Value := bif Nat.beq k_ 1 then .int v1_ else (bif Nat.beq k_ 5 then .int v5 else (.int 0))
def mj3mB_s (n_ : Nat) : Nat := 0
theorem mj3mB {h_ : xH} {v1_ v5 : Int32} (hs : sHp h_) (c0_ : v5 = (45 : Int32)) : ∃ h', ysm h_ h' ∧ (((∀ a_ j_ : Nat, bpat h' a_ j_ = bpat h_ a_ j_) ∧ (bldD 60 179 22 [(1, .int v1_), (0, .index 338)] [.int v5] h_ 28 [(1, .int v1_), (0, .index 338)] [.index 338] h'))) := by
  have hA : yas mj3mB_A (mj3mB_r v1_ v5) (yg mj3mB_s) := ⟨fun q_ hq => absurd hq List.not_mem_nil, fun q_ hq => absurd hq List.not_mem_nil, fun q_ hq => absurd hq List.not_mem_nil, fun n_ hn => yg_lo hn, fun q_ hq => absurd hq List.not_mem_nil⟩
  have Hs : ysh mj3mB_A.1 (yg mj3mB_s) h_ := ysh_of2 hs (fun q_ hq => absurd hq List.not_mem_nil)
  have Ho : ymem (mj3mB_r v1_ v5) (yg mj3mB_s) mj3mB_O h_ := fun q_ hq => absurd hq List.not_mem_nil
  have HC : ∀ q_ ∈ mj3mB_C, xhold (mj3mB_r v1_ v5) q_ := List.forall_mem_cons.mpr ⟨xh_eqT2 c0_, fun q_ hq => absurd hq List.not_mem_nil⟩
  rcases yrun (yis_ok mj3mB_k) hA Hs Ho HC with ⟨q_, hq, h', K_, G_⟩ | ⟨q_, hq, h', K_, G_⟩
  · have e_ := List.mem_singleton.mp hq
    subst e_
    exact ⟨h', yfr_sm K_.2.2.2 hs K_.1 (ywa_s mj3mB_w List.mem_cons_self), ⟨fun a_ j_ => yfr_bp K_.2.2.2 (fun q_ hq => absurd hq List.not_mem_nil), G_⟩⟩
  · cases hq
-- mj3nB: 4 steps, 0 ends, 1 returns
def mj3nB_L : List (Nat × Nat × Nat) := []
def mj3nB_O : yO := []
def mj3nB_A : yA := (yZ mj3nB_L, [], [], [], [])
def mj3nB_C : List xB := [(.eq, .arg 5, .int 45, false)]
def mj3nB_ss : List yS := []
def mj3nB_rs : List yR := [(some (.int 1), [], [(.eq, .arg 5, .int 45, false)], [])]
theorem mj3nB_w : ywa mj3nB_A mj3nB_ss mj3nB_rs = true := by decide +kernel
theorem mj3nB_k : yis (yev mj3nB_A 3000 60 179 [] (22, [(1, .arg 1), (0, .index 338)], [.arg 5], mj3nB_O, mj3nB_C, [])) mj3nB_ss mj3nB_rs = true := by decide +kernel
def mj3nB_r (v1_ v5 : Int32) (k_ : Nat) : Value := bif Nat.beq k_ 1 then .int v1_ else (bif Nat.beq k_ 5 then .int v5 else (.int 0))
def mj3nB_s (n_ : Nat) : Nat := 0
theorem mj3nB {h_ : xH} {v1_ v5 : Int32} (hs : sHp h_) (c0_ : ¬ v5 = (45 : Int32)) : ∃ h', ysm h_ h' ∧ (((∀ a_ j_ : Nat, bpat h' a_ j_ = bpat h_ a_ j_) ∧ (∀ D_, 60 ≤ D_ → xrun D_ 179 22 [(1, .int v1_), (0, .index 338)] [.int v5] h_ (some (.int (1 : Int32)), h', [])))) := by
  have hA : yas mj3nB_A (mj3nB_r v1_ v5) (yg mj3nB_s) := ⟨fun q_ hq => absurd hq List.not_mem_nil, fun q_ hq => absurd hq List.not_mem_nil, fun q_ hq => absurd hq List.not_mem_nil, fun n_ hn => yg_lo hn, fun q_ hq => absurd hq List.not_mem_nil⟩
  have Hs : ysh mj3nB_A.1 (yg mj3nB_s) h_ := ysh_of2 hs (fun q_ hq => absurd hq List.not_mem_nil)
  have Ho : ymem (mj3nB_r v1_ v5) (yg mj3nB_s) mj3nB_O h_ := fun q_ hq => absurd hq List.not_mem_nil
  have HC : ∀ q_ ∈ mj3nB_C, xhold (mj3nB_r v1_ v5) q_ := List.forall_mem_cons.mpr ⟨xh_eqF2 c0_, fun q_ hq => absurd hq List.not_mem_nil⟩
  rcases yrun (yis_ok mj3nB_k) hA Hs Ho HC with ⟨q_, hq, h', K_, G_⟩ | ⟨q_, hq, h', K_, G_⟩
  · cases hq
  · have e_ := List.mem_singleton.mp hq
    subst e_
    exact ⟨h', yfr_sm K_.2.2.2 hs K_.1 (ywa_r mj3nB_w List.mem_cons_self), ⟨fun a_ j_ => yfr_bp K_.2.2.2 (fun q_ hq => absurd hq List.not_mem_nil), G_⟩⟩
-- mj3yB: 8 steps, 1 ends, 0 returns
def mj3yB_L : List (Nat × Nat × Nat) := []
def mj3yB_O : yO := [(338, .int 7, .arg 307)]
def mj3yB_A : yA := (yZ mj3yB_L, [], [], [], [])
def mj3yB_C : List xB := []
def mj3yB_ss : List yS := [(43, [(1, .arg 5), (0, .index 338)], [.index 338], [(338, .int 7, .add (.arg 307) (.int 1))], [], [(338, .int 7)])]
def mj3yB_rs : List yR := []
theorem mj3yB_w : ywa mj3yB_A mj3yB_ss mj3yB_rs = true := by decide +kernel
theorem mj3yB_k : yis (yev mj3yB_A 3000 60 179 [43] (31, [(1, .arg 1), (0, .index 338)], [.arg 5], mj3yB_O, mj3yB_C, [])) mj3yB_ss mj3yB_rs = true := by decide +kernel
def mj3yB_r (v1_ v5 v307 : Int32) (k_ : Nat) : Value := bif Nat.beq k_ 1 then .int v1_ else (bif Nat.beq k_ 5 then .int v5 else (bif Nat.beq k_ 307 then .int v307 else (.int 0)))
def mj3yB_s (n_ : Nat) : Nat := 0
theorem mj3yB {h_ : xH} {v1_ v5 v307 : Int32} (hs : sHp h_) (o0_ : bpat h_ 338 7 = some (.int v307)) : ∃ h', ysm h_ h' ∧ (((bpat h' 338 7 = some (.int (v307 + (1 : Int32)))) ∧ (∀ a_ j_ : Nat, ¬ (a_ = 338 ∧ j_ = 7) → bpat h' a_ j_ = bpat h_ a_ j_) ∧ (bldD 60 179 31 [(1, .int v1_), (0, .index 338)] [.int v5] h_ 43 [(1, .int v5), (0, .index 338)] [.index 338] h'))) := by
  have hA : yas mj3yB_A (mj3yB_r v1_ v5 v307) (yg mj3yB_s) := ⟨fun q_ hq => absurd hq List.not_mem_nil, fun q_ hq => absurd hq List.not_mem_nil, fun q_ hq => absurd hq List.not_mem_nil, fun n_ hn => yg_lo hn, fun q_ hq => absurd hq List.not_mem_nil⟩
  have Hs : ysh mj3yB_A.1 (yg mj3yB_s) h_ := ysh_of2 hs (fun q_ hq => absurd hq List.not_mem_nil)
  have Ho : ymem (mj3yB_r v1_ v5 v307) (yg mj3yB_s) mj3yB_O h_ := List.forall_mem_cons.mpr ⟨bpat_some o0_, fun q_ hq => absurd hq List.not_mem_nil⟩
  have HC : ∀ q_ ∈ mj3yB_C, xhold (mj3yB_r v1_ v5 v307) q_ := fun q_ hq => absurd hq List.not_mem_nil
  rcases yrun (yis_ok mj3yB_k) hA Hs Ho HC with ⟨q_, hq, h', K_, G_⟩ | ⟨q_, hq, h', K_, G_⟩
  · have e_ := List.mem_singleton.mp hq
    subst e_
    exact ⟨h', yfr_sm K_.2.2.2 hs K_.1 (ywa_s mj3yB_w List.mem_cons_self), ⟨bpat_of (K_.2.1 _ List.mem_cons_self), fun a_ j_ n0_ => yfr_bp K_.2.2.2 (List.forall_mem_cons.mpr ⟨fun e_ => n0_ ⟨e_.1.symm, e_.2.symm⟩, fun q_ hq => absurd hq List.not_mem_nil⟩), G_⟩⟩
  · cases hq
-- mj4lB: 1 steps, 1 ends, 0 returns
def mj4lB_L : List (Nat × Nat × Nat) := []
def mj4lB_O : yO := []
def mj4lB_A : yA := (yZ mj4lB_L, [], [], [], [])
def mj4lB_C : List xB := []
def mj4lB_ss : List yS := [(10, [(1, .arg 1), (0, .index 338)], [.index 338], [], [], [])]
def mj4lB_rs : List yR := []
theorem mj4lB_w : ywa mj4lB_A mj4lB_ss mj4lB_rs = true := by decide +kernel
theorem mj4lB_k : yis (yev mj4lB_A 3000 60 180 [10] (9, [(1, .arg 1), (0, .index 338)], [], mj4lB_O, mj4lB_C, [])) mj4lB_ss mj4lB_rs = true := by decide +kernel
def mj4lB_r (v1_ : Int32) (k_ : Nat) : Value := bif Nat.beq k_ 1 then .int v1_ else (.int 0)
def mj4lB_s (n_ : Nat) : Nat := 0
theorem mj4lB {h_ : xH} {v1_ : Int32} (hs : sHp h_) : ∃ h', ysm h_ h' ∧ (((∀ a_ j_ : Nat, bpat h' a_ j_ = bpat h_ a_ j_) ∧ (bldD 60 180 9 [(1, .int v1_), (0, .index 338)] [] h_ 10 [(1, .int v1_), (0, .index 338)] [.index 338] h'))) := by
  have hA : yas mj4lB_A (mj4lB_r v1_) (yg mj4lB_s) := ⟨fun q_ hq => absurd hq List.not_mem_nil, fun q_ hq => absurd hq List.not_mem_nil, fun q_ hq => absurd hq List.not_mem_nil, fun n_ hn => yg_lo hn, fun q_ hq => absurd hq List.not_mem_nil⟩
  have Hs : ysh mj4lB_A.1 (yg mj4lB_s) h_ := ysh_of2 hs (fun q_ hq => absurd hq List.not_mem_nil)
  have Ho : ymem (mj4lB_r v1_) (yg mj4lB_s) mj4lB_O h_ := fun q_ hq => absurd hq List.not_mem_nil
  have HC : ∀ q_ ∈ mj4lB_C, xhold (mj4lB_r v1_) q_ := fun q_ hq => absurd hq List.not_mem_nil
  rcases yrun (yis_ok mj4lB_k) hA Hs Ho HC with ⟨q_, hq, h', K_, G_⟩ | ⟨q_, hq, h', K_, G_⟩
  · have e_ := List.mem_singleton.mp hq
    subst e_
    exact ⟨h', yfr_sm K_.2.2.2 hs K_.1 (ywa_s mj4lB_w List.mem_cons_self), ⟨fun a_ j_ => yfr_bp K_.2.2.2 (fun q_ hq => absurd hq List.not_mem_nil), G_⟩⟩
  · cases hq
-- mj4pB: 3 steps, 1 ends, 0 returns
def mj4pB_L : List (Nat × Nat × Nat) := []
def mj4pB_O : yO := []
def mj4pB_A : yA := (yZ mj4pB_L, [], [], [], [])
def mj4pB_C : List xB := [(.eq, .arg 5, .int 42, true)]
def mj4pB_ss : List yS := [(37, [(1, .arg 1), (0, .index 338)], [.index 338], [], [(.eq, .arg 5, .int 42, true)], [])]
def mj4pB_rs : List yR := []
theorem mj4pB_w : ywa mj4pB_A mj4pB_ss mj4pB_rs = true := by decide +kernel
theorem mj4pB_k : yis (yev mj4pB_A 3000 60 180 [37] (13, [(1, .arg 1), (0, .index 338)], [.arg 5], mj4pB_O, mj4pB_C, [])) mj4pB_ss mj4pB_rs = true := by decide +kernel
def mj4pB_r (v1_ v5 : Int32) (k_ : Nat) : Value := bif Nat.beq k_ 1 then .int v1_ else (bif Nat.beq k_ 5 then .int v5 else (.int 0))
def mj4pB_s (n_ : Nat) : Nat := 0
theorem mj4pB {h_ : xH} {v1_ v5 : Int32} (hs : sHp h_) (c0_ : v5 = (42 : Int32)) : ∃ h', ysm h_ h' ∧ (((∀ a_ j_ : Nat, bpat h' a_ j_ = bpat h_ a_ j_) ∧ (bldD 60 180 13 [(1, .int v1_), (0, .index 338)] [.int v5] h_ 37 [(1, .int v1_), (0, .index 338)] [.index 338] h'))) := by
  have hA : yas mj4pB_A (mj4pB_r v1_ v5) (yg mj4pB_s) := ⟨fun q_ hq => absurd hq List.not_mem_nil, fun q_ hq => absurd hq List.not_mem_nil, fun q_ hq => absurd hq List.not_mem_nil, fun n_ hn => yg_lo hn, fun q_ hq => absurd hq List.not_mem_nil⟩
  have Hs : ysh mj4pB_A.1 (yg mj4pB_s) h_ := ysh_of2 hs (fun q_ hq => absurd hq List.not_mem_nil)
  have Ho : ymem (mj4pB_r v1_ v5) (yg mj4pB_s) mj4pB_O h_ := fun q_ hq => absurd hq List.not_mem_nil
  have HC : ∀ q_ ∈ mj4pB_C, xhold (mj4pB_r v1_ v5) q_ := List.forall_mem_cons.mpr ⟨xh_eqT2 c0_, fun q_ hq => absurd hq List.not_mem_nil⟩
  rcases yrun (yis_ok mj4pB_k) hA Hs Ho HC with ⟨q_, hq, h', K_, G_⟩ | ⟨q_, hq, h', K_, G_⟩
  · have e_ := List.mem_singleton.mp hq
    subst e_
    exact ⟨h', yfr_sm K_.2.2.2 hs K_.1 (ywa_s mj4pB_w List.mem_cons_self), ⟨fun a_ j_ => yfr_bp K_.2.2.2 (fun q_ hq => absurd hq List.not_mem_nil), G_⟩⟩
  · cases hq
-- mj4qB: 3 steps, 1 ends, 0 returns
def mj4qB_L : List (Nat × Nat × Nat) := []
def mj4qB_O : yO := []
def mj4qB_A : yA := (yZ mj4qB_L, [], [], [], [])
def mj4qB_C : List xB := [(.eq, .arg 5, .int 42, false)]
def mj4qB_ss : List yS := [(19, [(1, .arg 1), (0, .index 338)], [.index 338], [], [(.eq, .arg 5, .int 42, false)], [])]
def mj4qB_rs : List yR := []
theorem mj4qB_w : ywa mj4qB_A mj4qB_ss mj4qB_rs = true := by decide +kernel
theorem mj4qB_k : yis (yev mj4qB_A 3000 60 180 [19] (13, [(1, .arg 1), (0, .index 338)], [.arg 5], mj4qB_O, mj4qB_C, [])) mj4qB_ss mj4qB_rs = true := by decide +kernel
def mj4qB_r (v1_ v5 : Int32) (k_ : Nat) : Value := bif Nat.beq k_ 1 then .int v1_ else (bif Nat.beq k_ 5 then .int v5 else (.int 0))
def mj4qB_s (n_ : Nat) : Nat := 0
theorem mj4qB {h_ : xH} {v1_ v5 : Int32} (hs : sHp h_) (c0_ : ¬ v5 = (42 : Int32)) : ∃ h', ysm h_ h' ∧ (((∀ a_ j_ : Nat, bpat h' a_ j_ = bpat h_ a_ j_) ∧ (bldD 60 180 13 [(1, .int v1_), (0, .index 338)] [.int v5] h_ 19 [(1, .int v1_), (0, .index 338)] [.index 338] h'))) := by
  have hA : yas mj4qB_A (mj4qB_r v1_ v5) (yg mj4qB_s) := ⟨fun q_ hq => absurd hq List.not_mem_nil, fun q_ hq => absurd hq List.not_mem_nil, fun q_ hq => absurd hq List.not_mem_nil, fun n_ hn => yg_lo hn, fun q_ hq => absurd hq List.not_mem_nil⟩
  have Hs : ysh mj4qB_A.1 (yg mj4qB_s) h_ := ysh_of2 hs (fun q_ hq => absurd hq List.not_mem_nil)
  have Ho : ymem (mj4qB_r v1_ v5) (yg mj4qB_s) mj4qB_O h_ := fun q_ hq => absurd hq List.not_mem_nil
  have HC : ∀ q_ ∈ mj4qB_C, xhold (mj4qB_r v1_ v5) q_ := List.forall_mem_cons.mpr ⟨xh_eqF2 c0_, fun q_ hq => absurd hq List.not_mem_nil⟩
  rcases yrun (yis_ok mj4qB_k) hA Hs Ho HC with ⟨q_, hq, h', K_, G_⟩ | ⟨q_, hq, h', K_, G_⟩
  · have e_ := List.mem_singleton.mp hq
    subst e_
    exact ⟨h', yfr_sm K_.2.2.2 hs K_.1 (ywa_s mj4qB_w List.mem_cons_self), ⟨fun a_ j_ => yfr_bp K_.2.2.2 (fun q_ hq => absurd hq List.not_mem_nil), G_⟩⟩
  · cases hq
-- mj4mB: 3 steps, 1 ends, 0 returns
def mj4mB_L : List (Nat × Nat × Nat) := []
def mj4mB_O : yO := []
def mj4mB_A : yA := (yZ mj4mB_L, [], [], [], [])
def mj4mB_C : List xB := [(.eq, .arg 5, .int 47, true)]
def mj4mB_ss : List yS := [(37, [(1, .arg 1), (0, .index 338)], [.index 338], [], [(.eq, .arg 5, .int 47, true)], [])]
def mj4mB_rs : List yR := []
theorem mj4mB_w : ywa mj4mB_A mj4mB_ss mj4mB_rs = true := by decide +kernel
theorem mj4mB_k : yis (yev mj4mB_A 3000 60 180 [37] (22, [(1, .arg 1), (0, .index 338)], [.arg 5], mj4mB_O, mj4mB_C, [])) mj4mB_ss mj4mB_rs = true := by decide +kernel
def mj4mB_r (v1_ v5 : Int32) (k_ : Nat) : Value := bif Nat.beq k_ 1 then .int v1_ else (bif Nat.beq k_ 5 then .int v5 else (.int 0))
def mj4mB_s (n_ : Nat) : Nat := 0
theorem mj4mB {h_ : xH} {v1_ v5 : Int32} (hs : sHp h_) (c0_ : v5 = (47 : Int32)) : ∃ h', ysm h_ h' ∧ (((∀ a_ j_ : Nat, bpat h' a_ j_ = bpat h_ a_ j_) ∧ (bldD 60 180 22 [(1, .int v1_), (0, .index 338)] [.int v5] h_ 37 [(1, .int v1_), (0, .index 338)] [.index 338] h'))) := by
  have hA : yas mj4mB_A (mj4mB_r v1_ v5) (yg mj4mB_s) := ⟨fun q_ hq => absurd hq List.not_mem_nil, fun q_ hq => absurd hq List.not_mem_nil, fun q_ hq => absurd hq List.not_mem_nil, fun n_ hn => yg_lo hn, fun q_ hq => absurd hq List.not_mem_nil⟩
  have Hs : ysh mj4mB_A.1 (yg mj4mB_s) h_ := ysh_of2 hs (fun q_ hq => absurd hq List.not_mem_nil)
  have Ho : ymem (mj4mB_r v1_ v5) (yg mj4mB_s) mj4mB_O h_ := fun q_ hq => absurd hq List.not_mem_nil
  have HC : ∀ q_ ∈ mj4mB_C, xhold (mj4mB_r v1_ v5) q_ := List.forall_mem_cons.mpr ⟨xh_eqT2 c0_, fun q_ hq => absurd hq List.not_mem_nil⟩
  rcases yrun (yis_ok mj4mB_k) hA Hs Ho HC with ⟨q_, hq, h', K_, G_⟩ | ⟨q_, hq, h', K_, G_⟩
  · have e_ := List.mem_singleton.mp hq
    subst e_
    exact ⟨h', yfr_sm K_.2.2.2 hs K_.1 (ywa_s mj4mB_w List.mem_cons_self), ⟨fun a_ j_ => yfr_bp K_.2.2.2 (fun q_ hq => absurd hq List.not_mem_nil), G_⟩⟩
  · cases hq
-- mj4oB: 3 steps, 1 ends, 0 returns
def mj4oB_L : List (Nat × Nat × Nat) := []
def mj4oB_O : yO := []
def mj4oB_A : yA := (yZ mj4oB_L, [], [], [], [])
def mj4oB_C : List xB := [(.eq, .arg 5, .int 47, false)]
def mj4oB_ss : List yS := [(28, [(1, .arg 1), (0, .index 338)], [.index 338], [], [(.eq, .arg 5, .int 47, false)], [])]
def mj4oB_rs : List yR := []
theorem mj4oB_w : ywa mj4oB_A mj4oB_ss mj4oB_rs = true := by decide +kernel
theorem mj4oB_k : yis (yev mj4oB_A 3000 60 180 [28] (22, [(1, .arg 1), (0, .index 338)], [.arg 5], mj4oB_O, mj4oB_C, [])) mj4oB_ss mj4oB_rs = true := by decide +kernel
def mj4oB_r (v1_ v5 : Int32) (k_ : Nat) : Value := bif Nat.beq k_ 1 then .int v1_ else (bif Nat.beq k_ 5 then .int v5 else (.int 0))
def mj4oB_s (n_ : Nat) : Nat := 0
theorem mj4oB {h_ : xH} {v1_ v5 : Int32} (hs : sHp h_) (c0_ : ¬ v5 = (47 : Int32)) : ∃ h', ysm h_ h' ∧ (((∀ a_ j_ : Nat, bpat h' a_ j_ = bpat h_ a_ j_) ∧ (bldD 60 180 22 [(1, .int v1_), (0, .index 338)] [.int v5] h_ 28 [(1, .int v1_), (0, .index 338)] [.index 338] h'))) := by
  have hA : yas mj4oB_A (mj4oB_r v1_ v5) (yg mj4oB_s) := ⟨fun q_ hq => absurd hq List.not_mem_nil, fun q_ hq => absurd hq List.not_mem_nil, fun q_ hq => absurd hq List.not_mem_nil, fun n_ hn => yg_lo hn, fun q_ hq => absurd hq List.not_mem_nil⟩
  have Hs : ysh mj4oB_A.1 (yg mj4oB_s) h_ := ysh_of2 hs (fun q_ hq => absurd hq List.not_mem_nil)
  have Ho : ymem (mj4oB_r v1_ v5) (yg mj4oB_s) mj4oB_O h_ := fun q_ hq => absurd hq List.not_mem_nil
  have HC : ∀ q_ ∈ mj4oB_C, xhold (mj4oB_r v1_ v5) q_ := List.forall_mem_cons.mpr ⟨xh_eqF2 c0_, fun q_ hq => absurd hq List.not_mem_nil⟩
  rcases yrun (yis_ok mj4oB_k) hA Hs Ho HC with ⟨q_, hq, h', K_, G_⟩ | ⟨q_, hq, h', K_, G_⟩
  · have e_ := List.mem_singleton.mp hq
    subst e_
    exact ⟨h', yfr_sm K_.2.2.2 hs K_.1 (ywa_s mj4oB_w List.mem_cons_self), ⟨fun a_ j_ => yfr_bp K_.2.2.2 (fun q_ hq => absurd hq List.not_mem_nil), G_⟩⟩
  · cases hq
-- mj4dB: 3 steps, 1 ends, 0 returns
def mj4dB_L : List (Nat × Nat × Nat) := []
def mj4dB_O : yO := []
def mj4dB_A : yA := (yZ mj4dB_L, [], [], [], [])
def mj4dB_C : List xB := [(.eq, .arg 5, .int 37, true)]
def mj4dB_ss : List yS := [(37, [(1, .arg 1), (0, .index 338)], [.index 338], [], [(.eq, .arg 5, .int 37, true)], [])]
def mj4dB_rs : List yR := []
theorem mj4dB_w : ywa mj4dB_A mj4dB_ss mj4dB_rs = true := by decide +kernel
theorem mj4dB_k : yis (yev mj4dB_A 3000 60 180 [37] (31, [(1, .arg 1), (0, .index 338)], [.arg 5], mj4dB_O, mj4dB_C, [])) mj4dB_ss mj4dB_rs = true := by decide +kernel
def mj4dB_r (v1_ v5 : Int32) (k_ : Nat) : Value := bif Nat.beq k_ 1 then .int v1_ else (bif Nat.beq k_ 5 then .int v5 else (.int 0))
def mj4dB_s (n_ : Nat) : Nat := 0
theorem mj4dB {h_ : xH} {v1_ v5 : Int32} (hs : sHp h_) (c0_ : v5 = (37 : Int32)) : ∃ h', ysm h_ h' ∧ (((∀ a_ j_ : Nat, bpat h' a_ j_ = bpat h_ a_ j_) ∧ (bldD 60 180 31 [(1, .int v1_), (0, .index 338)] [.int v5] h_ 37 [(1, .int v1_), (0, .index 338)] [.index 338] h'))) := by
  have hA : yas mj4dB_A (mj4dB_r v1_ v5) (yg mj4dB_s) := ⟨fun q_ hq => absurd hq List.not_mem_nil, fun q_ hq => absurd hq List.not_mem_nil, fun q_ hq => absurd hq List.not_mem_nil, fun n_ hn => yg_lo hn, fun q_ hq => absurd hq List.not_mem_nil⟩
  have Hs : ysh mj4dB_A.1 (yg mj4dB_s) h_ := ysh_of2 hs (fun q_ hq => absurd hq List.not_mem_nil)
  have Ho : ymem (mj4dB_r v1_ v5) (yg mj4dB_s) mj4dB_O h_ := fun q_ hq => absurd hq List.not_mem_nil
  have HC : ∀ q_ ∈ mj4dB_C, xhold (mj4dB_r v1_ v5) q_ := List.forall_mem_cons.mpr ⟨xh_eqT2 c0_, fun q_ hq => absurd hq List.not_mem_nil⟩
  rcases yrun (yis_ok mj4dB_k) hA Hs Ho HC with ⟨q_, hq, h', K_, G_⟩ | ⟨q_, hq, h', K_, G_⟩
  · have e_ := List.mem_singleton.mp hq
    subst e_
    exact ⟨h', yfr_sm K_.2.2.2 hs K_.1 (ywa_s mj4dB_w List.mem_cons_self), ⟨fun a_ j_ => yfr_bp K_.2.2.2 (fun q_ hq => absurd hq List.not_mem_nil), G_⟩⟩
  · cases hq
-- mj4nB: 4 steps, 0 ends, 1 returns
def mj4nB_L : List (Nat × Nat × Nat) := []
def mj4nB_O : yO := []
def mj4nB_A : yA := (yZ mj4nB_L, [], [], [], [])
def mj4nB_C : List xB := [(.eq, .arg 5, .int 37, false)]
def mj4nB_ss : List yS := []
def mj4nB_rs : List yR := [(some (.int 1), [], [(.eq, .arg 5, .int 37, false)], [])]
theorem mj4nB_w : ywa mj4nB_A mj4nB_ss mj4nB_rs = true := by decide +kernel
theorem mj4nB_k : yis (yev mj4nB_A 3000 60 180 [] (31, [(1, .arg 1), (0, .index 338)], [.arg 5], mj4nB_O, mj4nB_C, [])) mj4nB_ss mj4nB_rs = true := by decide +kernel
def mj4nB_r (v1_ v5 : Int32) (k_ : Nat) : Value := bif Nat.beq k_ 1 then .int v1_ else (bif Nat.beq k_ 5 then .int v5 else (.int 0))
def mj4nB_s (n_ : Nat) : Nat := 0
theorem mj4nB {h_ : xH} {v1_ v5 : Int32} (hs : sHp h_) (c0_ : ¬ v5 = (37 : Int32)) : ∃ h', ysm h_ h' ∧ (((∀ a_ j_ : Nat, bpat h' a_ j_ = bpat h_ a_ j_) ∧ (∀ D_, 60 ≤ D_ → xrun D_ 180 31 [(1, .int v1_), (0, .index 338)] [.int v5] h_ (some (.int (1 : Int32)), h', [])))) := by
  have hA : yas mj4nB_A (mj4nB_r v1_ v5) (yg mj4nB_s) := ⟨fun q_ hq => absurd hq List.not_mem_nil, fun q_ hq => absurd hq List.not_mem_nil, fun q_ hq => absurd hq List.not_mem_nil, fun n_ hn => yg_lo hn, fun q_ hq => absurd hq List.not_mem_nil⟩
  have Hs : ysh mj4nB_A.1 (yg mj4nB_s) h_ := ysh_of2 hs (fun q_ hq => absurd hq List.not_mem_nil)
  have Ho : ymem (mj4nB_r v1_ v5) (yg mj4nB_s) mj4nB_O h_ := fun q_ hq => absurd hq List.not_mem_nil
  have HC : ∀ q_ ∈ mj4nB_C, xhold (mj4nB_r v1_ v5) q_ := List.forall_mem_cons.mpr ⟨xh_eqF2 c0_, fun q_ hq => absurd hq List.not_mem_nil⟩
  rcases yrun (yis_ok mj4nB_k) hA Hs Ho HC with ⟨q_, hq, h', K_, G_⟩ | ⟨q_, hq, h', K_, G_⟩
  · cases hq
  · have e_ := List.mem_singleton.mp hq
    subst e_
    exact ⟨h', yfr_sm K_.2.2.2 hs K_.1 (ywa_r mj4nB_w List.mem_cons_self), ⟨fun a_ j_ => yfr_bp K_.2.2.2 (fun q_ hq => absurd hq List.not_mem_nil), G_⟩⟩
-- mj4yB: 8 steps, 1 ends, 0 returns
def mj4yB_L : List (Nat × Nat × Nat) := []
def mj4yB_O : yO := [(338, .int 7, .arg 307)]
def mj4yB_A : yA := (yZ mj4yB_L, [], [], [], [])
def mj4yB_C : List xB := []
def mj4yB_ss : List yS := [(52, [(1, .arg 5), (0, .index 338)], [.index 338], [(338, .int 7, .add (.arg 307) (.int 1))], [], [(338, .int 7)])]
def mj4yB_rs : List yR := []
theorem mj4yB_w : ywa mj4yB_A mj4yB_ss mj4yB_rs = true := by decide +kernel
theorem mj4yB_k : yis (yev mj4yB_A 3000 60 180 [52] (40, [(1, .arg 1), (0, .index 338)], [.arg 5], mj4yB_O, mj4yB_C, [])) mj4yB_ss mj4yB_rs = true := by decide +kernel
def mj4yB_r (v1_ v5 v307 : Int32) (k_ : Nat) : Value := bif Nat.beq k_ 1 then .int v1_ else (bif Nat.beq k_ 5 then .int v5 else (bif Nat.beq k_ 307 then .int v307 else (.int 0)))
def mj4yB_s (n_ : Nat) : Nat := 0
theorem mj4yB {h_ : xH} {v1_ v5 v307 : Int32} (hs : sHp h_) (o0_ : bpat h_ 338 7 = some (.int v307)) : ∃ h', ysm h_ h' ∧ (((bpat h' 338 7 = some (.int (v307 + (1 : Int32)))) ∧ (∀ a_ j_ : Nat, ¬ (a_ = 338 ∧ j_ = 7) → bpat h' a_ j_ = bpat h_ a_ j_) ∧ (bldD 60 180 40 [(1, .int v1_), (0, .index 338)] [.int v5] h_ 52 [(1, .int v5), (0, .index 338)] [.index 338] h'))) := by
  have hA : yas mj4yB_A (mj4yB_r v1_ v5 v307) (yg mj4yB_s) := ⟨fun q_ hq => absurd hq List.not_mem_nil, fun q_ hq => absurd hq List.not_mem_nil, fun q_ hq => absurd hq List.not_mem_nil, fun n_ hn => yg_lo hn, fun q_ hq => absurd hq List.not_mem_nil⟩
  have Hs : ysh mj4yB_A.1 (yg mj4yB_s) h_ := ysh_of2 hs (fun q_ hq => absurd hq List.not_mem_nil)
  have Ho : ymem (mj4yB_r v1_ v5 v307) (yg mj4yB_s) mj4yB_O h_ := List.forall_mem_cons.mpr ⟨bpat_some o0_, fun q_ hq => absurd hq List.not_mem_nil⟩
  have HC : ∀ q_ ∈ mj4yB_C, xhold (mj4yB_r v1_ v5 v307) q_ := fun q_ hq => absurd hq List.not_mem_nil
  rcases yrun (yis_ok mj4yB_k) hA Hs Ho HC with ⟨q_, hq, h', K_, G_⟩ | ⟨q_, hq, h', K_, G_⟩
  · have e_ := List.mem_singleton.mp hq
    subst e_
    exact ⟨h', yfr_sm K_.2.2.2 hs K_.1 (ywa_s mj4yB_w List.mem_cons_self), ⟨bpat_of (K_.2.1 _ List.mem_cons_self), fun a_ j_ n0_ => yfr_bp K_.2.2.2 (List.forall_mem_cons.mpr ⟨fun e_ => n0_ ⟨e_.1.symm, e_.2.symm⟩, fun q_ hq => absurd hq List.not_mem_nil⟩), G_⟩⟩
  · cases hq
-- mj3f: 3 steps, 0 ends, 1 returns
def mj3f_L : List (Nat × Nat × Nat) := []
def mj3f_O : yO := []
def mj3f_A : yA := (yZ mj3f_L, [], [], [], [])
def mj3f_C : List xB := [(.eq, .arg 5, .int 0, true)]
def mj3f_ss : List yS := []
def mj3f_rs : List yR := [(some (.int 0), [], [(.eq, .arg 5, .int 0, true)], [])]
theorem mj3f_w : ywa mj3f_A mj3f_ss mj3f_rs = true := by decide +kernel
theorem mj3f_k : yis (yev mj3f_A 3000 60 179 [] (46, [(1, .arg 1), (0, .index 338)], [.arg 5], mj3f_O, mj3f_C, [])) mj3f_ss mj3f_rs = true := by decide +kernel
def mj3f_r (v1_ v5 : Int32) (k_ : Nat) : Value := bif Nat.beq k_ 1 then .int v1_ else (bif Nat.beq k_ 5 then .int v5 else (.int 0))
def mj3f_s (n_ : Nat) : Nat := 0
theorem mj3f {h_ : xH} {v1_ v5 : Int32} (hs : sHp h_) (c0_ : v5 = (0 : Int32)) : ∃ h', ysm h_ h' ∧ (((∀ a_ j_ : Nat, bpat h' a_ j_ = bpat h_ a_ j_) ∧ (∀ D_, 60 ≤ D_ → xrun D_ 179 46 [(1, .int v1_), (0, .index 338)] [.int v5] h_ (some (.int (0 : Int32)), h', [])))) := by
  have hA : yas mj3f_A (mj3f_r v1_ v5) (yg mj3f_s) := ⟨fun q_ hq => absurd hq List.not_mem_nil, fun q_ hq => absurd hq List.not_mem_nil, fun q_ hq => absurd hq List.not_mem_nil, fun n_ hn => yg_lo hn, fun q_ hq => absurd hq List.not_mem_nil⟩
  have Hs : ysh mj3f_A.1 (yg mj3f_s) h_ := ysh_of2 hs (fun q_ hq => absurd hq List.not_mem_nil)
  have Ho : ymem (mj3f_r v1_ v5) (yg mj3f_s) mj3f_O h_ := fun q_ hq => absurd hq List.not_mem_nil
  have HC : ∀ q_ ∈ mj3f_C, xhold (mj3f_r v1_ v5) q_ := List.forall_mem_cons.mpr ⟨xh_eqT2 c0_, fun q_ hq => absurd hq List.not_mem_nil⟩
  rcases yrun (yis_ok mj3f_k) hA Hs Ho HC with ⟨q_, hq, h', K_, G_⟩ | ⟨q_, hq, h', K_, G_⟩
  · cases hq
  · have e_ := List.mem_singleton.mp hq
    subst e_
    exact ⟨h', yfr_sm K_.2.2.2 hs K_.1 (ywa_r mj3f_w List.mem_cons_self), ⟨fun a_ j_ => yfr_bp K_.2.2.2 (fun q_ hq => absurd hq List.not_mem_nil), G_⟩⟩
-- mj3t: 4 steps, 1 ends, 0 returns
def mj3t_L : List (Nat × Nat × Nat) := []
def mj3t_O : yO := []
def mj3t_A : yA := (yZ mj3t_L, [], [], [], [])
def mj3t_C : List xB := [(.eq, .arg 5, .int 0, false)]
def mj3t_ss : List yS := [(54, [(1, .arg 1), (0, .index 338)], [.arg 1, .int 3, .index 338], [], [(.eq, .arg 5, .int 0, false)], [])]
def mj3t_rs : List yR := []
theorem mj3t_w : ywa mj3t_A mj3t_ss mj3t_rs = true := by decide +kernel
theorem mj3t_k : yis (yev mj3t_A 3000 60 179 [54] (46, [(1, .arg 1), (0, .index 338)], [.arg 5], mj3t_O, mj3t_C, [])) mj3t_ss mj3t_rs = true := by decide +kernel
def mj3t_r (v1_ v5 : Int32) (k_ : Nat) : Value := bif Nat.beq k_ 1 then .int v1_ else (bif Nat.beq k_ 5 then .int v5 else (.int 0))
def mj3t_s (n_ : Nat) : Nat := 0
theorem mj3t {h_ : xH} {v1_ v5 : Int32} (hs : sHp h_) (c0_ : ¬ v5 = (0 : Int32)) : ∃ h', ysm h_ h' ∧ (((∀ a_ j_ : Nat, bpat h' a_ j_ = bpat h_ a_ j_) ∧ (bldD 60 179 46 [(1, .int v1_), (0, .index 338)] [.int v5] h_ 54 [(1, .int v1_), (0, .index 338)] [.int v1_, .int (3 : Int32), .index 338] h'))) := by
  have hA : yas mj3t_A (mj3t_r v1_ v5) (yg mj3t_s) := ⟨fun q_ hq => absurd hq List.not_mem_nil, fun q_ hq => absurd hq List.not_mem_nil, fun q_ hq => absurd hq List.not_mem_nil, fun n_ hn => yg_lo hn, fun q_ hq => absurd hq List.not_mem_nil⟩
  have Hs : ysh mj3t_A.1 (yg mj3t_s) h_ := ysh_of2 hs (fun q_ hq => absurd hq List.not_mem_nil)
  have Ho : ymem (mj3t_r v1_ v5) (yg mj3t_s) mj3t_O h_ := fun q_ hq => absurd hq List.not_mem_nil
  have HC : ∀ q_ ∈ mj3t_C, xhold (mj3t_r v1_ v5) q_ := List.forall_mem_cons.mpr ⟨xh_eqF2 c0_, fun q_ hq => absurd hq List.not_mem_nil⟩
  rcases yrun (yis_ok mj3t_k) hA Hs Ho HC with ⟨q_, hq, h', K_, G_⟩ | ⟨q_, hq, h', K_, G_⟩
  · have e_ := List.mem_singleton.mp hq
    subst e_
    exact ⟨h', yfr_sm K_.2.2.2 hs K_.1 (ywa_s mj3t_w List.mem_cons_self), ⟨fun a_ j_ => yfr_bp K_.2.2.2 (fun q_ hq => absurd hq List.not_mem_nil), G_⟩⟩
  · cases hq
-- mj3r: 1 steps, 1 ends, 0 returns
def mj3r_L : List (Nat × Nat × Nat) := []
def mj3r_O : yO := []
def mj3r_A : yA := (yZ mj3r_L, [], [], [], [])
def mj3r_C : List xB := []
def mj3r_ss : List yS := [(9, [(1, .arg 1), (0, .index 338)], [], [], [], [])]
def mj3r_rs : List yR := []
theorem mj3r_w : ywa mj3r_A mj3r_ss mj3r_rs = true := by decide +kernel
theorem mj3r_k : yis (yev mj3r_A 3000 60 179 [9] (57, [(1, .arg 1), (0, .index 338)], [], mj3r_O, mj3r_C, [])) mj3r_ss mj3r_rs = true := by decide +kernel
def mj3r_r (v1_ : Int32) (k_ : Nat) : Value := bif Nat.beq k_ 1 then .int v1_ else (.int 0)
def mj3r_s (n_ : Nat) : Nat := 0
theorem mj3r {h_ : xH} {v1_ : Int32} (hs : sHp h_) : ∃ h', ysm h_ h' ∧ (((∀ a_ j_ : Nat, bpat h' a_ j_ = bpat h_ a_ j_) ∧ (bldD 60 179 57 [(1, .int v1_), (0, .index 338)] [] h_ 9 [(1, .int v1_), (0, .index 338)] [] h'))) := by
  have hA : yas mj3r_A (mj3r_r v1_) (yg mj3r_s) := ⟨fun q_ hq => absurd hq List.not_mem_nil, fun q_ hq => absurd hq List.not_mem_nil, fun q_ hq => absurd hq List.not_mem_nil, fun n_ hn => yg_lo hn, fun q_ hq => absurd hq List.not_mem_nil⟩
  have Hs : ysh mj3r_A.1 (yg mj3r_s) h_ := ysh_of2 hs (fun q_ hq => absurd hq List.not_mem_nil)
  have Ho : ymem (mj3r_r v1_) (yg mj3r_s) mj3r_O h_ := fun q_ hq => absurd hq List.not_mem_nil
  have HC : ∀ q_ ∈ mj3r_C, xhold (mj3r_r v1_) q_ := fun q_ hq => absurd hq List.not_mem_nil
  rcases yrun (yis_ok mj3r_k) hA Hs Ho HC with ⟨q_, hq, h', K_, G_⟩ | ⟨q_, hq, h', K_, G_⟩
  · have e_ := List.mem_singleton.mp hq
    subst e_
    exact ⟨h', yfr_sm K_.2.2.2 hs K_.1 (ywa_s mj3r_w List.mem_cons_self), ⟨fun a_ j_ => yfr_bp K_.2.2.2 (fun q_ hq => absurd hq List.not_mem_nil), G_⟩⟩
  · cases hq
-- mj4f: 3 steps, 0 ends, 1 returns
def mj4f_L : List (Nat × Nat × Nat) := []
def mj4f_O : yO := []
def mj4f_A : yA := (yZ mj4f_L, [], [], [], [])
def mj4f_C : List xB := [(.eq, .arg 5, .int 0, true)]
def mj4f_ss : List yS := []
def mj4f_rs : List yR := [(some (.int 0), [], [(.eq, .arg 5, .int 0, true)], [])]
theorem mj4f_w : ywa mj4f_A mj4f_ss mj4f_rs = true := by decide +kernel
theorem mj4f_k : yis (yev mj4f_A 3000 60 180 [] (55, [(1, .arg 1), (0, .index 338)], [.arg 5], mj4f_O, mj4f_C, [])) mj4f_ss mj4f_rs = true := by decide +kernel
def mj4f_r (v1_ v5 : Int32) (k_ : Nat) : Value := bif Nat.beq k_ 1 then .int v1_ else (bif Nat.beq k_ 5 then .int v5 else (.int 0))
def mj4f_s (n_ : Nat) : Nat := 0
theorem mj4f {h_ : xH} {v1_ v5 : Int32} (hs : sHp h_) (c0_ : v5 = (0 : Int32)) : ∃ h', ysm h_ h' ∧ (((∀ a_ j_ : Nat, bpat h' a_ j_ = bpat h_ a_ j_) ∧ (∀ D_, 60 ≤ D_ → xrun D_ 180 55 [(1, .int v1_), (0, .index 338)] [.int v5] h_ (some (.int (0 : Int32)), h', [])))) := by
  have hA : yas mj4f_A (mj4f_r v1_ v5) (yg mj4f_s) := ⟨fun q_ hq => absurd hq List.not_mem_nil, fun q_ hq => absurd hq List.not_mem_nil, fun q_ hq => absurd hq List.not_mem_nil, fun n_ hn => yg_lo hn, fun q_ hq => absurd hq List.not_mem_nil⟩
  have Hs : ysh mj4f_A.1 (yg mj4f_s) h_ := ysh_of2 hs (fun q_ hq => absurd hq List.not_mem_nil)
  have Ho : ymem (mj4f_r v1_ v5) (yg mj4f_s) mj4f_O h_ := fun q_ hq => absurd hq List.not_mem_nil
  have HC : ∀ q_ ∈ mj4f_C, xhold (mj4f_r v1_ v5) q_ := List.forall_mem_cons.mpr ⟨xh_eqT2 c0_, fun q_ hq => absurd hq List.not_mem_nil⟩
  rcases yrun (yis_ok mj4f_k) hA Hs Ho HC with ⟨q_, hq, h', K_, G_⟩ | ⟨q_, hq, h', K_, G_⟩
  · cases hq
  · have e_ := List.mem_singleton.mp hq
    subst e_
    exact ⟨h', yfr_sm K_.2.2.2 hs K_.1 (ywa_r mj4f_w List.mem_cons_self), ⟨fun a_ j_ => yfr_bp K_.2.2.2 (fun q_ hq => absurd hq List.not_mem_nil), G_⟩⟩
-- mj4t: 4 steps, 1 ends, 0 returns
def mj4t_L : List (Nat × Nat × Nat) := []
def mj4t_O : yO := []
def mj4t_A : yA := (yZ mj4t_L, [], [], [], [])
def mj4t_C : List xB := [(.eq, .arg 5, .int 0, false)]
def mj4t_ss : List yS := [(63, [(1, .arg 1), (0, .index 338)], [.arg 1, .int 3, .index 338], [], [(.eq, .arg 5, .int 0, false)], [])]
def mj4t_rs : List yR := []
theorem mj4t_w : ywa mj4t_A mj4t_ss mj4t_rs = true := by decide +kernel
theorem mj4t_k : yis (yev mj4t_A 3000 60 180 [63] (55, [(1, .arg 1), (0, .index 338)], [.arg 5], mj4t_O, mj4t_C, [])) mj4t_ss mj4t_rs = true := by decide +kernel
def mj4t_r (v1_ v5 : Int32) (k_ : Nat) : Value := bif Nat.beq k_ 1 then .int v1_ else (bif Nat.beq k_ 5 then .int v5 else (.int 0))
def mj4t_s (n_ : Nat) : Nat := 0
theorem mj4t {h_ : xH} {v1_ v5 : Int32} (hs : sHp h_) (c0_ : ¬ v5 = (0 : Int32)) : ∃ h', ysm h_ h' ∧ (((∀ a_ j_ : Nat, bpat h' a_ j_ = bpat h_ a_ j_) ∧ (bldD 60 180 55 [(1, .int v1_), (0, .index 338)] [.int v5] h_ 63 [(1, .int v1_), (0, .index 338)] [.int v1_, .int (3 : Int32), .index 338] h'))) := by
  have hA : yas mj4t_A (mj4t_r v1_ v5) (yg mj4t_s) := ⟨fun q_ hq => absurd hq List.not_mem_nil, fun q_ hq => absurd hq List.not_mem_nil, fun q_ hq => absurd hq List.not_mem_nil, fun n_ hn => yg_lo hn, fun q_ hq => absurd hq List.not_mem_nil⟩
  have Hs : ysh mj4t_A.1 (yg mj4t_s) h_ := ysh_of2 hs (fun q_ hq => absurd hq List.not_mem_nil)
  have Ho : ymem (mj4t_r v1_ v5) (yg mj4t_s) mj4t_O h_ := fun q_ hq => absurd hq List.not_mem_nil
  have HC : ∀ q_ ∈ mj4t_C, xhold (mj4t_r v1_ v5) q_ := List.forall_mem_cons.mpr ⟨xh_eqF2 c0_, fun q_ hq => absurd hq List.not_mem_nil⟩
  rcases yrun (yis_ok mj4t_k) hA Hs Ho HC with ⟨q_, hq, h', K_, G_⟩ | ⟨q_, hq, h', K_, G_⟩
  · have e_ := List.mem_singleton.mp hq
    subst e_
    exact ⟨h', yfr_sm K_.2.2.2 hs K_.1 (ywa_s mj4t_w List.mem_cons_self), ⟨fun a_ j_ => yfr_bp K_.2.2.2 (fun q_ hq => absurd hq List.not_mem_nil), G_⟩⟩
  · cases hq
-- mj4r: 1 steps, 1 ends, 0 returns
def mj4r_L : List (Nat × Nat × Nat) := []
def mj4r_O : yO := []
def mj4r_A : yA := (yZ mj4r_L, [], [], [], [])
def mj4r_C : List xB := []
def mj4r_ss : List yS := [(9, [(1, .arg 1), (0, .index 338)], [], [], [], [])]
def mj4r_rs : List yR := []
theorem mj4r_w : ywa mj4r_A mj4r_ss mj4r_rs = true := by decide +kernel
theorem mj4r_k : yis (yev mj4r_A 3000 60 180 [9] (66, [(1, .arg 1), (0, .index 338)], [], mj4r_O, mj4r_C, [])) mj4r_ss mj4r_rs = true := by decide +kernel
def mj4r_r (v1_ : Int32) (k_ : Nat) : Value := bif Nat.beq k_ 1 then .int v1_ else (.int 0)
def mj4r_s (n_ : Nat) : Nat := 0
theorem mj4r {h_ : xH} {v1_ : Int32} (hs : sHp h_) : ∃ h', ysm h_ h' ∧ (((∀ a_ j_ : Nat, bpat h' a_ j_ = bpat h_ a_ j_) ∧ (bldD 60 180 66 [(1, .int v1_), (0, .index 338)] [] h_ 9 [(1, .int v1_), (0, .index 338)] [] h'))) := by
  have hA : yas mj4r_A (mj4r_r v1_) (yg mj4r_s) := ⟨fun q_ hq => absurd hq List.not_mem_nil, fun q_ hq => absurd hq List.not_mem_nil, fun q_ hq => absurd hq List.not_mem_nil, fun n_ hn => yg_lo hn, fun q_ hq => absurd hq List.not_mem_nil⟩
  have Hs : ysh mj4r_A.1 (yg mj4r_s) h_ := ysh_of2 hs (fun q_ hq => absurd hq List.not_mem_nil)
  have Ho : ymem (mj4r_r v1_) (yg mj4r_s) mj4r_O h_ := fun q_ hq => absurd hq List.not_mem_nil
  have HC : ∀ q_ ∈ mj4r_C, xhold (mj4r_r v1_) q_ := fun q_ hq => absurd hq List.not_mem_nil
  rcases yrun (yis_ok mj4r_k) hA Hs Ho HC with ⟨q_, hq, h', K_, G_⟩ | ⟨q_, hq, h', K_, G_⟩
  · have e_ := List.mem_singleton.mp hq
    subst e_
    exact ⟨h', yfr_sm K_.2.2.2 hs K_.1 (ywa_s mj4r_w List.mem_cons_self), ⟨fun a_ j_ => yfr_bp K_.2.2.2 (fun q_ hq => absurd hq List.not_mem_nil), G_⟩⟩
  · cases hq
-- mo0: 1 steps, 1 ends, 0 returns
def mo0_L : List (Nat × Nat × Nat) := []
def mo0_O : yO := []
def mo0_A : yA := (yZ mo0_L, [], [], [], [])
def mo0_C : List xB := []
def mo0_ss : List yS := [(1, [(0, .index 338)], [.index 338], [], [], [])]
def mo0_rs : List yR := []
theorem mo0_w : ywa mo0_A mo0_ss mo0_rs = true := by decide +kernel
theorem mo0_k : yis (yev mo0_A 3000 60 182 [1] (0, [(0, .index 338)], [], mo0_O, mo0_C, [])) mo0_ss mo0_rs = true := by decide +kernel
def mo0_r (k_ : Nat) : Value := .int 0
def mo0_s (n_ : Nat) : Nat := 0
theorem mo0 {h_ : xH} (hs : sHp h_) : ∃ h', ysm h_ h' ∧ (((∀ a_ j_ : Nat, bpat h' a_ j_ = bpat h_ a_ j_) ∧ (bldD 60 182 0 [(0, .index 338)] [] h_ 1 [(0, .index 338)] [.index 338] h'))) := by
  have hA : yas mo0_A mo0_r (yg mo0_s) := ⟨fun q_ hq => absurd hq List.not_mem_nil, fun q_ hq => absurd hq List.not_mem_nil, fun q_ hq => absurd hq List.not_mem_nil, fun n_ hn => yg_lo hn, fun q_ hq => absurd hq List.not_mem_nil⟩
  have Hs : ysh mo0_A.1 (yg mo0_s) h_ := ysh_of2 hs (fun q_ hq => absurd hq List.not_mem_nil)
  have Ho : ymem mo0_r (yg mo0_s) mo0_O h_ := fun q_ hq => absurd hq List.not_mem_nil
  have HC : ∀ q_ ∈ mo0_C, xhold mo0_r q_ := fun q_ hq => absurd hq List.not_mem_nil
  rcases yrun (yis_ok mo0_k) hA Hs Ho HC with ⟨q_, hq, h', K_, G_⟩ | ⟨q_, hq, h', K_, G_⟩
  · have e_ := List.mem_singleton.mp hq
    subst e_
    exact ⟨h', yfr_sm K_.2.2.2 hs K_.1 (ywa_s mo0_w List.mem_cons_self), ⟨fun a_ j_ => yfr_bp K_.2.2.2 (fun q_ hq => absurd hq List.not_mem_nil), G_⟩⟩
  · cases hq
-- mo1: 3 steps, 1 ends, 0 returns
def mo1_L : List (Nat × Nat × Nat) := []
def mo1_O : yO := []
def mo1_A : yA := (yZ mo1_L, [], [], [], [])
def mo1_C : List xB := []
def mo1_ss : List yS := [(7, [(1, .arg 1), (0, .index 338)], [.arg 1, .index 338], [], [], [])]
def mo1_rs : List yR := []
theorem mo1_w : ywa mo1_A mo1_ss mo1_rs = true := by decide +kernel
theorem mo1_k : yis (yev mo1_A 3000 60 182 [7] (4, [(0, .index 338)], [.arg 1], mo1_O, mo1_C, [])) mo1_ss mo1_rs = true := by decide +kernel
def mo1_r (v1_ : Int32) (k_ : Nat) : Value := bif Nat.beq k_ 1 then .int v1_ else (.int 0)
def mo1_s (n_ : Nat) : Nat := 0
theorem mo1 {h_ : xH} {v1_ : Int32} (hs : sHp h_) : ∃ h', ysm h_ h' ∧ (((∀ a_ j_ : Nat, bpat h' a_ j_ = bpat h_ a_ j_) ∧ (bldD 60 182 4 [(0, .index 338)] [.int v1_] h_ 7 [(1, .int v1_), (0, .index 338)] [.int v1_, .index 338] h'))) := by
  have hA : yas mo1_A (mo1_r v1_) (yg mo1_s) := ⟨fun q_ hq => absurd hq List.not_mem_nil, fun q_ hq => absurd hq List.not_mem_nil, fun q_ hq => absurd hq List.not_mem_nil, fun n_ hn => yg_lo hn, fun q_ hq => absurd hq List.not_mem_nil⟩
  have Hs : ysh mo1_A.1 (yg mo1_s) h_ := ysh_of2 hs (fun q_ hq => absurd hq List.not_mem_nil)
  have Ho : ymem (mo1_r v1_) (yg mo1_s) mo1_O h_ := fun q_ hq => absurd hq List.not_mem_nil
  have HC : ∀ q_ ∈ mo1_C, xhold (mo1_r v1_) q_ := fun q_ hq => absurd hq List.not_mem_nil
  rcases yrun (yis_ok mo1_k) hA Hs Ho HC with ⟨q_, hq, h', K_, G_⟩ | ⟨q_, hq, h', K_, G_⟩
  · have e_ := List.mem_singleton.mp hq
    subst e_
    exact ⟨h', yfr_sm K_.2.2.2 hs K_.1 (ywa_s mo1_w List.mem_cons_self), ⟨fun a_ j_ => yfr_bp K_.2.2.2 (fun q_ hq => absurd hq List.not_mem_nil), G_⟩⟩
  · cases hq
-- moN: 10 steps, 1 ends, 0 returns
def moN_L : List (Nat × Nat × Nat) := []
def moN_O : yO := [(338, .int 7, .arg 307)]
def moN_A : yA := (yZ moN_L, [], [], [], [])
def moN_C : List xB := [(.eq, .arg 5, .int 0, false)]
def moN_ss : List yS := [(26, [(1, .arg 1), (0, .index 338)], [.arg 1, .int 1, .index 338], [(338, .int 7, .add (.arg 307) (.int 1))], [(.eq, .arg 5, .int 0, false)], [(338, .int 7)])]
def moN_rs : List yR := []
theorem moN_w : ywa moN_A moN_ss moN_rs = true := by decide +kernel
theorem moN_k : yis (yev moN_A 3000 60 182 [26] (10, [(1, .arg 1), (0, .index 338)], [.arg 5], moN_O, moN_C, [])) moN_ss moN_rs = true := by decide +kernel
def moN_r (v1_ v5 v307 : Int32) (k_ : Nat) : Value := bif Nat.beq k_ 1 then .int v1_ else (bif Nat.beq k_ 5 then .int v5 else (bif Nat.beq k_ 307 then .int v307 else (.int 0)))
def moN_s (n_ : Nat) : Nat := 0
theorem moN {h_ : xH} {v1_ v5 v307 : Int32} (hs : sHp h_) (o0_ : bpat h_ 338 7 = some (.int v307)) (c0_ : ¬ v5 = (0 : Int32)) : ∃ h', ysm h_ h' ∧ (((bpat h' 338 7 = some (.int (v307 + (1 : Int32)))) ∧ (∀ a_ j_ : Nat, ¬ (a_ = 338 ∧ j_ = 7) → bpat h' a_ j_ = bpat h_ a_ j_) ∧ (bldD 60 182 10 [(1, .int v1_), (0, .index 338)] [.int v5] h_ 26 [(1, .int v1_), (0, .index 338)] [.int v1_, .int (1 : Int32), .index 338] h'))) := by
  have hA : yas moN_A (moN_r v1_ v5 v307) (yg moN_s) := ⟨fun q_ hq => absurd hq List.not_mem_nil, fun q_ hq => absurd hq List.not_mem_nil, fun q_ hq => absurd hq List.not_mem_nil, fun n_ hn => yg_lo hn, fun q_ hq => absurd hq List.not_mem_nil⟩
  have Hs : ysh moN_A.1 (yg moN_s) h_ := ysh_of2 hs (fun q_ hq => absurd hq List.not_mem_nil)
  have Ho : ymem (moN_r v1_ v5 v307) (yg moN_s) moN_O h_ := List.forall_mem_cons.mpr ⟨bpat_some o0_, fun q_ hq => absurd hq List.not_mem_nil⟩
  have HC : ∀ q_ ∈ moN_C, xhold (moN_r v1_ v5 v307) q_ := List.forall_mem_cons.mpr ⟨xh_eqF2 c0_, fun q_ hq => absurd hq List.not_mem_nil⟩
  rcases yrun (yis_ok moN_k) hA Hs Ho HC with ⟨q_, hq, h', K_, G_⟩ | ⟨q_, hq, h', K_, G_⟩
  · have e_ := List.mem_singleton.mp hq
    subst e_
    exact ⟨h', yfr_sm K_.2.2.2 hs K_.1 (ywa_s moN_w List.mem_cons_self), ⟨bpat_of (K_.2.1 _ List.mem_cons_self), fun a_ j_ n0_ => yfr_bp K_.2.2.2 (List.forall_mem_cons.mpr ⟨fun e_ => n0_ ⟨e_.1.symm, e_.2.symm⟩, fun q_ hq => absurd hq List.not_mem_nil⟩), G_⟩⟩
  · cases hq
-- moNr: 2 steps, 0 ends, 1 returns
def moNr_L : List (Nat × Nat × Nat) := []
def moNr_O : yO := []
def moNr_A : yA := (yZ moNr_L, [], [], [], [])
def moNr_C : List xB := []
def moNr_ss : List yS := []
def moNr_rs : List yR := [(some (.int 1), [], [], [])]
theorem moNr_w : ywa moNr_A moNr_ss moNr_rs = true := by decide +kernel
theorem moNr_k : yis (yev moNr_A 3000 60 182 [] (29, [(1, .arg 1), (0, .index 338)], [], moNr_O, moNr_C, [])) moNr_ss moNr_rs = true := by decide +kernel
def moNr_r (v1_ : Int32) (k_ : Nat) : Value := bif Nat.beq k_ 1 then .int v1_ else (.int 0)
def moNr_s (n_ : Nat) : Nat := 0
theorem moNr {h_ : xH} {v1_ : Int32} (hs : sHp h_) : ∃ h', ysm h_ h' ∧ (((∀ a_ j_ : Nat, bpat h' a_ j_ = bpat h_ a_ j_) ∧ (∀ D_, 60 ≤ D_ → xrun D_ 182 29 [(1, .int v1_), (0, .index 338)] [] h_ (some (.int (1 : Int32)), h', [])))) := by
  have hA : yas moNr_A (moNr_r v1_) (yg moNr_s) := ⟨fun q_ hq => absurd hq List.not_mem_nil, fun q_ hq => absurd hq List.not_mem_nil, fun q_ hq => absurd hq List.not_mem_nil, fun n_ hn => yg_lo hn, fun q_ hq => absurd hq List.not_mem_nil⟩
  have Hs : ysh moNr_A.1 (yg moNr_s) h_ := ysh_of2 hs (fun q_ hq => absurd hq List.not_mem_nil)
  have Ho : ymem (moNr_r v1_) (yg moNr_s) moNr_O h_ := fun q_ hq => absurd hq List.not_mem_nil
  have HC : ∀ q_ ∈ moNr_C, xhold (moNr_r v1_) q_ := fun q_ hq => absurd hq List.not_mem_nil
  rcases yrun (yis_ok moNr_k) hA Hs Ho HC with ⟨q_, hq, h', K_, G_⟩ | ⟨q_, hq, h', K_, G_⟩
  · cases hq
  · have e_ := List.mem_singleton.mp hq
    subst e_
    exact ⟨h', yfr_sm K_.2.2.2 hs K_.1 (ywa_r moNr_w List.mem_cons_self), ⟨fun a_ j_ => yfr_bp K_.2.2.2 (fun q_ hq => absurd hq List.not_mem_nil), G_⟩⟩
-- moD: 19 steps, 1 ends, 0 returns
def moD_L : List (Nat × Nat × Nat) := []
def moD_O : yO := []
def moD_A : yA := (yZ moD_L, [], [], [], [])
def moD_C : List xB := [(.eq, .arg 5, .int 0, true), (.le, .arg 1, .int 57, true), (.lt, .arg 1, .int 48, false)]
def moD_ss : List yS := [(46, [(3, .int 0), (2, .int 0), (1, .arg 1), (0, .index 338)], [], [], [(.eq, .arg 5, .int 0, true), (.le, .arg 1, .int 57, true), (.lt, .arg 1, .int 48, false)], [])]
def moD_rs : List yR := []
theorem moD_w : ywa moD_A moD_ss moD_rs = true := by decide +kernel
theorem moD_k : yis (yev moD_A 3000 60 182 [46] (10, [(1, .arg 1), (0, .index 338)], [.arg 5], moD_O, moD_C, [])) moD_ss moD_rs = true := by decide +kernel
def moD_r (v1_ v5 : Int32) (k_ : Nat) : Value := bif Nat.beq k_ 1 then .int v1_ else (bif Nat.beq k_ 5 then .int v5 else (.int 0))
def moD_s (n_ : Nat) : Nat := 0
theorem moD {h_ : xH} {v1_ v5 : Int32} (hs : sHp h_) (c0_ : v5 = (0 : Int32)) (c1_ : v1_.toInt ≤ (57 : Int32).toInt) (c2_ : (48 : Int32).toInt ≤ v1_.toInt) : ∃ h', ysm h_ h' ∧ (((∀ a_ j_ : Nat, bpat h' a_ j_ = bpat h_ a_ j_) ∧ (bldD 60 182 10 [(1, .int v1_), (0, .index 338)] [.int v5] h_ 46 [(3, .int (0 : Int32)), (2, .int (0 : Int32)), (1, .int v1_), (0, .index 338)] [] h'))) := by
  have hA : yas moD_A (moD_r v1_ v5) (yg moD_s) := ⟨fun q_ hq => absurd hq List.not_mem_nil, fun q_ hq => absurd hq List.not_mem_nil, fun q_ hq => absurd hq List.not_mem_nil, fun n_ hn => yg_lo hn, fun q_ hq => absurd hq List.not_mem_nil⟩
  have Hs : ysh moD_A.1 (yg moD_s) h_ := ysh_of2 hs (fun q_ hq => absurd hq List.not_mem_nil)
  have Ho : ymem (moD_r v1_ v5) (yg moD_s) moD_O h_ := fun q_ hq => absurd hq List.not_mem_nil
  have HC : ∀ q_ ∈ moD_C, xhold (moD_r v1_ v5) q_ := List.forall_mem_cons.mpr ⟨xh_eqT2 c0_, List.forall_mem_cons.mpr ⟨xh_leT c1_, List.forall_mem_cons.mpr ⟨xh_ltF c2_, fun q_ hq => absurd hq List.not_mem_nil⟩⟩⟩
  rcases yrun (yis_ok moD_k) hA Hs Ho HC with ⟨q_, hq, h', K_, G_⟩ | ⟨q_, hq, h', K_, G_⟩
  · have e_ := List.mem_singleton.mp hq
    subst e_
    exact ⟨h', yfr_sm K_.2.2.2 hs K_.1 (ywa_s moD_w List.mem_cons_self), ⟨fun a_ j_ => yfr_bp K_.2.2.2 (fun q_ hq => absurd hq List.not_mem_nil), G_⟩⟩
  · cases hq
-- moE1: 11 steps, 1 ends, 0 returns
def moE1_L : List (Nat × Nat × Nat) := []
def moE1_O : yO := []
def moE1_A : yA := (yZ moE1_L, [], [], [], [])
def moE1_C : List xB := [(.eq, .arg 5, .int 0, true), (.lt, .arg 1, .int 48, true)]
def moE1_ss : List yS := [(102, [(1, .arg 1), (0, .index 338)], [], [], [(.eq, .arg 5, .int 0, true), (.lt, .arg 1, .int 48, true)], [])]
def moE1_rs : List yR := []
theorem moE1_w : ywa moE1_A moE1_ss moE1_rs = true := by decide +kernel
theorem moE1_k : yis (yev moE1_A 3000 60 182 [102] (10, [(1, .arg 1), (0, .index 338)], [.arg 5], moE1_O, moE1_C, [])) moE1_ss moE1_rs = true := by decide +kernel
def moE1_r (v1_ v5 : Int32) (k_ : Nat) : Value := bif Nat.beq k_ 1 then .int v1_ else (bif Nat.beq k_ 5 then .int v5 else (.int 0))
def moE1_s (n_ : Nat) : Nat := 0
theorem moE1 {h_ : xH} {v1_ v5 : Int32} (hs : sHp h_) (c0_ : v5 = (0 : Int32)) (c1_ : v1_.toInt < (48 : Int32).toInt) : ∃ h', ysm h_ h' ∧ (((∀ a_ j_ : Nat, bpat h' a_ j_ = bpat h_ a_ j_) ∧ (bldD 60 182 10 [(1, .int v1_), (0, .index 338)] [.int v5] h_ 102 [(1, .int v1_), (0, .index 338)] [] h'))) := by
  have hA : yas moE1_A (moE1_r v1_ v5) (yg moE1_s) := ⟨fun q_ hq => absurd hq List.not_mem_nil, fun q_ hq => absurd hq List.not_mem_nil, fun q_ hq => absurd hq List.not_mem_nil, fun n_ hn => yg_lo hn, fun q_ hq => absurd hq List.not_mem_nil⟩
  have Hs : ysh moE1_A.1 (yg moE1_s) h_ := ysh_of2 hs (fun q_ hq => absurd hq List.not_mem_nil)
  have Ho : ymem (moE1_r v1_ v5) (yg moE1_s) moE1_O h_ := fun q_ hq => absurd hq List.not_mem_nil
  have HC : ∀ q_ ∈ moE1_C, xhold (moE1_r v1_ v5) q_ := List.forall_mem_cons.mpr ⟨xh_eqT2 c0_, List.forall_mem_cons.mpr ⟨xh_ltT c1_, fun q_ hq => absurd hq List.not_mem_nil⟩⟩
  rcases yrun (yis_ok moE1_k) hA Hs Ho HC with ⟨q_, hq, h', K_, G_⟩ | ⟨q_, hq, h', K_, G_⟩
  · have e_ := List.mem_singleton.mp hq
    subst e_
    exact ⟨h', yfr_sm K_.2.2.2 hs K_.1 (ywa_s moE1_w List.mem_cons_self), ⟨fun a_ j_ => yfr_bp K_.2.2.2 (fun q_ hq => absurd hq List.not_mem_nil), G_⟩⟩
  · cases hq
-- moE2: 14 steps, 1 ends, 0 returns
def moE2_L : List (Nat × Nat × Nat) := []
def moE2_O : yO := []
def moE2_A : yA := (yZ moE2_L, [], [], [], [])
def moE2_C : List xB := [(.eq, .arg 5, .int 0, true), (.le, .arg 1, .int 57, false), (.lt, .arg 1, .int 48, false)]
def moE2_ss : List yS := [(102, [(1, .arg 1), (0, .index 338)], [], [], [(.eq, .arg 5, .int 0, true), (.le, .arg 1, .int 57, false), (.lt, .arg 1, .int 48, false)], [])]
def moE2_rs : List yR := []
theorem moE2_w : ywa moE2_A moE2_ss moE2_rs = true := by decide +kernel
theorem moE2_k : yis (yev moE2_A 3000 60 182 [102] (10, [(1, .arg 1), (0, .index 338)], [.arg 5], moE2_O, moE2_C, [])) moE2_ss moE2_rs = true := by decide +kernel
def moE2_r (v1_ v5 : Int32) (k_ : Nat) : Value := bif Nat.beq k_ 1 then .int v1_ else (bif Nat.beq k_ 5 then .int v5 else (.int 0))
def moE2_s (n_ : Nat) : Nat := 0
theorem moE2 {h_ : xH} {v1_ v5 : Int32} (hs : sHp h_) (c0_ : v5 = (0 : Int32)) (c1_ : (57 : Int32).toInt < v1_.toInt) (c2_ : (48 : Int32).toInt ≤ v1_.toInt) : ∃ h', ysm h_ h' ∧ (((∀ a_ j_ : Nat, bpat h' a_ j_ = bpat h_ a_ j_) ∧ (bldD 60 182 10 [(1, .int v1_), (0, .index 338)] [.int v5] h_ 102 [(1, .int v1_), (0, .index 338)] [] h'))) := by
  have hA : yas moE2_A (moE2_r v1_ v5) (yg moE2_s) := ⟨fun q_ hq => absurd hq List.not_mem_nil, fun q_ hq => absurd hq List.not_mem_nil, fun q_ hq => absurd hq List.not_mem_nil, fun n_ hn => yg_lo hn, fun q_ hq => absurd hq List.not_mem_nil⟩
  have Hs : ysh moE2_A.1 (yg moE2_s) h_ := ysh_of2 hs (fun q_ hq => absurd hq List.not_mem_nil)
  have Ho : ymem (moE2_r v1_ v5) (yg moE2_s) moE2_O h_ := fun q_ hq => absurd hq List.not_mem_nil
  have HC : ∀ q_ ∈ moE2_C, xhold (moE2_r v1_ v5) q_ := List.forall_mem_cons.mpr ⟨xh_eqT2 c0_, List.forall_mem_cons.mpr ⟨xh_leF c1_, List.forall_mem_cons.mpr ⟨xh_ltF c2_, fun q_ hq => absurd hq List.not_mem_nil⟩⟩⟩
  rcases yrun (yis_ok moE2_k) hA Hs Ho HC with ⟨q_, hq, h', K_, G_⟩ | ⟨q_, hq, h', K_, G_⟩
  · have e_ := List.mem_singleton.mp hq
    subst e_
    exact ⟨h', yfr_sm K_.2.2.2 hs K_.1 (ywa_s moE2_w List.mem_cons_self), ⟨fun a_ j_ => yfr_bp K_.2.2.2 (fun q_ hq => absurd hq List.not_mem_nil), G_⟩⟩
  · cases hq
-- mnx: 6 steps, 1 ends, 0 returns
def mnx_L : List (Nat × Nat × Nat) := []
def mnx_O : yO := []
def mnx_A : yA := (yZ mnx_L, [], [], [], [])
def mnx_C : List xB := [(.lt, .arg 3, .int 4, false)]
def mnx_ss : List yS := [(97, [(3, .arg 3), (2, .arg 2), (1, .arg 1), (0, .index 338)], [.arg 2, .int 0, .index 338], [], [(.lt, .arg 3, .int 4, false)], [])]
def mnx_rs : List yR := []
theorem mnx_w : ywa mnx_A mnx_ss mnx_rs = true := by decide +kernel
theorem mnx_k : yis (yev mnx_A 3000 60 182 [97] (46, [(3, .arg 3), (2, .arg 2), (1, .arg 1), (0, .index 338)], [], mnx_O, mnx_C, [])) mnx_ss mnx_rs = true := by decide +kernel
def mnx_r (v1_ v2 v3 : Int32) (k_ : Nat) : Value := bif Nat.beq k_ 1 then .int v1_ else (bif Nat.beq k_ 2 then .int v2 else (bif Nat.beq k_ 3 then .int v3 else (.int 0)))
def mnx_s (n_ : Nat) : Nat := 0
theorem mnx {h_ : xH} {v1_ v2 v3 : Int32} (hs : sHp h_) (c0_ : (4 : Int32).toInt ≤ v3.toInt) : ∃ h', ysm h_ h' ∧ (((∀ a_ j_ : Nat, bpat h' a_ j_ = bpat h_ a_ j_) ∧ (bldD 60 182 46 [(3, .int v3), (2, .int v2), (1, .int v1_), (0, .index 338)] [] h_ 97 [(3, .int v3), (2, .int v2), (1, .int v1_), (0, .index 338)] [.int v2, .int (0 : Int32), .index 338] h'))) := by
  have hA : yas mnx_A (mnx_r v1_ v2 v3) (yg mnx_s) := ⟨fun q_ hq => absurd hq List.not_mem_nil, fun q_ hq => absurd hq List.not_mem_nil, fun q_ hq => absurd hq List.not_mem_nil, fun n_ hn => yg_lo hn, fun q_ hq => absurd hq List.not_mem_nil⟩
  have Hs : ysh mnx_A.1 (yg mnx_s) h_ := ysh_of2 hs (fun q_ hq => absurd hq List.not_mem_nil)
  have Ho : ymem (mnx_r v1_ v2 v3) (yg mnx_s) mnx_O h_ := fun q_ hq => absurd hq List.not_mem_nil
  have HC : ∀ q_ ∈ mnx_C, xhold (mnx_r v1_ v2 v3) q_ := List.forall_mem_cons.mpr ⟨xh_ltF c0_, fun q_ hq => absurd hq List.not_mem_nil⟩
  rcases yrun (yis_ok mnx_k) hA Hs Ho HC with ⟨q_, hq, h', K_, G_⟩ | ⟨q_, hq, h', K_, G_⟩
  · have e_ := List.mem_singleton.mp hq
    subst e_
    exact ⟨h', yfr_sm K_.2.2.2 hs K_.1 (ywa_s mnx_w List.mem_cons_self), ⟨fun a_ j_ => yfr_bp K_.2.2.2 (fun q_ hq => absurd hq List.not_mem_nil), G_⟩⟩
  · cases hq
-- mnl: 4 steps, 1 ends, 0 returns
def mnl_L : List (Nat × Nat × Nat) := []
def mnl_O : yO := []
def mnl_A : yA := (yZ mnl_L, [], [], [], [])
def mnl_C : List xB := [(.lt, .arg 3, .int 4, true)]
def mnl_ss : List yS := [(52, [(3, .arg 3), (2, .arg 2), (1, .arg 1), (0, .index 338)], [.index 338], [], [(.lt, .arg 3, .int 4, true)], [])]
def mnl_rs : List yR := []
theorem mnl_w : ywa mnl_A mnl_ss mnl_rs = true := by decide +kernel
theorem mnl_k : yis (yev mnl_A 3000 60 182 [52] (46, [(3, .arg 3), (2, .arg 2), (1, .arg 1), (0, .index 338)], [], mnl_O, mnl_C, [])) mnl_ss mnl_rs = true := by decide +kernel
def mnl_r (v1_ v2 v3 : Int32) (k_ : Nat) : Value := bif Nat.beq k_ 1 then .int v1_ else (bif Nat.beq k_ 2 then .int v2 else (bif Nat.beq k_ 3 then .int v3 else (.int 0)))
def mnl_s (n_ : Nat) : Nat := 0
theorem mnl {h_ : xH} {v1_ v2 v3 : Int32} (hs : sHp h_) (c0_ : v3.toInt < (4 : Int32).toInt) : ∃ h', ysm h_ h' ∧ (((∀ a_ j_ : Nat, bpat h' a_ j_ = bpat h_ a_ j_) ∧ (bldD 60 182 46 [(3, .int v3), (2, .int v2), (1, .int v1_), (0, .index 338)] [] h_ 52 [(3, .int v3), (2, .int v2), (1, .int v1_), (0, .index 338)] [.index 338] h'))) := by
  have hA : yas mnl_A (mnl_r v1_ v2 v3) (yg mnl_s) := ⟨fun q_ hq => absurd hq List.not_mem_nil, fun q_ hq => absurd hq List.not_mem_nil, fun q_ hq => absurd hq List.not_mem_nil, fun n_ hn => yg_lo hn, fun q_ hq => absurd hq List.not_mem_nil⟩
  have Hs : ysh mnl_A.1 (yg mnl_s) h_ := ysh_of2 hs (fun q_ hq => absurd hq List.not_mem_nil)
  have Ho : ymem (mnl_r v1_ v2 v3) (yg mnl_s) mnl_O h_ := fun q_ hq => absurd hq List.not_mem_nil
  have HC : ∀ q_ ∈ mnl_C, xhold (mnl_r v1_ v2 v3) q_ := List.forall_mem_cons.mpr ⟨xh_ltT c0_, fun q_ hq => absurd hq List.not_mem_nil⟩
  rcases yrun (yis_ok mnl_k) hA Hs Ho HC with ⟨q_, hq, h', K_, G_⟩ | ⟨q_, hq, h', K_, G_⟩
  · have e_ := List.mem_singleton.mp hq
    subst e_
    exact ⟨h', yfr_sm K_.2.2.2 hs K_.1 (ywa_s mnl_w List.mem_cons_self), ⟨fun a_ j_ => yfr_bp K_.2.2.2 (fun q_ hq => absurd hq List.not_mem_nil), G_⟩⟩
  · cases hq
-- mne1: 12 steps, 1 ends, 0 returns
def mne1_L : List (Nat × Nat × Nat) := []
def mne1_O : yO := []
def mne1_A : yA := (yZ mne1_L, [], [], [], [])
def mne1_C : List xB := [(.lt, .arg 5, .int 48, true)]
def mne1_ss : List yS := [(97, [(3, .arg 3), (2, .arg 2), (1, .arg 1), (0, .index 338)], [.arg 2, .int 0, .index 338], [], [(.lt, .arg 5, .int 48, true)], [])]
def mne1_rs : List yR := []
theorem mne1_w : ywa mne1_A mne1_ss mne1_rs = true := by decide +kernel
theorem mne1_k : yis (yev mne1_A 3000 60 182 [97] (55, [(3, .arg 3), (2, .arg 2), (1, .arg 1), (0, .index 338)], [.arg 5], mne1_O, mne1_C, [])) mne1_ss mne1_rs = true := by decide +kernel
def mne1_r (v1_ v2 v3 v5 : Int32) (k_ : Nat) : Value := bif Nat.beq k_ 1 then .int v1_ else (bif Nat.beq k_ 2 then .int v2 else (bif Nat.beq k_ 3 then .int v3 else (bif Nat.beq k_ 5 then .int v5 else (.int 0))))
def mne1_s (n_ : Nat) : Nat := 0
theorem mne1 {h_ : xH} {v1_ v2 v3 v5 : Int32} (hs : sHp h_) (c0_ : v5.toInt < (48 : Int32).toInt) : ∃ h', ysm h_ h' ∧ (((∀ a_ j_ : Nat, bpat h' a_ j_ = bpat h_ a_ j_) ∧ (bldD 60 182 55 [(3, .int v3), (2, .int v2), (1, .int v1_), (0, .index 338)] [.int v5] h_ 97 [(3, .int v3), (2, .int v2), (1, .int v1_), (0, .index 338)] [.int v2, .int (0 : Int32), .index 338] h'))) := by
  have hA : yas mne1_A (mne1_r v1_ v2 v3 v5) (yg mne1_s) := ⟨fun q_ hq => absurd hq List.not_mem_nil, fun q_ hq => absurd hq List.not_mem_nil, fun q_ hq => absurd hq List.not_mem_nil, fun n_ hn => yg_lo hn, fun q_ hq => absurd hq List.not_mem_nil⟩
  have Hs : ysh mne1_A.1 (yg mne1_s) h_ := ysh_of2 hs (fun q_ hq => absurd hq List.not_mem_nil)
  have Ho : ymem (mne1_r v1_ v2 v3 v5) (yg mne1_s) mne1_O h_ := fun q_ hq => absurd hq List.not_mem_nil
  have HC : ∀ q_ ∈ mne1_C, xhold (mne1_r v1_ v2 v3 v5) q_ := List.forall_mem_cons.mpr ⟨xh_ltT c0_, fun q_ hq => absurd hq List.not_mem_nil⟩
  rcases yrun (yis_ok mne1_k) hA Hs Ho HC with ⟨q_, hq, h', K_, G_⟩ | ⟨q_, hq, h', K_, G_⟩
  · have e_ := List.mem_singleton.mp hq
    subst e_
    exact ⟨h', yfr_sm K_.2.2.2 hs K_.1 (ywa_s mne1_w List.mem_cons_self), ⟨fun a_ j_ => yfr_bp K_.2.2.2 (fun q_ hq => absurd hq List.not_mem_nil), G_⟩⟩
  · cases hq
-- mne2: 15 steps, 1 ends, 0 returns
def mne2_L : List (Nat × Nat × Nat) := []
def mne2_O : yO := []
def mne2_A : yA := (yZ mne2_L, [], [], [], [])
def mne2_C : List xB := [(.le, .arg 5, .int 57, false), (.lt, .arg 5, .int 48, false)]
def mne2_ss : List yS := [(97, [(3, .arg 3), (2, .arg 2), (1, .arg 1), (0, .index 338)], [.arg 2, .int 0, .index 338], [], [(.le, .arg 5, .int 57, false), (.lt, .arg 5, .int 48, false)], [])]
def mne2_rs : List yR := []
theorem mne2_w : ywa mne2_A mne2_ss mne2_rs = true := by decide +kernel
theorem mne2_k : yis (yev mne2_A 3000 60 182 [97] (55, [(3, .arg 3), (2, .arg 2), (1, .arg 1), (0, .index 338)], [.arg 5], mne2_O, mne2_C, [])) mne2_ss mne2_rs = true := by decide +kernel
def mne2_r (v1_ v2 v3 v5 : Int32) (k_ : Nat) : Value := bif Nat.beq k_ 1 then .int v1_ else (bif Nat.beq k_ 2 then .int v2 else (bif Nat.beq k_ 3 then .int v3 else (bif Nat.beq k_ 5 then .int v5 else (.int 0))))
def mne2_s (n_ : Nat) : Nat := 0
theorem mne2 {h_ : xH} {v1_ v2 v3 v5 : Int32} (hs : sHp h_) (c0_ : (57 : Int32).toInt < v5.toInt) (c1_ : (48 : Int32).toInt ≤ v5.toInt) : ∃ h', ysm h_ h' ∧ (((∀ a_ j_ : Nat, bpat h' a_ j_ = bpat h_ a_ j_) ∧ (bldD 60 182 55 [(3, .int v3), (2, .int v2), (1, .int v1_), (0, .index 338)] [.int v5] h_ 97 [(3, .int v3), (2, .int v2), (1, .int v1_), (0, .index 338)] [.int v2, .int (0 : Int32), .index 338] h'))) := by
  have hA : yas mne2_A (mne2_r v1_ v2 v3 v5) (yg mne2_s) := ⟨fun q_ hq => absurd hq List.not_mem_nil, fun q_ hq => absurd hq List.not_mem_nil, fun q_ hq => absurd hq List.not_mem_nil, fun n_ hn => yg_lo hn, fun q_ hq => absurd hq List.not_mem_nil⟩
  have Hs : ysh mne2_A.1 (yg mne2_s) h_ := ysh_of2 hs (fun q_ hq => absurd hq List.not_mem_nil)
  have Ho : ymem (mne2_r v1_ v2 v3 v5) (yg mne2_s) mne2_O h_ := fun q_ hq => absurd hq List.not_mem_nil
  have HC : ∀ q_ ∈ mne2_C, xhold (mne2_r v1_ v2 v3 v5) q_ := List.forall_mem_cons.mpr ⟨xh_leF c0_, List.forall_mem_cons.mpr ⟨xh_ltF c1_, fun q_ hq => absurd hq List.not_mem_nil⟩⟩
  rcases yrun (yis_ok mne2_k) hA Hs Ho HC with ⟨q_, hq, h', K_, G_⟩ | ⟨q_, hq, h', K_, G_⟩
  · have e_ := List.mem_singleton.mp hq
    subst e_
    exact ⟨h', yfr_sm K_.2.2.2 hs K_.1 (ywa_s mne2_w List.mem_cons_self), ⟨fun a_ j_ => yfr_bp K_.2.2.2 (fun q_ hq => absurd hq List.not_mem_nil), G_⟩⟩
  · cases hq
-- mnd: 17 steps, 1 ends, 0 returns
def mnd_L : List (Nat × Nat × Nat) := []
def mnd_O : yO := []
def mnd_A : yA := (yZ mnd_L, [], [], [], [])
def mnd_C : List xB := [(.le, .arg 5, .int 57, true), (.lt, .arg 5, .int 48, false)]
def mnd_ss : List yS := [(70, [(3, .arg 3), (2, .arg 2), (1, .arg 1), (0, .index 338)], [.index 338, .mul (.int 10) (.arg 2)], [], [(.le, .arg 5, .int 57, true), (.lt, .arg 5, .int 48, false)], [])]
def mnd_rs : List yR := []
theorem mnd_w : ywa mnd_A mnd_ss mnd_rs = true := by decide +kernel
theorem mnd_k : yis (yev mnd_A 3000 60 182 [70] (55, [(3, .arg 3), (2, .arg 2), (1, .arg 1), (0, .index 338)], [.arg 5], mnd_O, mnd_C, [])) mnd_ss mnd_rs = true := by decide +kernel
def mnd_r (v1_ v2 v3 v5 : Int32) (k_ : Nat) : Value := bif Nat.beq k_ 1 then .int v1_ else (bif Nat.beq k_ 2 then .int v2 else (bif Nat.beq k_ 3 then .int v3 else (bif Nat.beq k_ 5 then .int v5 else (.int 0))))
def mnd_s (n_ : Nat) : Nat := 0
theorem mnd {h_ : xH} {v1_ v2 v3 v5 : Int32} (hs : sHp h_) (c0_ : v5.toInt ≤ (57 : Int32).toInt) (c1_ : (48 : Int32).toInt ≤ v5.toInt) : ∃ h', ysm h_ h' ∧ (((∀ a_ j_ : Nat, bpat h' a_ j_ = bpat h_ a_ j_) ∧ (bldD 60 182 55 [(3, .int v3), (2, .int v2), (1, .int v1_), (0, .index 338)] [.int v5] h_ 70 [(3, .int v3), (2, .int v2), (1, .int v1_), (0, .index 338)] [.index 338, .int ((10 : Int32) * v2)] h'))) := by
  have hA : yas mnd_A (mnd_r v1_ v2 v3 v5) (yg mnd_s) := ⟨fun q_ hq => absurd hq List.not_mem_nil, fun q_ hq => absurd hq List.not_mem_nil, fun q_ hq => absurd hq List.not_mem_nil, fun n_ hn => yg_lo hn, fun q_ hq => absurd hq List.not_mem_nil⟩
  have Hs : ysh mnd_A.1 (yg mnd_s) h_ := ysh_of2 hs (fun q_ hq => absurd hq List.not_mem_nil)
  have Ho : ymem (mnd_r v1_ v2 v3 v5) (yg mnd_s) mnd_O h_ := fun q_ hq => absurd hq List.not_mem_nil
  have HC : ∀ q_ ∈ mnd_C, xhold (mnd_r v1_ v2 v3 v5) q_ := List.forall_mem_cons.mpr ⟨xh_leT c0_, List.forall_mem_cons.mpr ⟨xh_ltF c1_, fun q_ hq => absurd hq List.not_mem_nil⟩⟩
  rcases yrun (yis_ok mnd_k) hA Hs Ho HC with ⟨q_, hq, h', K_, G_⟩ | ⟨q_, hq, h', K_, G_⟩
  · have e_ := List.mem_singleton.mp hq
    subst e_
    exact ⟨h', yfr_sm K_.2.2.2 hs K_.1 (ywa_s mnd_w List.mem_cons_self), ⟨fun a_ j_ => yfr_bp K_.2.2.2 (fun q_ hq => absurd hq List.not_mem_nil), G_⟩⟩
  · cases hq
-- mnt: 12 steps, 1 ends, 0 returns
def mnt_L : List (Nat × Nat × Nat) := []
def mnt_O : yO := [(338, .int 7, .arg 307)]
def mnt_A : yA := (yZ mnt_L, [], [], [], [])
def mnt_C : List xB := []
def mnt_ss : List yS := [(46, [(3, .add (.arg 3) (.int 1)), (2, .sub (.add (.arg 6) (.arg 5)) (.int 48)), (1, .arg 1), (0, .index 338)], [], [(338, .int 7, .add (.arg 307) (.int 1))], [], [(338, .int 7)])]
def mnt_rs : List yR := []
theorem mnt_w : ywa mnt_A mnt_ss mnt_rs = true := by decide +kernel
theorem mnt_k : yis (yev mnt_A 3000 60 182 [46] (73, [(3, .arg 3), (2, .arg 2), (1, .arg 1), (0, .index 338)], [.arg 5, .arg 6], mnt_O, mnt_C, [])) mnt_ss mnt_rs = true := by decide +kernel
def mnt_r (v1_ v2 v3 v5 v6 v307 : Int32) (k_ : Nat) : Value := bif Nat.beq k_ 1 then .int v1_ else (bif Nat.beq k_ 2 then .int v2 else (bif Nat.beq k_ 3 then .int v3 else (bif Nat.beq k_ 5 then .int v5 else (bif Nat.beq k_ 6 then .int v6 else (bif Nat.beq k_ 307 then .int v307 else (.int 0))))))
def mnt_s (n_ : Nat) : Nat := 0
theorem mnt {h_ : xH} {v1_ v2 v3 v5 v6 v307 : Int32} (hs : sHp h_) (o0_ : bpat h_ 338 7 = some (.int v307)) : ∃ h', ysm h_ h' ∧ (((bpat h' 338 7 = some (.int (v307 + (1 : Int32)))) ∧ (∀ a_ j_ : Nat, ¬ (a_ = 338 ∧ j_ = 7) → bpat h' a_ j_ = bpat h_ a_ j_) ∧ (bldD 60 182 73 [(3, .int v3), (2, .int v2), (1, .int v1_), (0, .index 338)] [.int v5, .int v6] h_ 46 [(3, .int (v3 + (1 : Int32))), (2, .int ((v6 + v5) - (48 : Int32))), (1, .int v1_), (0, .index 338)] [] h'))) := by
  have hA : yas mnt_A (mnt_r v1_ v2 v3 v5 v6 v307) (yg mnt_s) := ⟨fun q_ hq => absurd hq List.not_mem_nil, fun q_ hq => absurd hq List.not_mem_nil, fun q_ hq => absurd hq List.not_mem_nil, fun n_ hn => yg_lo hn, fun q_ hq => absurd hq List.not_mem_nil⟩
  have Hs : ysh mnt_A.1 (yg mnt_s) h_ := ysh_of2 hs (fun q_ hq => absurd hq List.not_mem_nil)
  have Ho : ymem (mnt_r v1_ v2 v3 v5 v6 v307) (yg mnt_s) mnt_O h_ := List.forall_mem_cons.mpr ⟨bpat_some o0_, fun q_ hq => absurd hq List.not_mem_nil⟩
  have HC : ∀ q_ ∈ mnt_C, xhold (mnt_r v1_ v2 v3 v5 v6 v307) q_ := fun q_ hq => absurd hq List.not_mem_nil
  rcases yrun (yis_ok mnt_k) hA Hs Ho HC with ⟨q_, hq, h', K_, G_⟩ | ⟨q_, hq, h', K_, G_⟩
  · have e_ := List.mem_singleton.mp hq
    subst e_
    exact ⟨h', yfr_sm K_.2.2.2 hs K_.1 (ywa_s mnt_w List.mem_cons_self), ⟨bpat_of (K_.2.1 _ List.mem_cons_self), fun a_ j_ n0_ => yfr_bp K_.2.2.2 (List.forall_mem_cons.mpr ⟨fun e_ => n0_ ⟨e_.1.symm, e_.2.symm⟩, fun q_ hq => absurd hq List.not_mem_nil⟩), G_⟩⟩
  · cases hq
-- mnr: 2 steps, 0 ends, 1 returns
def mnr_L : List (Nat × Nat × Nat) := []
def mnr_O : yO := []
def mnr_A : yA := (yZ mnr_L, [], [], [], [])
def mnr_C : List xB := []
def mnr_ss : List yS := []
def mnr_rs : List yR := [(some (.int 1), [], [], [])]
theorem mnr_w : ywa mnr_A mnr_ss mnr_rs = true := by decide +kernel
theorem mnr_k : yis (yev mnr_A 3000 60 182 [] (100, [(3, .arg 3), (2, .arg 2), (1, .arg 1), (0, .index 338)], [], mnr_O, mnr_C, [])) mnr_ss mnr_rs = true := by decide +kernel
def mnr_r (v1_ v2 v3 : Int32) (k_ : Nat) : Value := bif Nat.beq k_ 1 then .int v1_ else (bif Nat.beq k_ 2 then .int v2 else (bif Nat.beq k_ 3 then .int v3 else (.int 0)))
def mnr_s (n_ : Nat) : Nat := 0
theorem mnr {h_ : xH} {v1_ v2 v3 : Int32} (hs : sHp h_) : ∃ h', ysm h_ h' ∧ (((∀ a_ j_ : Nat, bpat h' a_ j_ = bpat h_ a_ j_) ∧ (∀ D_, 60 ≤ D_ → xrun D_ 182 100 [(3, .int v3), (2, .int v2), (1, .int v1_), (0, .index 338)] [] h_ (some (.int (1 : Int32)), h', [])))) := by
  have hA : yas mnr_A (mnr_r v1_ v2 v3) (yg mnr_s) := ⟨fun q_ hq => absurd hq List.not_mem_nil, fun q_ hq => absurd hq List.not_mem_nil, fun q_ hq => absurd hq List.not_mem_nil, fun n_ hn => yg_lo hn, fun q_ hq => absurd hq List.not_mem_nil⟩
  have Hs : ysh mnr_A.1 (yg mnr_s) h_ := ysh_of2 hs (fun q_ hq => absurd hq List.not_mem_nil)
  have Ho : ymem (mnr_r v1_ v2 v3) (yg mnr_s) mnr_O h_ := fun q_ hq => absurd hq List.not_mem_nil
  have HC : ∀ q_ ∈ mnr_C, xhold (mnr_r v1_ v2 v3) q_ := fun q_ hq => absurd hq List.not_mem_nil
  rcases yrun (yis_ok mnr_k) hA Hs Ho HC with ⟨q_, hq, h', K_, G_⟩ | ⟨q_, hq, h', K_, G_⟩
  · cases hq
  · have e_ := List.mem_singleton.mp hq
    subst e_
    exact ⟨h', yfr_sm K_.2.2.2 hs K_.1 (ywa_r mnr_w List.mem_cons_self), ⟨fun a_ j_ => yfr_bp K_.2.2.2 (fun q_ hq => absurd hq List.not_mem_nil), G_⟩⟩
-- mo33f: 14 steps, 0 ends, 1 returns
def mo33f_L : List (Nat × Nat × Nat) := []
def mo33f_O : yO := [(338, .int 8, .arg 308)]
def mo33f_A : yA := (yZ mo33f_L, [], [], [], [])
def mo33f_C : List xB := [(.eq, .arg 1, .int 33, true), (.eq, .arg 308, .int 5, true)]
def mo33f_ss : List yS := []
def mo33f_rs : List yR := [(some (.int 0), [(338, .int 8, .arg 308)], [(.eq, .arg 1, .int 33, true), (.eq, .arg 308, .int 5, true)], [])]
theorem mo33f_w : ywa mo33f_A mo33f_ss mo33f_rs = true := by decide +kernel
theorem mo33f_k : yis (yev mo33f_A 3000 60 182 [] (102, [(1, .arg 1), (0, .index 338)], [], mo33f_O, mo33f_C, [])) mo33f_ss mo33f_rs = true := by decide +kernel
def mo33f_r (v1_ v308 : Int32) (k_ : Nat) : Value := bif Nat.beq k_ 1 then .int v1_ else (bif Nat.beq k_ 308 then .int v308 else (.int 0))
def mo33f_s (n_ : Nat) : Nat := 0
theorem mo33f {h_ : xH} {v1_ v308 : Int32} (hs : sHp h_) (o0_ : bpat h_ 338 8 = some (.int v308)) (c0_ : v1_ = (33 : Int32)) (c1_ : v308 = (5 : Int32)) : ∃ h', ysm h_ h' ∧ (((∀ a_ j_ : Nat, bpat h' a_ j_ = bpat h_ a_ j_) ∧ (∀ D_, 60 ≤ D_ → xrun D_ 182 102 [(1, .int v1_), (0, .index 338)] [] h_ (some (.int (0 : Int32)), h', [])))) := by
  have hA : yas mo33f_A (mo33f_r v1_ v308) (yg mo33f_s) := ⟨fun q_ hq => absurd hq List.not_mem_nil, fun q_ hq => absurd hq List.not_mem_nil, fun q_ hq => absurd hq List.not_mem_nil, fun n_ hn => yg_lo hn, fun q_ hq => absurd hq List.not_mem_nil⟩
  have Hs : ysh mo33f_A.1 (yg mo33f_s) h_ := ysh_of2 hs (fun q_ hq => absurd hq List.not_mem_nil)
  have Ho : ymem (mo33f_r v1_ v308) (yg mo33f_s) mo33f_O h_ := List.forall_mem_cons.mpr ⟨bpat_some o0_, fun q_ hq => absurd hq List.not_mem_nil⟩
  have HC : ∀ q_ ∈ mo33f_C, xhold (mo33f_r v1_ v308) q_ := List.forall_mem_cons.mpr ⟨xh_eqT2 c0_, List.forall_mem_cons.mpr ⟨xh_eqT2 c1_, fun q_ hq => absurd hq List.not_mem_nil⟩⟩
  rcases yrun (yis_ok mo33f_k) hA Hs Ho HC with ⟨q_, hq, h', K_, G_⟩ | ⟨q_, hq, h', K_, G_⟩
  · cases hq
  · have e_ := List.mem_singleton.mp hq
    subst e_
    exact ⟨h', yfr_sm K_.2.2.2 hs K_.1 (ywa_r mo33f_w List.mem_cons_self), ⟨fun a_ j_ => yfr_bp K_.2.2.2 (fun q_ hq => absurd hq List.not_mem_nil), G_⟩⟩
-- mo33t: 25 steps, 1 ends, 0 returns
def mo33t_L : List (Nat × Nat × Nat) := []
def mo33t_O : yO := [(338, .int 8, .arg 308), (338, .int 7, .arg 307)]
def mo33t_A : yA := (yZ mo33t_L, [], [], [], [])
def mo33t_C : List xB := [(.eq, .arg 1, .int 33, true), (.eq, .arg 308, .int 5, false)]
def mo33t_ss : List yS := [(116, [(1, .arg 1), (0, .index 338)], [.index 338], [(338, .int 7, .add (.arg 307) (.int 1)), (338, .int 8, .add (.arg 308) (.int 1))], [(.eq, .arg 1, .int 33, true), (.eq, .arg 308, .int 5, false)], [(338, .int 7), (338, .int 8)])]
def mo33t_rs : List yR := []
theorem mo33t_w : ywa mo33t_A mo33t_ss mo33t_rs = true := by decide +kernel
theorem mo33t_k : yis (yev mo33t_A 3000 60 182 [116] (102, [(1, .arg 1), (0, .index 338)], [], mo33t_O, mo33t_C, [])) mo33t_ss mo33t_rs = true := by decide +kernel
def mo33t_r (v1_ v307 v308 : Int32) (k_ : Nat) : Value := bif Nat.beq k_ 1 then .int v1_ else (bif Nat.beq k_ 307 then .int v307 else (bif Nat.beq k_ 308 then .int v308 else (.int 0)))
def mo33t_s (n_ : Nat) : Nat := 0
theorem mo33t {h_ : xH} {v1_ v307 v308 : Int32} (hs : sHp h_) (o0_ : bpat h_ 338 8 = some (.int v308)) (o1 : bpat h_ 338 7 = some (.int v307)) (c0_ : v1_ = (33 : Int32)) (c1_ : ¬ v308 = (5 : Int32)) : ∃ h', ysm h_ h' ∧ (((bpat h' 338 7 = some (.int (v307 + (1 : Int32)))) ∧ (bpat h' 338 8 = some (.int (v308 + (1 : Int32)))) ∧ (∀ a_ j_ : Nat, ¬ (a_ = 338 ∧ j_ = 7) → ¬ (a_ = 338 ∧ j_ = 8) → bpat h' a_ j_ = bpat h_ a_ j_) ∧ (bldD 60 182 102 [(1, .int v1_), (0, .index 338)] [] h_ 116 [(1, .int v1_), (0, .index 338)] [.index 338] h'))) := by
  have hA : yas mo33t_A (mo33t_r v1_ v307 v308) (yg mo33t_s) := ⟨fun q_ hq => absurd hq List.not_mem_nil, fun q_ hq => absurd hq List.not_mem_nil, fun q_ hq => absurd hq List.not_mem_nil, fun n_ hn => yg_lo hn, fun q_ hq => absurd hq List.not_mem_nil⟩
  have Hs : ysh mo33t_A.1 (yg mo33t_s) h_ := ysh_of2 hs (fun q_ hq => absurd hq List.not_mem_nil)
  have Ho : ymem (mo33t_r v1_ v307 v308) (yg mo33t_s) mo33t_O h_ := List.forall_mem_cons.mpr ⟨bpat_some o0_, List.forall_mem_cons.mpr ⟨bpat_some o1, fun q_ hq => absurd hq List.not_mem_nil⟩⟩
  have HC : ∀ q_ ∈ mo33t_C, xhold (mo33t_r v1_ v307 v308) q_ := List.forall_mem_cons.mpr ⟨xh_eqT2 c0_, List.forall_mem_cons.mpr ⟨xh_eqF2 c1_, fun q_ hq => absurd hq List.not_mem_nil⟩⟩
  rcases yrun (yis_ok mo33t_k) hA Hs Ho HC with ⟨q_, hq, h', K_, G_⟩ | ⟨q_, hq, h', K_, G_⟩
  · have e_ := List.mem_singleton.mp hq
    subst e_
    exact ⟨h', yfr_sm K_.2.2.2 hs K_.1 (ywa_s mo33t_w List.mem_cons_self), ⟨bpat_of (K_.2.1 _ List.mem_cons_self), bpat_of (K_.2.1 _ (List.mem_cons_of_mem _ List.mem_cons_self)), fun a_ j_ n0_ n1_ => yfr_bp K_.2.2.2 (List.forall_mem_cons.mpr ⟨fun e_ => n0_ ⟨e_.1.symm, e_.2.symm⟩, List.forall_mem_cons.mpr ⟨fun e_ => n1_ ⟨e_.1.symm, e_.2.symm⟩, fun q_ hq => absurd hq List.not_mem_nil⟩⟩), G_⟩⟩
  · cases hq
-- mo33a: 3 steps, 0 ends, 1 returns
def mo33a_L : List (Nat × Nat × Nat) := []
def mo33a_O : yO := []
def mo33a_A : yA := (yZ mo33a_L, [], [], [], [])
def mo33a_C : List xB := [(.eq, .arg 5, .int 0, true)]
def mo33a_ss : List yS := []
def mo33a_rs : List yR := [(some (.int 0), [], [(.eq, .arg 5, .int 0, true)], [])]
theorem mo33a_w : ywa mo33a_A mo33a_ss mo33a_rs = true := by decide +kernel
theorem mo33a_k : yis (yev mo33a_A 3000 60 182 [] (119, [(1, .arg 1), (0, .index 338)], [.arg 5], mo33a_O, mo33a_C, [])) mo33a_ss mo33a_rs = true := by decide +kernel
def mo33a_r (v1_ v5 : Int32) (k_ : Nat) : Value := bif Nat.beq k_ 1 then .int v1_ else (bif Nat.beq k_ 5 then .int v5 else (.int 0))
def mo33a_s (n_ : Nat) : Nat := 0
theorem mo33a {h_ : xH} {v1_ v5 : Int32} (hs : sHp h_) (c0_ : v5 = (0 : Int32)) : ∃ h', ysm h_ h' ∧ (((∀ a_ j_ : Nat, bpat h' a_ j_ = bpat h_ a_ j_) ∧ (∀ D_, 60 ≤ D_ → xrun D_ 182 119 [(1, .int v1_), (0, .index 338)] [.int v5] h_ (some (.int (0 : Int32)), h', [])))) := by
  have hA : yas mo33a_A (mo33a_r v1_ v5) (yg mo33a_s) := ⟨fun q_ hq => absurd hq List.not_mem_nil, fun q_ hq => absurd hq List.not_mem_nil, fun q_ hq => absurd hq List.not_mem_nil, fun n_ hn => yg_lo hn, fun q_ hq => absurd hq List.not_mem_nil⟩
  have Hs : ysh mo33a_A.1 (yg mo33a_s) h_ := ysh_of2 hs (fun q_ hq => absurd hq List.not_mem_nil)
  have Ho : ymem (mo33a_r v1_ v5) (yg mo33a_s) mo33a_O h_ := fun q_ hq => absurd hq List.not_mem_nil
  have HC : ∀ q_ ∈ mo33a_C, xhold (mo33a_r v1_ v5) q_ := List.forall_mem_cons.mpr ⟨xh_eqT2 c0_, fun q_ hq => absurd hq List.not_mem_nil⟩
  rcases yrun (yis_ok mo33a_k) hA Hs Ho HC with ⟨q_, hq, h', K_, G_⟩ | ⟨q_, hq, h', K_, G_⟩
  · cases hq
  · have e_ := List.mem_singleton.mp hq
    subst e_
    exact ⟨h', yfr_sm K_.2.2.2 hs K_.1 (ywa_r mo33a_w List.mem_cons_self), ⟨fun a_ j_ => yfr_bp K_.2.2.2 (fun q_ hq => absurd hq List.not_mem_nil), G_⟩⟩
-- mo33b: 10 steps, 1 ends, 0 returns
def mo33b_L : List (Nat × Nat × Nat) := []
def mo33b_O : yO := [(338, .int 8, .arg 308)]
def mo33b_A : yA := (yZ mo33b_L, [], [], [], [])
def mo33b_C : List xB := [(.eq, .arg 5, .int 0, false)]
def mo33b_ss : List yS := [(137, [(1, .arg 1), (0, .index 338)], [.int 0, .int 2, .index 338], [(338, .int 8, .sub (.arg 308) (.int 1))], [(.eq, .arg 5, .int 0, false)], [(338, .int 8)])]
def mo33b_rs : List yR := []
theorem mo33b_w : ywa mo33b_A mo33b_ss mo33b_rs = true := by decide +kernel
theorem mo33b_k : yis (yev mo33b_A 3000 60 182 [137] (119, [(1, .arg 1), (0, .index 338)], [.arg 5], mo33b_O, mo33b_C, [])) mo33b_ss mo33b_rs = true := by decide +kernel
def mo33b_r (v1_ v5 v308 : Int32) (k_ : Nat) : Value := bif Nat.beq k_ 1 then .int v1_ else (bif Nat.beq k_ 5 then .int v5 else (bif Nat.beq k_ 308 then .int v308 else (.int 0)))
def mo33b_s (n_ : Nat) : Nat := 0
theorem mo33b {h_ : xH} {v1_ v5 v308 : Int32} (hs : sHp h_) (o0_ : bpat h_ 338 8 = some (.int v308)) (c0_ : ¬ v5 = (0 : Int32)) : ∃ h', ysm h_ h' ∧ (((bpat h' 338 8 = some (.int (v308 - (1 : Int32)))) ∧ (∀ a_ j_ : Nat, ¬ (a_ = 338 ∧ j_ = 8) → bpat h' a_ j_ = bpat h_ a_ j_) ∧ (bldD 60 182 119 [(1, .int v1_), (0, .index 338)] [.int v5] h_ 137 [(1, .int v1_), (0, .index 338)] [.int (0 : Int32), .int (2 : Int32), .index 338] h'))) := by
  have hA : yas mo33b_A (mo33b_r v1_ v5 v308) (yg mo33b_s) := ⟨fun q_ hq => absurd hq List.not_mem_nil, fun q_ hq => absurd hq List.not_mem_nil, fun q_ hq => absurd hq List.not_mem_nil, fun n_ hn => yg_lo hn, fun q_ hq => absurd hq List.not_mem_nil⟩
  have Hs : ysh mo33b_A.1 (yg mo33b_s) h_ := ysh_of2 hs (fun q_ hq => absurd hq List.not_mem_nil)
  have Ho : ymem (mo33b_r v1_ v5 v308) (yg mo33b_s) mo33b_O h_ := List.forall_mem_cons.mpr ⟨bpat_some o0_, fun q_ hq => absurd hq List.not_mem_nil⟩
  have HC : ∀ q_ ∈ mo33b_C, xhold (mo33b_r v1_ v5 v308) q_ := List.forall_mem_cons.mpr ⟨xh_eqF2 c0_, fun q_ hq => absurd hq List.not_mem_nil⟩
  rcases yrun (yis_ok mo33b_k) hA Hs Ho HC with ⟨q_, hq, h', K_, G_⟩ | ⟨q_, hq, h', K_, G_⟩
  · have e_ := List.mem_singleton.mp hq
    subst e_
    exact ⟨h', yfr_sm K_.2.2.2 hs K_.1 (ywa_s mo33b_w List.mem_cons_self), ⟨bpat_of (K_.2.1 _ List.mem_cons_self), fun a_ j_ n0_ => yfr_bp K_.2.2.2 (List.forall_mem_cons.mpr ⟨fun e_ => n0_ ⟨e_.1.symm, e_.2.symm⟩, fun q_ hq => absurd hq List.not_mem_nil⟩), G_⟩⟩
  · cases hq
-- mo33r: 2 steps, 0 ends, 1 returns
def mo33r_L : List (Nat × Nat × Nat) := []
def mo33r_O : yO := []
def mo33r_A : yA := (yZ mo33r_L, [], [], [], [])
def mo33r_C : List xB := []
def mo33r_ss : List yS := []
def mo33r_rs : List yR := [(some (.int 1), [], [], [])]
theorem mo33r_w : ywa mo33r_A mo33r_ss mo33r_rs = true := by decide +kernel
theorem mo33r_k : yis (yev mo33r_A 3000 60 182 [] (140, [(1, .arg 1), (0, .index 338)], [], mo33r_O, mo33r_C, [])) mo33r_ss mo33r_rs = true := by decide +kernel
def mo33r_r (v1_ : Int32) (k_ : Nat) : Value := bif Nat.beq k_ 1 then .int v1_ else (.int 0)
def mo33r_s (n_ : Nat) : Nat := 0
theorem mo33r {h_ : xH} {v1_ : Int32} (hs : sHp h_) : ∃ h', ysm h_ h' ∧ (((∀ a_ j_ : Nat, bpat h' a_ j_ = bpat h_ a_ j_) ∧ (∀ D_, 60 ≤ D_ → xrun D_ 182 140 [(1, .int v1_), (0, .index 338)] [] h_ (some (.int (1 : Int32)), h', [])))) := by
  have hA : yas mo33r_A (mo33r_r v1_) (yg mo33r_s) := ⟨fun q_ hq => absurd hq List.not_mem_nil, fun q_ hq => absurd hq List.not_mem_nil, fun q_ hq => absurd hq List.not_mem_nil, fun n_ hn => yg_lo hn, fun q_ hq => absurd hq List.not_mem_nil⟩
  have Hs : ysh mo33r_A.1 (yg mo33r_s) h_ := ysh_of2 hs (fun q_ hq => absurd hq List.not_mem_nil)
  have Ho : ymem (mo33r_r v1_) (yg mo33r_s) mo33r_O h_ := fun q_ hq => absurd hq List.not_mem_nil
  have HC : ∀ q_ ∈ mo33r_C, xhold (mo33r_r v1_) q_ := fun q_ hq => absurd hq List.not_mem_nil
  rcases yrun (yis_ok mo33r_k) hA Hs Ho HC with ⟨q_, hq, h', K_, G_⟩ | ⟨q_, hq, h', K_, G_⟩
  · cases hq
  · have e_ := List.mem_singleton.mp hq
    subst e_
    exact ⟨h', yfr_sm K_.2.2.2 hs K_.1 (ywa_r mo33r_w List.mem_cons_self), ⟨fun a_ j_ => yfr_bp K_.2.2.2 (fun q_ hq => absurd hq List.not_mem_nil), G_⟩⟩
-- mo40f: 17 steps, 0 ends, 1 returns
def mo40f_L : List (Nat × Nat × Nat) := []
def mo40f_O : yO := [(338, .int 8, .arg 308)]
def mo40f_A : yA := (yZ mo40f_L, [], [], [], [])
def mo40f_C : List xB := [(.eq, .arg 1, .int 40, true), (.eq, .arg 1, .int 33, false), (.eq, .arg 308, .int 5, true)]
def mo40f_ss : List yS := []
def mo40f_rs : List yR := [(some (.int 0), [(338, .int 8, .arg 308)], [(.eq, .arg 1, .int 40, true), (.eq, .arg 1, .int 33, false), (.eq, .arg 308, .int 5, true)], [])]
theorem mo40f_w : ywa mo40f_A mo40f_ss mo40f_rs = true := by decide +kernel
theorem mo40f_k : yis (yev mo40f_A 3000 60 182 [] (102, [(1, .arg 1), (0, .index 338)], [], mo40f_O, mo40f_C, [])) mo40f_ss mo40f_rs = true := by decide +kernel
def mo40f_r (v1_ v308 : Int32) (k_ : Nat) : Value := bif Nat.beq k_ 1 then .int v1_ else (bif Nat.beq k_ 308 then .int v308 else (.int 0))
def mo40f_s (n_ : Nat) : Nat := 0
theorem mo40f {h_ : xH} {v1_ v308 : Int32} (hs : sHp h_) (o0_ : bpat h_ 338 8 = some (.int v308)) (c0_ : v1_ = (40 : Int32)) (c1_ : ¬ v1_ = (33 : Int32)) (c2_ : v308 = (5 : Int32)) : ∃ h', ysm h_ h' ∧ (((∀ a_ j_ : Nat, bpat h' a_ j_ = bpat h_ a_ j_) ∧ (∀ D_, 60 ≤ D_ → xrun D_ 182 102 [(1, .int v1_), (0, .index 338)] [] h_ (some (.int (0 : Int32)), h', [])))) := by
  have hA : yas mo40f_A (mo40f_r v1_ v308) (yg mo40f_s) := ⟨fun q_ hq => absurd hq List.not_mem_nil, fun q_ hq => absurd hq List.not_mem_nil, fun q_ hq => absurd hq List.not_mem_nil, fun n_ hn => yg_lo hn, fun q_ hq => absurd hq List.not_mem_nil⟩
  have Hs : ysh mo40f_A.1 (yg mo40f_s) h_ := ysh_of2 hs (fun q_ hq => absurd hq List.not_mem_nil)
  have Ho : ymem (mo40f_r v1_ v308) (yg mo40f_s) mo40f_O h_ := List.forall_mem_cons.mpr ⟨bpat_some o0_, fun q_ hq => absurd hq List.not_mem_nil⟩
  have HC : ∀ q_ ∈ mo40f_C, xhold (mo40f_r v1_ v308) q_ := List.forall_mem_cons.mpr ⟨xh_eqT2 c0_, List.forall_mem_cons.mpr ⟨xh_eqF2 c1_, List.forall_mem_cons.mpr ⟨xh_eqT2 c2_, fun q_ hq => absurd hq List.not_mem_nil⟩⟩⟩
  rcases yrun (yis_ok mo40f_k) hA Hs Ho HC with ⟨q_, hq, h', K_, G_⟩ | ⟨q_, hq, h', K_, G_⟩
  · cases hq
  · have e_ := List.mem_singleton.mp hq
    subst e_
    exact ⟨h', yfr_sm K_.2.2.2 hs K_.1 (ywa_r mo40f_w List.mem_cons_self), ⟨fun a_ j_ => yfr_bp K_.2.2.2 (fun q_ hq => absurd hq List.not_mem_nil), G_⟩⟩
-- mo40t: 28 steps, 1 ends, 0 returns
def mo40t_L : List (Nat × Nat × Nat) := []
def mo40t_O : yO := [(338, .int 8, .arg 308), (338, .int 7, .arg 307)]
def mo40t_A : yA := (yZ mo40t_L, [], [], [], [])
def mo40t_C : List xB := [(.eq, .arg 1, .int 40, true), (.eq, .arg 1, .int 33, false), (.eq, .arg 308, .int 5, false)]
def mo40t_ss : List yS := [(156, [(1, .arg 1), (0, .index 338)], [.index 338], [(338, .int 7, .add (.arg 307) (.int 1)), (338, .int 8, .add (.arg 308) (.int 1))], [(.eq, .arg 1, .int 40, true), (.eq, .arg 1, .int 33, false), (.eq, .arg 308, .int 5, false)], [(338, .int 7), (338, .int 8)])]
def mo40t_rs : List yR := []
theorem mo40t_w : ywa mo40t_A mo40t_ss mo40t_rs = true := by decide +kernel
theorem mo40t_k : yis (yev mo40t_A 3000 60 182 [156] (102, [(1, .arg 1), (0, .index 338)], [], mo40t_O, mo40t_C, [])) mo40t_ss mo40t_rs = true := by decide +kernel
def mo40t_r (v1_ v307 v308 : Int32) (k_ : Nat) : Value := bif Nat.beq k_ 1 then .int v1_ else (bif Nat.beq k_ 307 then .int v307 else (bif Nat.beq k_ 308 then .int v308 else (.int 0)))
def mo40t_s (n_ : Nat) : Nat := 0
theorem mo40t {h_ : xH} {v1_ v307 v308 : Int32} (hs : sHp h_) (o0_ : bpat h_ 338 8 = some (.int v308)) (o1 : bpat h_ 338 7 = some (.int v307)) (c0_ : v1_ = (40 : Int32)) (c1_ : ¬ v1_ = (33 : Int32)) (c2_ : ¬ v308 = (5 : Int32)) : ∃ h', ysm h_ h' ∧ (((bpat h' 338 7 = some (.int (v307 + (1 : Int32)))) ∧ (bpat h' 338 8 = some (.int (v308 + (1 : Int32)))) ∧ (∀ a_ j_ : Nat, ¬ (a_ = 338 ∧ j_ = 7) → ¬ (a_ = 338 ∧ j_ = 8) → bpat h' a_ j_ = bpat h_ a_ j_) ∧ (bldD 60 182 102 [(1, .int v1_), (0, .index 338)] [] h_ 156 [(1, .int v1_), (0, .index 338)] [.index 338] h'))) := by
  have hA : yas mo40t_A (mo40t_r v1_ v307 v308) (yg mo40t_s) := ⟨fun q_ hq => absurd hq List.not_mem_nil, fun q_ hq => absurd hq List.not_mem_nil, fun q_ hq => absurd hq List.not_mem_nil, fun n_ hn => yg_lo hn, fun q_ hq => absurd hq List.not_mem_nil⟩
  have Hs : ysh mo40t_A.1 (yg mo40t_s) h_ := ysh_of2 hs (fun q_ hq => absurd hq List.not_mem_nil)
  have Ho : ymem (mo40t_r v1_ v307 v308) (yg mo40t_s) mo40t_O h_ := List.forall_mem_cons.mpr ⟨bpat_some o0_, List.forall_mem_cons.mpr ⟨bpat_some o1, fun q_ hq => absurd hq List.not_mem_nil⟩⟩
  have HC : ∀ q_ ∈ mo40t_C, xhold (mo40t_r v1_ v307 v308) q_ := List.forall_mem_cons.mpr ⟨xh_eqT2 c0_, List.forall_mem_cons.mpr ⟨xh_eqF2 c1_, List.forall_mem_cons.mpr ⟨xh_eqF2 c2_, fun q_ hq => absurd hq List.not_mem_nil⟩⟩⟩
  rcases yrun (yis_ok mo40t_k) hA Hs Ho HC with ⟨q_, hq, h', K_, G_⟩ | ⟨q_, hq, h', K_, G_⟩
  · have e_ := List.mem_singleton.mp hq
    subst e_
    exact ⟨h', yfr_sm K_.2.2.2 hs K_.1 (ywa_s mo40t_w List.mem_cons_self), ⟨bpat_of (K_.2.1 _ List.mem_cons_self), bpat_of (K_.2.1 _ (List.mem_cons_of_mem _ List.mem_cons_self)), fun a_ j_ n0_ n1_ => yfr_bp K_.2.2.2 (List.forall_mem_cons.mpr ⟨fun e_ => n0_ ⟨e_.1.symm, e_.2.symm⟩, List.forall_mem_cons.mpr ⟨fun e_ => n1_ ⟨e_.1.symm, e_.2.symm⟩, fun q_ hq => absurd hq List.not_mem_nil⟩⟩), G_⟩⟩
  · cases hq
-- mo40a: 3 steps, 0 ends, 1 returns
def mo40a_L : List (Nat × Nat × Nat) := []
def mo40a_O : yO := []
def mo40a_A : yA := (yZ mo40a_L, [], [], [], [])
def mo40a_C : List xB := [(.eq, .arg 5, .int 0, true)]
def mo40a_ss : List yS := []
def mo40a_rs : List yR := [(some (.int 0), [], [(.eq, .arg 5, .int 0, true)], [])]
theorem mo40a_w : ywa mo40a_A mo40a_ss mo40a_rs = true := by decide +kernel
theorem mo40a_k : yis (yev mo40a_A 3000 60 182 [] (159, [(1, .arg 1), (0, .index 338)], [.arg 5], mo40a_O, mo40a_C, [])) mo40a_ss mo40a_rs = true := by decide +kernel
def mo40a_r (v1_ v5 : Int32) (k_ : Nat) : Value := bif Nat.beq k_ 1 then .int v1_ else (bif Nat.beq k_ 5 then .int v5 else (.int 0))
def mo40a_s (n_ : Nat) : Nat := 0
theorem mo40a {h_ : xH} {v1_ v5 : Int32} (hs : sHp h_) (c0_ : v5 = (0 : Int32)) : ∃ h', ysm h_ h' ∧ (((∀ a_ j_ : Nat, bpat h' a_ j_ = bpat h_ a_ j_) ∧ (∀ D_, 60 ≤ D_ → xrun D_ 182 159 [(1, .int v1_), (0, .index 338)] [.int v5] h_ (some (.int (0 : Int32)), h', [])))) := by
  have hA : yas mo40a_A (mo40a_r v1_ v5) (yg mo40a_s) := ⟨fun q_ hq => absurd hq List.not_mem_nil, fun q_ hq => absurd hq List.not_mem_nil, fun q_ hq => absurd hq List.not_mem_nil, fun n_ hn => yg_lo hn, fun q_ hq => absurd hq List.not_mem_nil⟩
  have Hs : ysh mo40a_A.1 (yg mo40a_s) h_ := ysh_of2 hs (fun q_ hq => absurd hq List.not_mem_nil)
  have Ho : ymem (mo40a_r v1_ v5) (yg mo40a_s) mo40a_O h_ := fun q_ hq => absurd hq List.not_mem_nil
  have HC : ∀ q_ ∈ mo40a_C, xhold (mo40a_r v1_ v5) q_ := List.forall_mem_cons.mpr ⟨xh_eqT2 c0_, fun q_ hq => absurd hq List.not_mem_nil⟩
  rcases yrun (yis_ok mo40a_k) hA Hs Ho HC with ⟨q_, hq, h', K_, G_⟩ | ⟨q_, hq, h', K_, G_⟩
  · cases hq
  · have e_ := List.mem_singleton.mp hq
    subst e_
    exact ⟨h', yfr_sm K_.2.2.2 hs K_.1 (ywa_r mo40a_w List.mem_cons_self), ⟨fun a_ j_ => yfr_bp K_.2.2.2 (fun q_ hq => absurd hq List.not_mem_nil), G_⟩⟩
-- mo40b: 2 steps, 1 ends, 0 returns
def mo40b_L : List (Nat × Nat × Nat) := []
def mo40b_O : yO := []
def mo40b_A : yA := (yZ mo40b_L, [], [], [], [])
def mo40b_C : List xB := [(.eq, .arg 5, .int 0, false)]
def mo40b_ss : List yS := [(163, [(1, .arg 1), (0, .index 338)], [.index 338], [], [(.eq, .arg 5, .int 0, false)], [])]
def mo40b_rs : List yR := []
theorem mo40b_w : ywa mo40b_A mo40b_ss mo40b_rs = true := by decide +kernel
theorem mo40b_k : yis (yev mo40b_A 3000 60 182 [163] (159, [(1, .arg 1), (0, .index 338)], [.arg 5], mo40b_O, mo40b_C, [])) mo40b_ss mo40b_rs = true := by decide +kernel
def mo40b_r (v1_ v5 : Int32) (k_ : Nat) : Value := bif Nat.beq k_ 1 then .int v1_ else (bif Nat.beq k_ 5 then .int v5 else (.int 0))
def mo40b_s (n_ : Nat) : Nat := 0
theorem mo40b {h_ : xH} {v1_ v5 : Int32} (hs : sHp h_) (c0_ : ¬ v5 = (0 : Int32)) : ∃ h', ysm h_ h' ∧ (((∀ a_ j_ : Nat, bpat h' a_ j_ = bpat h_ a_ j_) ∧ (bldD 60 182 159 [(1, .int v1_), (0, .index 338)] [.int v5] h_ 163 [(1, .int v1_), (0, .index 338)] [.index 338] h'))) := by
  have hA : yas mo40b_A (mo40b_r v1_ v5) (yg mo40b_s) := ⟨fun q_ hq => absurd hq List.not_mem_nil, fun q_ hq => absurd hq List.not_mem_nil, fun q_ hq => absurd hq List.not_mem_nil, fun n_ hn => yg_lo hn, fun q_ hq => absurd hq List.not_mem_nil⟩
  have Hs : ysh mo40b_A.1 (yg mo40b_s) h_ := ysh_of2 hs (fun q_ hq => absurd hq List.not_mem_nil)
  have Ho : ymem (mo40b_r v1_ v5) (yg mo40b_s) mo40b_O h_ := fun q_ hq => absurd hq List.not_mem_nil
  have HC : ∀ q_ ∈ mo40b_C, xhold (mo40b_r v1_ v5) q_ := List.forall_mem_cons.mpr ⟨xh_eqF2 c0_, fun q_ hq => absurd hq List.not_mem_nil⟩
  rcases yrun (yis_ok mo40b_k) hA Hs Ho HC with ⟨q_, hq, h', K_, G_⟩ | ⟨q_, hq, h', K_, G_⟩
  · have e_ := List.mem_singleton.mp hq
    subst e_
    exact ⟨h', yfr_sm K_.2.2.2 hs K_.1 (ywa_s mo40b_w List.mem_cons_self), ⟨fun a_ j_ => yfr_bp K_.2.2.2 (fun q_ hq => absurd hq List.not_mem_nil), G_⟩⟩
  · cases hq
-- mo40c: 16 steps, 0 ends, 1 returns
def mo40c_L : List (Nat × Nat × Nat) := []
def mo40c_O : yO := [(338, .int 7, .arg 307), (338, .int 8, .arg 308)]
def mo40c_A : yA := (yZ mo40c_L, [], [], [], [])
def mo40c_C : List xB := [(.eq, .arg 5, .int 41, true)]
def mo40c_ss : List yS := []
def mo40c_rs : List yR := [(some (.int 1), [(338, .int 8, .sub (.arg 308) (.int 1)), (338, .int 7, .add (.arg 307) (.int 1))], [(.eq, .arg 5, .int 41, true)], [(338, .int 8), (338, .int 7)])]
theorem mo40c_w : ywa mo40c_A mo40c_ss mo40c_rs = true := by decide +kernel
theorem mo40c_k : yis (yev mo40c_A 3000 60 182 [] (166, [(1, .arg 1), (0, .index 338)], [.arg 5], mo40c_O, mo40c_C, [])) mo40c_ss mo40c_rs = true := by decide +kernel
def mo40c_r (v1_ v5 v307 v308 : Int32) (k_ : Nat) : Value := bif Nat.beq k_ 1 then .int v1_ else (bif Nat.beq k_ 5 then .int v5 else (bif Nat.beq k_ 307 then .int v307 else (bif Nat.beq k_ 308 then .int v308 else (.int 0))))
def mo40c_s (n_ : Nat) : Nat := 0
theorem mo40c {h_ : xH} {v1_ v5 v307 v308 : Int32} (hs : sHp h_) (o0_ : bpat h_ 338 7 = some (.int v307)) (o1 : bpat h_ 338 8 = some (.int v308)) (c0_ : v5 = (41 : Int32)) : ∃ h', ysm h_ h' ∧ (((bpat h' 338 8 = some (.int (v308 - (1 : Int32)))) ∧ (bpat h' 338 7 = some (.int (v307 + (1 : Int32)))) ∧ (∀ a_ j_ : Nat, ¬ (a_ = 338 ∧ j_ = 8) → ¬ (a_ = 338 ∧ j_ = 7) → bpat h' a_ j_ = bpat h_ a_ j_) ∧ (∀ D_, 60 ≤ D_ → xrun D_ 182 166 [(1, .int v1_), (0, .index 338)] [.int v5] h_ (some (.int (1 : Int32)), h', [])))) := by
  have hA : yas mo40c_A (mo40c_r v1_ v5 v307 v308) (yg mo40c_s) := ⟨fun q_ hq => absurd hq List.not_mem_nil, fun q_ hq => absurd hq List.not_mem_nil, fun q_ hq => absurd hq List.not_mem_nil, fun n_ hn => yg_lo hn, fun q_ hq => absurd hq List.not_mem_nil⟩
  have Hs : ysh mo40c_A.1 (yg mo40c_s) h_ := ysh_of2 hs (fun q_ hq => absurd hq List.not_mem_nil)
  have Ho : ymem (mo40c_r v1_ v5 v307 v308) (yg mo40c_s) mo40c_O h_ := List.forall_mem_cons.mpr ⟨bpat_some o0_, List.forall_mem_cons.mpr ⟨bpat_some o1, fun q_ hq => absurd hq List.not_mem_nil⟩⟩
  have HC : ∀ q_ ∈ mo40c_C, xhold (mo40c_r v1_ v5 v307 v308) q_ := List.forall_mem_cons.mpr ⟨xh_eqT2 c0_, fun q_ hq => absurd hq List.not_mem_nil⟩
  rcases yrun (yis_ok mo40c_k) hA Hs Ho HC with ⟨q_, hq, h', K_, G_⟩ | ⟨q_, hq, h', K_, G_⟩
  · cases hq
  · have e_ := List.mem_singleton.mp hq
    subst e_
    exact ⟨h', yfr_sm K_.2.2.2 hs K_.1 (ywa_r mo40c_w List.mem_cons_self), ⟨bpat_of (K_.2.1 _ List.mem_cons_self), bpat_of (K_.2.1 _ (List.mem_cons_of_mem _ List.mem_cons_self)), fun a_ j_ n0_ n1_ => yfr_bp K_.2.2.2 (List.forall_mem_cons.mpr ⟨fun e_ => n0_ ⟨e_.1.symm, e_.2.symm⟩, List.forall_mem_cons.mpr ⟨fun e_ => n1_ ⟨e_.1.symm, e_.2.symm⟩, fun q_ hq => absurd hq List.not_mem_nil⟩⟩), G_⟩⟩
-- mo40d: 4 steps, 0 ends, 1 returns
def mo40d_L : List (Nat × Nat × Nat) := []
def mo40d_O : yO := []
def mo40d_A : yA := (yZ mo40d_L, [], [], [], [])
def mo40d_C : List xB := [(.eq, .arg 5, .int 41, false)]
def mo40d_ss : List yS := []
def mo40d_rs : List yR := [(some (.int 0), [], [(.eq, .arg 5, .int 41, false)], [])]
theorem mo40d_w : ywa mo40d_A mo40d_ss mo40d_rs = true := by decide +kernel
theorem mo40d_k : yis (yev mo40d_A 3000 60 182 [] (166, [(1, .arg 1), (0, .index 338)], [.arg 5], mo40d_O, mo40d_C, [])) mo40d_ss mo40d_rs = true := by decide +kernel
def mo40d_r (v1_ v5 : Int32) (k_ : Nat) : Value := bif Nat.beq k_ 1 then .int v1_ else (bif Nat.beq k_ 5 then .int v5 else (.int 0))
def mo40d_s (n_ : Nat) : Nat := 0
theorem mo40d {h_ : xH} {v1_ v5 : Int32} (hs : sHp h_) (c0_ : ¬ v5 = (41 : Int32)) : ∃ h', ysm h_ h' ∧ (((∀ a_ j_ : Nat, bpat h' a_ j_ = bpat h_ a_ j_) ∧ (∀ D_, 60 ≤ D_ → xrun D_ 182 166 [(1, .int v1_), (0, .index 338)] [.int v5] h_ (some (.int (0 : Int32)), h', [])))) := by
  have hA : yas mo40d_A (mo40d_r v1_ v5) (yg mo40d_s) := ⟨fun q_ hq => absurd hq List.not_mem_nil, fun q_ hq => absurd hq List.not_mem_nil, fun q_ hq => absurd hq List.not_mem_nil, fun n_ hn => yg_lo hn, fun q_ hq => absurd hq List.not_mem_nil⟩
  have Hs : ysh mo40d_A.1 (yg mo40d_s) h_ := ysh_of2 hs (fun q_ hq => absurd hq List.not_mem_nil)
  have Ho : ymem (mo40d_r v1_ v5) (yg mo40d_s) mo40d_O h_ := fun q_ hq => absurd hq List.not_mem_nil
  have HC : ∀ q_ ∈ mo40d_C, xhold (mo40d_r v1_ v5) q_ := List.forall_mem_cons.mpr ⟨xh_eqF2 c0_, fun q_ hq => absurd hq List.not_mem_nil⟩
  rcases yrun (yis_ok mo40d_k) hA Hs Ho HC with ⟨q_, hq, h', K_, G_⟩ | ⟨q_, hq, h', K_, G_⟩
  · cases hq
  · have e_ := List.mem_singleton.mp hq
    subst e_
    exact ⟨h', yfr_sm K_.2.2.2 hs K_.1 (ywa_r mo40d_w List.mem_cons_self), ⟨fun a_ j_ => yfr_bp K_.2.2.2 (fun q_ hq => absurd hq List.not_mem_nil), G_⟩⟩
-- moz: 8 steps, 0 ends, 1 returns
def moz_L : List (Nat × Nat × Nat) := []
def moz_O : yO := []
def moz_A : yA := (yZ moz_L, [], [], [], [])
def moz_C : List xB := [(.eq, .arg 1, .int 33, false), (.eq, .arg 1, .int 40, false)]
def moz_ss : List yS := []
def moz_rs : List yR := [(some (.int 0), [], [(.eq, .arg 1, .int 33, false), (.eq, .arg 1, .int 40, false)], [])]
theorem moz_w : ywa moz_A moz_ss moz_rs = true := by decide +kernel
theorem moz_k : yis (yev moz_A 3000 60 182 [] (102, [(1, .arg 1), (0, .index 338)], [], moz_O, moz_C, [])) moz_ss moz_rs = true := by decide +kernel
def moz_r (v1_ : Int32) (k_ : Nat) : Value := bif Nat.beq k_ 1 then .int v1_ else (.int 0)
def moz_s (n_ : Nat) : Nat := 0
theorem moz {h_ : xH} {v1_ : Int32} (hs : sHp h_) (c0_ : ¬ v1_ = (33 : Int32)) (c1_ : ¬ v1_ = (40 : Int32)) : ∃ h', ysm h_ h' ∧ (((∀ a_ j_ : Nat, bpat h' a_ j_ = bpat h_ a_ j_) ∧ (∀ D_, 60 ≤ D_ → xrun D_ 182 102 [(1, .int v1_), (0, .index 338)] [] h_ (some (.int (0 : Int32)), h', [])))) := by
  have hA : yas moz_A (moz_r v1_) (yg moz_s) := ⟨fun q_ hq => absurd hq List.not_mem_nil, fun q_ hq => absurd hq List.not_mem_nil, fun q_ hq => absurd hq List.not_mem_nil, fun n_ hn => yg_lo hn, fun q_ hq => absurd hq List.not_mem_nil⟩
  have Hs : ysh moz_A.1 (yg moz_s) h_ := ysh_of2 hs (fun q_ hq => absurd hq List.not_mem_nil)
  have Ho : ymem (moz_r v1_) (yg moz_s) moz_O h_ := fun q_ hq => absurd hq List.not_mem_nil
  have HC : ∀ q_ ∈ moz_C, xhold (moz_r v1_) q_ := List.forall_mem_cons.mpr ⟨xh_eqF2 c0_, List.forall_mem_cons.mpr ⟨xh_eqF2 c1_, fun q_ hq => absurd hq List.not_mem_nil⟩⟩
  rcases yrun (yis_ok moz_k) hA Hs Ho HC with ⟨q_, hq, h', K_, G_⟩ | ⟨q_, hq, h', K_, G_⟩
  · cases hq
  · have e_ := List.mem_singleton.mp hq
    subst e_
    exact ⟨h', yfr_sm K_.2.2.2 hs K_.1 (ywa_r moz_w List.mem_cons_self), ⟨fun a_ j_ => yfr_bp K_.2.2.2 (fun q_ hq => absurd hq List.not_mem_nil), G_⟩⟩
