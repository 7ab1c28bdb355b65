-- ===== the class reads a TEXT: levels, what stands alone, numbers
-- xrl1: 8 steps, 1 ends, 0 returns
def xrl1_L : List (Nat × Nat × Nat) := []
def xrl1_O : yO := []
def xrl1_A : yA := (yZ xrl1_L, [], [], [], [])
def xrl1_C : List xB := [(.lt, .arg 1, .int 5, true)]
def xrl1_ss : List yS := [(16, [(0, .index 147), (1, .arg 1), (2, .arg 2)], [.arg 2, .add (.arg 1) (.int 1), .index 147], [], [(.lt, .arg 1, .int 5, true)], [])]
def xrl1_rs : List yR := []
theorem xrl1_w : ywa xrl1_A xrl1_ss xrl1_rs = true := by decide +kernel
theorem xrl1_k : yis (yev xrl1_A 3000 60 25 [16] (0, [(0, .index 147), (1, .arg 1), (2, .arg 2)], [], xrl1_O, xrl1_C, [])) xrl1_ss xrl1_rs = true := by decide +kernel
def xrl1_r (v1_ v2 : Int32) (k_ : Nat) : Value := bif Nat.beq k_ 1 then .int v1_ else (bif Nat.beq k_ 2 then .int v2 else (.int 0))
def xrl1_s (n_ : Nat) : Nat := 0
theorem xrl1 {h_ : xH} {v1_ v2 : Int32} (hs : sHp h_) (c0_ : v1_.toInt < (5 : Int32).toInt) : ∃ h', ysm h_ h' ∧ (((∀ a_ j_ : Nat, bpat h' a_ j_ = bpat h_ a_ j_) ∧ (bldD 60 25 0 [(0, .index 147), (1, .int v1_), (2, .int v2)] [] h_ 16 [(0, .index 147), (1, .int v1_), (2, .int v2)] [.int v2, .int (v1_ + (1 : Int32)), .index 147] h'))) := by
  have hA : yas xrl1_A (xrl1_r v1_ v2) (yg xrl1_s) := ⟨fun q_ hq => absurd hq List.not_mem_nil, fun q_ hq => absurd hq List.not_mem_nil, fun q_ hq => absurd hq List.not_mem_nil, fun n_ hn => yg_lo hn, fun q_ hq => absurd hq List.not_mem_nil⟩
  have Hs : ysh xrl1_A.1 (yg xrl1_s) h_ := ysh_of2 hs (fun q_ hq => absurd hq List.not_mem_nil)
  have Ho : ymem (xrl1_r v1_ v2) (yg xrl1_s) xrl1_O h_ := fun q_ hq => absurd hq List.not_mem_nil
  have HC : ∀ q_ ∈ xrl1_C, xhold (xrl1_r v1_ v2) q_ := List.forall_mem_cons.mpr ⟨xh_ltT c0_, fun q_ hq => absurd hq List.not_mem_nil⟩
  rcases yrun (yis_ok xrl1_k) hA Hs Ho HC with ⟨q_, hq, h', K_, G_⟩ | ⟨q_, hq, h', K_, G_⟩
  · have e_ := List.mem_singleton.mp hq
    subst e_
    exact ⟨h', yfr_sm K_.2.2.2 hs K_.1 (ywa_s xrl1_w List.mem_cons_self), ⟨fun a_ j_ => yfr_bp K_.2.2.2 (fun q_ hq => absurd hq List.not_mem_nil), G_⟩⟩
  · cases hq
-- xrl5: 5 steps, 1 ends, 0 returns
def xrl5_L : List (Nat × Nat × Nat) := []
def xrl5_O : yO := []
def xrl5_A : yA := (yZ xrl5_L, [], [], [], [])
def xrl5_C : List xB := [(.lt, .arg 1, .int 5, false)]
def xrl5_ss : List yS := [(7, [(0, .index 147), (1, .arg 1), (2, .arg 2)], [.arg 2, .index 147], [], [(.lt, .arg 1, .int 5, false)], [])]
def xrl5_rs : List yR := []
theorem xrl5_w : ywa xrl5_A xrl5_ss xrl5_rs = true := by decide +kernel
theorem xrl5_k : yis (yev xrl5_A 3000 60 25 [7] (0, [(0, .index 147), (1, .arg 1), (2, .arg 2)], [], xrl5_O, xrl5_C, [])) xrl5_ss xrl5_rs = true := by decide +kernel
def xrl5_r (v1_ v2 : Int32) (k_ : Nat) : Value := bif Nat.beq k_ 1 then .int v1_ else (bif Nat.beq k_ 2 then .int v2 else (.int 0))
def xrl5_s (n_ : Nat) : Nat := 0
theorem xrl5 {h_ : xH} {v1_ v2 : Int32} (hs : sHp h_) (c0_ : (5 : Int32).toInt ≤ v1_.toInt) : ∃ h', ysm h_ h' ∧ (((∀ a_ j_ : Nat, bpat h' a_ j_ = bpat h_ a_ j_) ∧ (bldD 60 25 0 [(0, .index 147), (1, .int v1_), (2, .int v2)] [] h_ 7 [(0, .index 147), (1, .int v1_), (2, .int v2)] [.int v2, .index 147] h'))) := by
  have hA : yas xrl5_A (xrl5_r v1_ v2) (yg xrl5_s) := ⟨fun q_ hq => absurd hq List.not_mem_nil, fun q_ hq => absurd hq List.not_mem_nil, fun q_ hq => absurd hq List.not_mem_nil, fun n_ hn => yg_lo hn, fun q_ hq => absurd hq List.not_mem_nil⟩
  have Hs : ysh xrl5_A.1 (yg xrl5_s) h_ := ysh_of2 hs (fun q_ hq => absurd hq List.not_mem_nil)
  have Ho : ymem (xrl5_r v1_ v2) (yg xrl5_s) xrl5_O h_ := fun q_ hq => absurd hq List.not_mem_nil
  have HC : ∀ q_ ∈ xrl5_C, xhold (xrl5_r v1_ v2) q_ := List.forall_mem_cons.mpr ⟨xh_ltF c0_, fun q_ hq => absurd hq List.not_mem_nil⟩
  rcases yrun (yis_ok xrl5_k) hA Hs Ho HC with ⟨q_, hq, h', K_, G_⟩ | ⟨q_, hq, h', K_, G_⟩
  · have e_ := List.mem_singleton.mp hq
    subst e_
    exact ⟨h', yfr_sm K_.2.2.2 hs K_.1 (ywa_s xrl5_w List.mem_cons_self), ⟨fun a_ j_ => yfr_bp K_.2.2.2 (fun q_ hq => absurd hq List.not_mem_nil), G_⟩⟩
  · cases hq
-- xrl5r0: 1 steps, 0 ends, 1 returns
def xrl5r0_L : List (Nat × Nat × Nat) := []
def xrl5r0_O : yO := []
def xrl5r0_A : yA := (yZ xrl5r0_L, [], [], [], [])
def xrl5r0_C : List xB := []
def xrl5r0_ss : List yS := []
def xrl5r0_rs : List yR := [(some (.int 0), [], [], [])]
theorem xrl5r0_w : ywa xrl5r0_A xrl5r0_ss xrl5r0_rs = true := by decide +kernel
theorem xrl5r0_k : yis (yev xrl5r0_A 3000 60 25 [] (10, [(0, .index 147), (1, .arg 1), (2, .arg 2)], [.int 0], xrl5r0_O, xrl5r0_C, [])) xrl5r0_ss xrl5r0_rs = true := by decide +kernel
def xrl5r0_r (v1_ v2 : Int32) (k_ : Nat) : Value := bif Nat.beq k_ 1 then .int v1_ else (bif Nat.beq k_ 2 then .int v2 else (.int 0))
def xrl5r0_s (n_ : Nat) : Nat := 0
theorem xrl5r0 {h_ : xH} {v1_ v2 : Int32} (hs : sHp h_) : ∃ h', ysm h_ h' ∧ (((∀ a_ j_ : Nat, bpat h' a_ j_ = bpat h_ a_ j_) ∧ (∀ D_, 60 ≤ D_ → xrun D_ 25 10 [(0, .index 147), (1, .int v1_), (2, .int v2)] [.int (0 : Int32)] h_ (some (.int (0 : Int32)), h', [])))) := by
  have hA : yas xrl5r0_A (xrl5r0_r v1_ v2) (yg xrl5r0_s) := ⟨fun q_ hq => absurd hq List.not_mem_nil, fun q_ hq => absurd hq List.not_mem_nil, fun q_ hq => absurd hq List.not_mem_nil, fun n_ hn => yg_lo hn, fun q_ hq => absurd hq List.not_mem_nil⟩
  have Hs : ysh xrl5r0_A.1 (yg xrl5r0_s) h_ := ysh_of2 hs (fun q_ hq => absurd hq List.not_mem_nil)
  have Ho : ymem (xrl5r0_r v1_ v2) (yg xrl5r0_s) xrl5r0_O h_ := fun q_ hq => absurd hq List.not_mem_nil
  have HC : ∀ q_ ∈ xrl5r0_C, xhold (xrl5r0_r v1_ v2) q_ := fun q_ hq => absurd hq List.not_mem_nil
  rcases yrun (yis_ok xrl5r0_k) hA Hs Ho HC with ⟨q_, hq, h', K_, G_⟩ | ⟨q_, hq, h', K_, G_⟩
  · cases hq
  · have e_ := List.mem_singleton.mp hq
    subst e_
    exact ⟨h', yfr_sm K_.2.2.2 hs K_.1 (ywa_r xrl5r0_w List.mem_cons_self), ⟨fun a_ j_ => yfr_bp K_.2.2.2 (fun q_ hq => absurd hq List.not_mem_nil), G_⟩⟩
-- xrl5r1: 1 steps, 0 ends, 1 returns
def xrl5r1_L : List (Nat × Nat × Nat) := []
def xrl5r1_O : yO := []
def xrl5r1_A : yA := (yZ xrl5r1_L, [], [], [], [])
def xrl5r1_C : List xB := []
def xrl5r1_ss : List yS := []
def xrl5r1_rs : List yR := [(some (.int 1), [], [], [])]
theorem xrl5r1_w : ywa xrl5r1_A xrl5r1_ss xrl5r1_rs = true := by decide +kernel
theorem xrl5r1_k : yis (yev xrl5r1_A 3000 60 25 [] (10, [(0, .index 147), (1, .arg 1), (2, .arg 2)], [.int 1], xrl5r1_O, xrl5r1_C, [])) xrl5r1_ss xrl5r1_rs = true := by decide +kernel
def xrl5r1_r (v1_ v2 : Int32) (k_ : Nat) : Value := bif Nat.beq k_ 1 then .int v1_ else (bif Nat.beq k_ 2 then .int v2 else (.int 0))
def xrl5r1_s (n_ : Nat) : Nat := 0
theorem xrl5r1 {h_ : xH} {v1_ v2 : Int32} (hs : sHp h_) : ∃ h', ysm h_ h' ∧ (((∀ a_ j_ : Nat, bpat h' a_ j_ = bpat h_ a_ j_) ∧ (∀ D_, 60 ≤ D_ → xrun D_ 25 10 [(0, .index 147), (1, .int v1_), (2, .int v2)] [.int (1 : Int32)] h_ (some (.int (1 : Int32)), h', [])))) := by
  have hA : yas xrl5r1_A (xrl5r1_r v1_ v2) (yg xrl5r1_s) := ⟨fun q_ hq => absurd hq List.not_mem_nil, fun q_ hq => absurd hq List.not_mem_nil, fun q_ hq => absurd hq List.not_mem_nil, fun n_ hn => yg_lo hn, fun q_ hq => absurd hq List.not_mem_nil⟩
  have Hs : ysh xrl5r1_A.1 (yg xrl5r1_s) h_ := ysh_of2 hs (fun q_ hq => absurd hq List.not_mem_nil)
  have Ho : ymem (xrl5r1_r v1_ v2) (yg xrl5r1_s) xrl5r1_O h_ := fun q_ hq => absurd hq List.not_mem_nil
  have HC : ∀ q_ ∈ xrl5r1_C, xhold (xrl5r1_r v1_ v2) q_ := fun q_ hq => absurd hq List.not_mem_nil
  rcases yrun (yis_ok xrl5r1_k) hA Hs Ho HC with ⟨q_, hq, h', K_, G_⟩ | ⟨q_, hq, h', K_, G_⟩
  · cases hq
  · have e_ := List.mem_singleton.mp hq
    subst e_
    exact ⟨h', yfr_sm K_.2.2.2 hs K_.1 (ywa_r xrl5r1_w List.mem_cons_self), ⟨fun a_ j_ => yfr_bp K_.2.2.2 (fun q_ hq => absurd hq List.not_mem_nil), G_⟩⟩
-- xrl2a: 9 steps, 1 ends, 0 returns
def xrl2a_L : List (Nat × Nat × Nat) := []
def xrl2a_O : yO := []
def xrl2a_A : yA := (yZ xrl2a_L, [], [], [], [])
def xrl2a_C : List xB := [(.eq, .arg 1, .int 2, true)]
def xrl2a_ss : List yS := [(36, [(5, .int 0), (4, .int 1), (3, .arg 3), (0, .index 147), (1, .arg 1), (2, .arg 2)], [], [], [(.eq, .arg 1, .int 2, true)], [])]
def xrl2a_rs : List yR := []
theorem xrl2a_w : ywa xrl2a_A xrl2a_ss xrl2a_rs = true := by decide +kernel
theorem xrl2a_k : yis (yev xrl2a_A 3000 60 25 [36] (19, [(0, .index 147), (1, .arg 1), (2, .arg 2)], [.arg 3], xrl2a_O, xrl2a_C, [])) xrl2a_ss xrl2a_rs = true := by decide +kernel
def xrl2a_r (v1_ v2 v3 : Int32) (k_ : Nat) : Value := bif Nat.beq k_ 1 then .int v1_ else (bif Nat.beq k_ 2 then .int v2 else (bif Nat.beq k_ 3 then .int v3 else (.int 0)))
def xrl2a_s (n_ : Nat) : Nat := 0
theorem xrl2a {h_ : xH} {v1_ v2 v3 : Int32} (hs : sHp h_) (c0_ : v1_ = (2 : Int32)) : ∃ h', ysm h_ h' ∧ (((∀ a_ j_ : Nat, bpat h' a_ j_ = bpat h_ a_ j_) ∧ (bldD 60 25 19 [(0, .index 147), (1, .int v1_), (2, .int v2)] [.int v3] h_ 36 [(5, .int (0 : Int32)), (4, .int (1 : Int32)), (3, .int v3), (0, .index 147), (1, .int v1_), (2, .int v2)] [] h'))) := by
  have hA : yas xrl2a_A (xrl2a_r v1_ v2 v3) (yg xrl2a_s) := ⟨fun q_ hq => absurd hq List.not_mem_nil, fun q_ hq => absurd hq List.not_mem_nil, fun q_ hq => absurd hq List.not_mem_nil, fun n_ hn => yg_lo hn, fun q_ hq => absurd hq List.not_mem_nil⟩
  have Hs : ysh xrl2a_A.1 (yg xrl2a_s) h_ := ysh_of2 hs (fun q_ hq => absurd hq List.not_mem_nil)
  have Ho : ymem (xrl2a_r v1_ v2 v3) (yg xrl2a_s) xrl2a_O h_ := fun q_ hq => absurd hq List.not_mem_nil
  have HC : ∀ q_ ∈ xrl2a_C, xhold (xrl2a_r v1_ v2 v3) q_ := List.forall_mem_cons.mpr ⟨xh_eqT2 c0_, fun q_ hq => absurd hq List.not_mem_nil⟩
  rcases yrun (yis_ok xrl2a_k) hA Hs Ho HC with ⟨q_, hq, h', K_, G_⟩ | ⟨q_, hq, h', K_, G_⟩
  · have e_ := List.mem_singleton.mp hq
    subst e_
    exact ⟨h', yfr_sm K_.2.2.2 hs K_.1 (ywa_s xrl2a_w List.mem_cons_self), ⟨fun a_ j_ => yfr_bp K_.2.2.2 (fun q_ hq => absurd hq List.not_mem_nil), G_⟩⟩
  · cases hq
-- xrl2b: 8 steps, 1 ends, 0 returns
def xrl2b_L : List (Nat × Nat × Nat) := []
def xrl2b_O : yO := []
def xrl2b_A : yA := (yZ xrl2b_L, [], [], [], [])
def xrl2b_C : List xB := [(.eq, .arg 1, .int 2, false)]
def xrl2b_ss : List yS := [(36, [(5, .int 0), (4, .int 60), (3, .arg 3), (0, .index 147), (1, .arg 1), (2, .arg 2)], [], [], [(.eq, .arg 1, .int 2, false)], [])]
def xrl2b_rs : List yR := []
theorem xrl2b_w : ywa xrl2b_A xrl2b_ss xrl2b_rs = true := by decide +kernel
theorem xrl2b_k : yis (yev xrl2b_A 3000 60 25 [36] (19, [(0, .index 147), (1, .arg 1), (2, .arg 2)], [.arg 3], xrl2b_O, xrl2b_C, [])) xrl2b_ss xrl2b_rs = true := by decide +kernel
def xrl2b_r (v1_ v2 v3 : Int32) (k_ : Nat) : Value := bif Nat.beq k_ 1 then .int v1_ else (bif Nat.beq k_ 2 then .int v2 else (bif Nat.beq k_ 3 then .int v3 else (.int 0)))
def xrl2b_s (n_ : Nat) : Nat := 0
theorem xrl2b {h_ : xH} {v1_ v2 v3 : Int32} (hs : sHp h_) (c0_ : ¬ v1_ = (2 : Int32)) : ∃ h', ysm h_ h' ∧ (((∀ a_ j_ : Nat, bpat h' a_ j_ = bpat h_ a_ j_) ∧ (bldD 60 25 19 [(0, .index 147), (1, .int v1_), (2, .int v2)] [.int v3] h_ 36 [(5, .int (0 : Int32)), (4, .int (60 : Int32)), (3, .int v3), (0, .index 147), (1, .int v1_), (2, .int v2)] [] h'))) := by
  have hA : yas xrl2b_A (xrl2b_r v1_ v2 v3) (yg xrl2b_s) := ⟨fun q_ hq => absurd hq List.not_mem_nil, fun q_ hq => absurd hq List.not_mem_nil, fun q_ hq => absurd hq List.not_mem_nil, fun n_ hn => yg_lo hn, fun q_ hq => absurd hq List.not_mem_nil⟩
  have Hs : ysh xrl2b_A.1 (yg xrl2b_s) h_ := ysh_of2 hs (fun q_ hq => absurd hq List.not_mem_nil)
  have Ho : ymem (xrl2b_r v1_ v2 v3) (yg xrl2b_s) xrl2b_O h_ := fun q_ hq => absurd hq List.not_mem_nil
  have HC : ∀ q_ ∈ xrl2b_C, xhold (xrl2b_r v1_ v2 v3) q_ := List.forall_mem_cons.mpr ⟨xh_eqF2 c0_, fun q_ hq => absurd hq List.not_mem_nil⟩
  rcases yrun (yis_ok xrl2b_k) hA Hs Ho HC with ⟨q_, hq, h', K_, G_⟩ | ⟨q_, hq, h', K_, G_⟩
  · have e_ := List.mem_singleton.mp hq
    subst e_
    exact ⟨h', yfr_sm K_.2.2.2 hs K_.1 (ywa_s xrl2b_w List.mem_cons_self), ⟨fun a_ j_ => yfr_bp K_.2.2.2 (fun q_ hq => absurd hq List.not_mem_nil), G_⟩⟩
  · cases hq
-- xrleA: 9 steps, 0 ends, 2 returns
def xrleA_L : List (Nat × Nat × Nat) := []
def xrleA_O : yO := []
def xrleA_A : yA := (yZ xrleA_L, [], [], [], [])
def xrleA_C : List xB := []
def xrleA_ss : List yS := []
def xrleA_rs : List yR := [(some (.int 0), [], [(.lt, .arg 5, .arg 4, false)], []),
  (some (.int 0), [], [(.lt, .arg 5, .arg 4, true)], [])]
theorem xrleA_w : ywa xrleA_A xrleA_ss xrleA_rs = true := by decide +kernel
theorem xrleA_k : yis (yev xrleA_A 3000 60 25 [] (36, [(5, .arg 5), (4, .arg 4), (3, .int 0), (0, .index 147), (1, .arg 1), (2, .arg 2)], [], xrleA_O, xrleA_C, [])) xrleA_ss xrleA_rs = true := by decide +kernel
def xrleA_r (v1_ v2 v4_ v5 : Int32) (k_ : Nat) : Value := bif Nat.beq k_ 1 then .int v1_ else (bif Nat.beq k_ 2 then .int v2 else (bif Nat.beq k_ 4 then .int v4_ else (bif Nat.beq k_ 5 then .int v5 else (.int 0))))
def xrleA_s (n_ : Nat) : Nat := 0
theorem xrleA {h_ : xH} {v1_ v2 v4_ v5 : Int32} (hs : sHp h_) : ∃ h', ysm h_ h' ∧ (((v4_.toInt ≤ v5.toInt) ∧ (∀ a_ j_ : Nat, bpat h' a_ j_ = bpat h_ a_ j_) ∧ (∀ D_, 60 ≤ D_ → xrun D_ 25 36 [(5, .int v5), (4, .int v4_), (3, .int (0 : Int32)), (0, .index 147), (1, .int v1_), (2, .int v2)] [] h_ (some (.int (0 : Int32)), h', [])))
  ∨ ((v5.toInt < v4_.toInt) ∧ (∀ a_ j_ : Nat, bpat h' a_ j_ = bpat h_ a_ j_) ∧ (∀ D_, 60 ≤ D_ → xrun D_ 25 36 [(5, .int v5), (4, .int v4_), (3, .int (0 : Int32)), (0, .index 147), (1, .int v1_), (2, .int v2)] [] h_ (some (.int (0 : Int32)), h', [])))) := by
  have hA : yas xrleA_A (xrleA_r v1_ v2 v4_ v5) (yg xrleA_s) := ⟨fun q_ hq => absurd hq List.not_mem_nil, fun q_ hq => absurd hq List.not_mem_nil, fun q_ hq => absurd hq List.not_mem_nil, fun n_ hn => yg_lo hn, fun q_ hq => absurd hq List.not_mem_nil⟩
  have Hs : ysh xrleA_A.1 (yg xrleA_s) h_ := ysh_of2 hs (fun q_ hq => absurd hq List.not_mem_nil)
  have Ho : ymem (xrleA_r v1_ v2 v4_ v5) (yg xrleA_s) xrleA_O h_ := fun q_ hq => absurd hq List.not_mem_nil
  have HC : ∀ q_ ∈ xrleA_C, xhold (xrleA_r v1_ v2 v4_ v5) q_ := fun q_ hq => absurd hq List.not_mem_nil
  rcases yrun (yis_ok xrleA_k) hA Hs Ho HC with ⟨q_, hq, h', K_, G_⟩ | ⟨q_, hq, h', K_, G_⟩
  · cases hq
  · rcases List.mem_cons.mp hq with e_ | hq
    · subst e_
      exact ⟨h', yfr_sm K_.2.2.2 hs K_.1 (ywa_r xrleA_w List.mem_cons_self), Or.inl (⟨xq_ltF rfl rfl (K_.2.2.1 _ List.mem_cons_self), fun a_ j_ => yfr_bp K_.2.2.2 (fun q_ hq => absurd hq List.not_mem_nil), G_⟩)⟩
    have e_ := List.mem_singleton.mp hq
    subst e_
    exact ⟨h', yfr_sm K_.2.2.2 hs K_.1 (ywa_r xrleA_w (List.mem_cons_of_mem _ List.mem_cons_self)), Or.inr (⟨xq_ltT rfl rfl (K_.2.2.1 _ List.mem_cons_self), fun a_ j_ => yfr_bp K_.2.2.2 (fun q_ hq => absurd hq List.not_mem_nil), G_⟩)⟩
-- xrlmA: 5 steps, 0 ends, 1 returns
def xrlmA_L : List (Nat × Nat × Nat) := []
def xrlmA_O : yO := []
def xrlmA_A : yA := (yZ xrlmA_L, [], [], [], [])
def xrlmA_C : List xB := [(.lt, .arg 5, .arg 4, false)]
def xrlmA_ss : List yS := []
def xrlmA_rs : List yR := [(some (.int 1), [], [(.lt, .arg 5, .arg 4, false)], [])]
theorem xrlmA_w : ywa xrlmA_A xrlmA_ss xrlmA_rs = true := by decide +kernel
theorem xrlmA_k : yis (yev xrlmA_A 3000 60 25 [] (36, [(5, .arg 5), (4, .arg 4), (3, .int 1), (0, .index 147), (1, .arg 1), (2, .arg 2)], [], xrlmA_O, xrlmA_C, [])) xrlmA_ss xrlmA_rs = true := by decide +kernel
def xrlmA_r (v1_ v2 v4_ v5 : Int32) (k_ : Nat) : Value := bif Nat.beq k_ 1 then .int v1_ else (bif Nat.beq k_ 2 then .int v2 else (bif Nat.beq k_ 4 then .int v4_ else (bif Nat.beq k_ 5 then .int v5 else (.int 0))))
def xrlmA_s (n_ : Nat) : Nat := 0
theorem xrlmA {h_ : xH} {v1_ v2 v4_ v5 : Int32} (hs : sHp h_) (c0_ : v4_.toInt ≤ v5.toInt) : ∃ h', ysm h_ h' ∧ (((∀ a_ j_ : Nat, bpat h' a_ j_ = bpat h_ a_ j_) ∧ (∀ D_, 60 ≤ D_ → xrun D_ 25 36 [(5, .int v5), (4, .int v4_), (3, .int (1 : Int32)), (0, .index 147), (1, .int v1_), (2, .int v2)] [] h_ (some (.int (1 : Int32)), h', [])))) := by
  have hA : yas xrlmA_A (xrlmA_r v1_ v2 v4_ v5) (yg xrlmA_s) := ⟨fun q_ hq => absurd hq List.not_mem_nil, fun q_ hq => absurd hq List.not_mem_nil, fun q_ hq => absurd hq List.not_mem_nil, fun n_ hn => yg_lo hn, fun q_ hq => absurd hq List.not_mem_nil⟩
  have Hs : ysh xrlmA_A.1 (yg xrlmA_s) h_ := ysh_of2 hs (fun q_ hq => absurd hq List.not_mem_nil)
  have Ho : ymem (xrlmA_r v1_ v2 v4_ v5) (yg xrlmA_s) xrlmA_O h_ := fun q_ hq => absurd hq List.not_mem_nil
  have HC : ∀ q_ ∈ xrlmA_C, xhold (xrlmA_r v1_ v2 v4_ v5) q_ := List.forall_mem_cons.mpr ⟨xh_ltF c0_, fun q_ hq => absurd hq List.not_mem_nil⟩
  rcases yrun (yis_ok xrlmA_k) hA Hs Ho HC with ⟨q_, hq, h', K_, G_⟩ | ⟨q_, hq, h', K_, G_⟩
  · cases hq
  · have e_ := List.mem_singleton.mp hq
    subst e_
    exact ⟨h', yfr_sm K_.2.2.2 hs K_.1 (ywa_r xrlmA_w List.mem_cons_self), ⟨fun a_ j_ => yfr_bp K_.2.2.2 (fun q_ hq => absurd hq List.not_mem_nil), G_⟩⟩
-- xrljA: 6 steps, 1 ends, 0 returns
def xrljA_L : List (Nat × Nat × Nat) := []
def xrljA_O : yO := []
def xrljA_A : yA := (yZ xrljA_L, [], [], [], [])
def xrljA_C : List xB := [(.lt, .arg 5, .arg 4, true)]
def xrljA_ss : List yS := [(48, [(5, .arg 5), (4, .arg 4), (3, .int 1), (0, .index 147), (1, .arg 1), (2, .arg 2)], [.index 147], [], [(.lt, .arg 5, .arg 4, true)], [])]
def xrljA_rs : List yR := []
theorem xrljA_w : ywa xrljA_A xrljA_ss xrljA_rs = true := by decide +kernel
theorem xrljA_k : yis (yev xrljA_A 3000 60 25 [48] (36, [(5, .arg 5), (4, .arg 4), (3, .int 1), (0, .index 147), (1, .arg 1), (2, .arg 2)], [], xrljA_O, xrljA_C, [])) xrljA_ss xrljA_rs = true := by decide +kernel
def xrljA_r (v1_ v2 v4_ v5 : Int32) (k_ : Nat) : Value := bif Nat.beq k_ 1 then .int v1_ else (bif Nat.beq k_ 2 then .int v2 else (bif Nat.beq k_ 4 then .int v4_ else (bif Nat.beq k_ 5 then .int v5 else (.int 0))))
def xrljA_s (n_ : Nat) : Nat := 0
theorem xrljA {h_ : xH} {v1_ v2 v4_ v5 : Int32} (hs : sHp h_) (c0_ : v5.toInt < v4_.toInt) : ∃ h', ysm h_ h' ∧ (((∀ a_ j_ : Nat, bpat h' a_ j_ = bpat h_ a_ j_) ∧ (bldD 60 25 36 [(5, .int v5), (4, .int v4_), (3, .int (1 : Int32)), (0, .index 147), (1, .int v1_), (2, .int v2)] [] h_ 48 [(5, .int v5), (4, .int v4_), (3, .int (1 : Int32)), (0, .index 147), (1, .int v1_), (2, .int v2)] [.index 147] h'))) := by
  have hA : yas xrljA_A (xrljA_r v1_ v2 v4_ v5) (yg xrljA_s) := ⟨fun q_ hq => absurd hq List.not_mem_nil, fun q_ hq => absurd hq List.not_mem_nil, fun q_ hq => absurd hq List.not_mem_nil, fun n_ hn => yg_lo hn, fun q_ hq => absurd hq List.not_mem_nil⟩
  have Hs : ysh xrljA_A.1 (yg xrljA_s) h_ := ysh_of2 hs (fun q_ hq => absurd hq List.not_mem_nil)
  have Ho : ymem (xrljA_r v1_ v2 v4_ v5) (yg xrljA_s) xrljA_O h_ := fun q_ hq => absurd hq List.not_mem_nil
  have HC : ∀ q_ ∈ xrljA_C, xhold (xrljA_r v1_ v2 v4_ v5) q_ := List.forall_mem_cons.mpr ⟨xh_ltT c0_, fun q_ hq => absurd hq List.not_mem_nil⟩
  rcases yrun (yis_ok xrljA_k) hA Hs Ho HC with ⟨q_, hq, h', K_, G_⟩ | ⟨q_, hq, h', K_, G_⟩
  · have e_ := List.mem_singleton.mp hq
    subst e_
    exact ⟨h', yfr_sm K_.2.2.2 hs K_.1 (ywa_s xrljA_w List.mem_cons_self), ⟨fun a_ j_ => yfr_bp K_.2.2.2 (fun q_ hq => absurd hq List.not_mem_nil), G_⟩⟩
  · cases hq
-- xrlnA: 4 steps, 0 ends, 1 returns
def xrlnA_L : List (Nat × Nat × Nat) := []
def xrlnA_O : yO := []
def xrlnA_A : yA := (yZ xrlnA_L, [], [], [], [])
def xrlnA_C : List xB := [(.eq, .arg 7, .arg 1, false)]
def xrlnA_ss : List yS := []
def xrlnA_rs : List yR := [(some (.int 1), [], [(.eq, .arg 7, .arg 1, false)], [])]
theorem xrlnA_w : ywa xrlnA_A xrlnA_ss xrlnA_rs = true := by decide +kernel
theorem xrlnA_k : yis (yev xrlnA_A 3000 60 25 [] (54, [(5, .arg 5), (4, .arg 4), (3, .int 1), (0, .index 147), (1, .arg 1), (2, .arg 2)], [.arg 7], xrlnA_O, xrlnA_C, [])) xrlnA_ss xrlnA_rs = true := by decide +kernel
def xrlnA_r (v1_ v2 v4_ v5 v7 : Int32) (k_ : Nat) : Value := bif Nat.beq k_ 1 then .int v1_ else (bif Nat.beq k_ 2 then .int v2 else (bif Nat.beq k_ 4 then .int v4_ else (bif Nat.beq k_ 5 then .int v5 else (bif Nat.beq k_ 7 then .int v7 else (.int 0)))))
def xrlnA_s (n_ : Nat) : Nat := 0
theorem xrlnA {h_ : xH} {v1_ v2 v4_ v5 v7 : Int32} (hs : sHp h_) (c0_ : ¬ v7 = v1_) : ∃ h', ysm h_ h' ∧ (((∀ a_ j_ : Nat, bpat h' a_ j_ = bpat h_ a_ j_) ∧ (∀ D_, 60 ≤ D_ → xrun D_ 25 54 [(5, .int v5), (4, .int v4_), (3, .int (1 : Int32)), (0, .index 147), (1, .int v1_), (2, .int v2)] [.int v7] h_ (some (.int (1 : Int32)), h', [])))) := by
  have hA : yas xrlnA_A (xrlnA_r v1_ v2 v4_ v5 v7) (yg xrlnA_s) := ⟨fun q_ hq => absurd hq List.not_mem_nil, fun q_ hq => absurd hq List.not_mem_nil, fun q_ hq => absurd hq List.not_mem_nil, fun n_ hn => yg_lo hn, fun q_ hq => absurd hq List.not_mem_nil⟩
  have Hs : ysh xrlnA_A.1 (yg xrlnA_s) h_ := ysh_of2 hs (fun q_ hq => absurd hq List.not_mem_nil)
  have Ho : ymem (xrlnA_r v1_ v2 v4_ v5 v7) (yg xrlnA_s) xrlnA_O h_ := fun q_ hq => absurd hq List.not_mem_nil
  have HC : ∀ q_ ∈ xrlnA_C, xhold (xrlnA_r v1_ v2 v4_ v5 v7) q_ := List.forall_mem_cons.mpr ⟨xh_eqF2 c0_, fun q_ hq => absurd hq List.not_mem_nil⟩
  rcases yrun (yis_ok xrlnA_k) hA Hs Ho HC with ⟨q_, hq, h', K_, G_⟩ | ⟨q_, hq, h', K_, G_⟩
  · cases hq
  · have e_ := List.mem_singleton.mp hq
    subst e_
    exact ⟨h', yfr_sm K_.2.2.2 hs K_.1 (ywa_r xrlnA_w List.mem_cons_self), ⟨fun a_ j_ => yfr_bp K_.2.2.2 (fun q_ hq => absurd hq List.not_mem_nil), G_⟩⟩
-- xrlyA: 3 steps, 1 ends, 0 returns
def xrlyA_L : List (Nat × Nat × Nat) := []
def xrlyA_O : yO := []
def xrlyA_A : yA := (yZ xrlyA_L, [], [], [], [])
def xrlyA_C : List xB := [(.eq, .arg 7, .arg 1, true)]
def xrlyA_ss : List yS := [(59, [(5, .arg 5), (4, .arg 4), (3, .int 1), (0, .index 147), (1, .arg 1), (2, .arg 2)], [.index 147], [], [(.eq, .arg 7, .arg 1, true)], [])]
def xrlyA_rs : List yR := []
theorem xrlyA_w : ywa xrlyA_A xrlyA_ss xrlyA_rs = true := by decide +kernel
theorem xrlyA_k : yis (yev xrlyA_A 3000 60 25 [59] (54, [(5, .arg 5), (4, .arg 4), (3, .int 1), (0, .index 147), (1, .arg 1), (2, .arg 2)], [.arg 7], xrlyA_O, xrlyA_C, [])) xrlyA_ss xrlyA_rs = true := by decide +kernel
def xrlyA_r (v1_ v2 v4_ v5 v7 : Int32) (k_ : Nat) : Value := bif Nat.beq k_ 1 then .int v1_ else (bif Nat.beq k_ 2 then .int v2 else (bif Nat.beq k_ 4 then .int v4_ else (bif Nat.beq k_ 5 then .int v5 else (bif Nat.beq k_ 7 then .int v7 else (.int 0)))))
def xrlyA_s (n_ : Nat) : Nat := 0
theorem xrlyA {h_ : xH} {v1_ v2 v4_ v5 v7 : Int32} (hs : sHp h_) (c0_ : v7 = v1_) : ∃ h', ysm h_ h' ∧ (((∀ a_ j_ : Nat, bpat h' a_ j_ = bpat h_ a_ j_) ∧ (bldD 60 25 54 [(5, .int v5), (4, .int v4_), (3, .int (1 : Int32)), (0, .index 147), (1, .int v1_), (2, .int v2)] [.int v7] h_ 59 [(5, .int v5), (4, .int v4_), (3, .int (1 : Int32)), (0, .index 147), (1, .int v1_), (2, .int v2)] [.index 147] h'))) := by
  have hA : yas xrlyA_A (xrlyA_r v1_ v2 v4_ v5 v7) (yg xrlyA_s) := ⟨fun q_ hq => absurd hq List.not_mem_nil, fun q_ hq => absurd hq List.not_mem_nil, fun q_ hq => absurd hq List.not_mem_nil, fun n_ hn => yg_lo hn, fun q_ hq => absurd hq List.not_mem_nil⟩
  have Hs : ysh xrlyA_A.1 (yg xrlyA_s) h_ := ysh_of2 hs (fun q_ hq => absurd hq List.not_mem_nil)
  have Ho : ymem (xrlyA_r v1_ v2 v4_ v5 v7) (yg xrlyA_s) xrlyA_O h_ := fun q_ hq => absurd hq List.not_mem_nil
  have HC : ∀ q_ ∈ xrlyA_C, xhold (xrlyA_r v1_ v2 v4_ v5 v7) q_ := List.forall_mem_cons.mpr ⟨xh_eqT2 c0_, fun q_ hq => absurd hq List.not_mem_nil⟩
  rcases yrun (yis_ok xrlyA_k) hA Hs Ho HC with ⟨q_, hq, h', K_, G_⟩ | ⟨q_, hq, h', K_, G_⟩
  · have e_ := List.mem_singleton.mp hq
    subst e_
    exact ⟨h', yfr_sm K_.2.2.2 hs K_.1 (ywa_s xrlyA_w List.mem_cons_self), ⟨fun a_ j_ => yfr_bp K_.2.2.2 (fun q_ hq => absurd hq List.not_mem_nil), G_⟩⟩
  · cases hq
-- xrlpA: 12 steps, 1 ends, 0 returns
def xrlpA_L : List (Nat × Nat × Nat) := []
def xrlpA_O : yO := [(147, .int 3, .arg 300)]
def xrlpA_A : yA := (yZ xrlpA_L, [], [], [], [])
def xrlpA_C : List xB := []
def xrlpA_ss : List yS := [(79, [(6, .arg 8), (5, .arg 5), (4, .arg 4), (3, .int 1), (0, .index 147), (1, .arg 1), (2, .arg 2)], [.arg 2, .add (.arg 1) (.int 1), .index 147], [(147, .int 3, .add (.arg 300) (.int 1))], [], [(147, .int 3)])]
def xrlpA_rs : List yR := []
theorem xrlpA_w : ywa xrlpA_A xrlpA_ss xrlpA_rs = true := by decide +kernel
theorem xrlpA_k : yis (yev xrlpA_A 3000 60 25 [79] (62, [(5, .arg 5), (4, .arg 4), (3, .int 1), (0, .index 147), (1, .arg 1), (2, .arg 2)], [.arg 8], xrlpA_O, xrlpA_C, [])) xrlpA_ss xrlpA_rs = true := by decide +kernel
def xrlpA_r (v1_ v2 v4_ v5 v8 v300 : Int32) (k_ : Nat) : Value := bif Nat.beq k_ 1 then .int v1_ else (bif Nat.beq k_ 2 then .int v2 else (bif Nat.beq k_ 4 then .int v4_ else (bif Nat.beq k_ 5 then .int v5 else (bif Nat.beq k_ 8 then .int v8 else (bif Nat.beq k_ 300 then .int v300 else (.int 0))))))
def xrlpA_s (n_ : Nat) : Nat := 0
theorem xrlpA {h_ : xH} {v1_ v2 v4_ v5 v8 v300 : Int32} (hs : sHp h_) (o0_ : bpat h_ 147 3 = some (.int v300)) : ∃ h', ysm h_ h' ∧ (((bpat h' 147 3 = some (.int (v300 + (1 : Int32)))) ∧ (∀ a_ j_ : Nat, ¬ (a_ = 147 ∧ j_ = 3) → bpat h' a_ j_ = bpat h_ a_ j_) ∧ (bldD 60 25 62 [(5, .int v5), (4, .int v4_), (3, .int (1 : Int32)), (0, .index 147), (1, .int v1_), (2, .int v2)] [.int v8] h_ 79 [(6, .int v8), (5, .int v5), (4, .int v4_), (3, .int (1 : Int32)), (0, .index 147), (1, .int v1_), (2, .int v2)] [.int v2, .int (v1_ + (1 : Int32)), .index 147] h'))) := by
  have hA : yas xrlpA_A (xrlpA_r v1_ v2 v4_ v5 v8 v300) (yg xrlpA_s) := ⟨fun q_ hq => absurd hq List.not_mem_nil, fun q_ hq => absurd hq List.not_mem_nil, fun q_ hq => absurd hq List.not_mem_nil, fun n_ hn => yg_lo hn, fun q_ hq => absurd hq List.not_mem_nil⟩
  have Hs : ysh xrlpA_A.1 (yg xrlpA_s) h_ := ysh_of2 hs (fun q_ hq => absurd hq List.not_mem_nil)
  have Ho : ymem (xrlpA_r v1_ v2 v4_ v5 v8 v300) (yg xrlpA_s) xrlpA_O h_ := List.forall_mem_cons.mpr ⟨bpat_some o0_, fun q_ hq => absurd hq List.not_mem_nil⟩
  have HC : ∀ q_ ∈ xrlpA_C, xhold (xrlpA_r v1_ v2 v4_ v5 v8 v300) q_ := fun q_ hq => absurd hq List.not_mem_nil
  rcases yrun (yis_ok xrlpA_k) hA Hs Ho HC with ⟨q_, hq, h', K_, G_⟩ | ⟨q_, hq, h', K_, G_⟩
  · have e_ := List.mem_singleton.mp hq
    subst e_
    exact ⟨h', yfr_sm K_.2.2.2 hs K_.1 (ywa_s xrlpA_w List.mem_cons_self), ⟨bpat_of (K_.2.1 _ List.mem_cons_self), fun a_ j_ n0_ => yfr_bp K_.2.2.2 (List.forall_mem_cons.mpr ⟨fun e_ => n0_ ⟨e_.1.symm, e_.2.symm⟩, fun q_ hq => absurd hq List.not_mem_nil⟩), G_⟩⟩
  · cases hq
-- xrleB: 9 steps, 0 ends, 2 returns
def xrleB_L : List (Nat × Nat × Nat) := []
def xrleB_O : yO := []
def xrleB_A : yA := (yZ xrleB_L, [], [], [], [])
def xrleB_C : List xB := []
def xrleB_ss : List yS := []
def xrleB_rs : List yR := [(some (.int 0), [], [(.lt, .arg 5, .arg 4, false)], []),
  (some (.int 0), [], [(.lt, .arg 5, .arg 4, true)], [])]
theorem xrleB_w : ywa xrleB_A xrleB_ss xrleB_rs = true := by decide +kernel
theorem xrleB_k : yis (yev xrleB_A 3000 60 25 [] (36, [(5, .arg 5), (3, .int 0), (6, .arg 6), (4, .arg 4), (0, .index 147), (1, .arg 1), (2, .arg 2)], [], xrleB_O, xrleB_C, [])) xrleB_ss xrleB_rs = true := by decide +kernel
def xrleB_r (v1_ v2 v4_ v5 v6 : Int32) (k_ : Nat) : Value := bif Nat.beq k_ 1 then .int v1_ else (bif Nat.beq k_ 2 then .int v2 else (bif Nat.beq k_ 4 then .int v4_ else (bif Nat.beq k_ 5 then .int v5 else (bif Nat.beq k_ 6 then .int v6 else (.int 0)))))
def xrleB_s (n_ : Nat) : Nat := 0
theorem xrleB {h_ : xH} {v1_ v2 v4_ v5 v6 : Int32} (hs : sHp h_) : ∃ h', ysm h_ h' ∧ (((v4_.toInt ≤ v5.toInt) ∧ (∀ a_ j_ : Nat, bpat h' a_ j_ = bpat h_ a_ j_) ∧ (∀ D_, 60 ≤ D_ → xrun D_ 25 36 [(5, .int v5), (3, .int (0 : Int32)), (6, .int v6), (4, .int v4_), (0, .index 147), (1, .int v1_), (2, .int v2)] [] h_ (some (.int (0 : Int32)), h', [])))
  ∨ ((v5.toInt < v4_.toInt) ∧ (∀ a_ j_ : Nat, bpat h' a_ j_ = bpat h_ a_ j_) ∧ (∀ D_, 60 ≤ D_ → xrun D_ 25 36 [(5, .int v5), (3, .int (0 : Int32)), (6, .int v6), (4, .int v4_), (0, .index 147), (1, .int v1_), (2, .int v2)] [] h_ (some (.int (0 : Int32)), h', [])))) := by
  have hA : yas xrleB_A (xrleB_r v1_ v2 v4_ v5 v6) (yg xrleB_s) := ⟨fun q_ hq => absurd hq List.not_mem_nil, fun q_ hq => absurd hq List.not_mem_nil, fun q_ hq => absurd hq List.not_mem_nil, fun n_ hn => yg_lo hn, fun q_ hq => absurd hq List.not_mem_nil⟩
  have Hs : ysh xrleB_A.1 (yg xrleB_s) h_ := ysh_of2 hs (fun q_ hq => absurd hq List.not_mem_nil)
  have Ho : ymem (xrleB_r v1_ v2 v4_ v5 v6) (yg xrleB_s) xrleB_O h_ := fun q_ hq => absurd hq List.not_mem_nil
  have HC : ∀ q_ ∈ xrleB_C, xhold (xrleB_r v1_ v2 v4_ v5 v6) q_ := fun q_ hq => absurd hq List.not_mem_nil
  rcases yrun (yis_ok xrleB_k) hA Hs Ho HC with ⟨q_, hq, h', K_, G_⟩ | ⟨q_, hq, h', K_, G_⟩
  · cases hq
  · rcases List.mem_cons.mp hq with e_ | hq
    · subst e_
      exact ⟨h', yfr_sm K_.2.2.2 hs K_.1 (ywa_r xrleB_w List.mem_cons_self), Or.inl (⟨xq_ltF rfl rfl (K_.2.2.1 _ List.mem_cons_self), fun a_ j_ => yfr_bp K_.2.2.2 (fun q_ hq => absurd hq List.not_mem_nil), G_⟩)⟩
    have e_ := List.mem_singleton.mp hq
    subst e_
    exact ⟨h', yfr_sm K_.2.2.2 hs K_.1 (ywa_r xrleB_w (List.mem_cons_of_mem _ List.mem_cons_self)), Or.inr (⟨xq_ltT rfl rfl (K_.2.2.1 _ List.mem_cons_self), fun a_ j_ => yfr_bp K_.2.2.2 (fun q_ hq => absurd hq List.not_mem_nil), G_⟩)⟩
-- xrlmB: 5 steps, 0 ends, 1 returns
def xrlmB_L : List (Nat × Nat × Nat) := []
def xrlmB_O : yO := []
def xrlmB_A : yA := (yZ xrlmB_L, [], [], [], [])
def xrlmB_C : List xB := [(.lt, .arg 5, .arg 4, false)]
def xrlmB_ss : List yS := []
def xrlmB_rs : List yR := [(some (.int 1), [], [(.lt, .arg 5, .arg 4, false)], [])]
theorem xrlmB_w : ywa xrlmB_A xrlmB_ss xrlmB_rs = true := by decide +kernel
theorem xrlmB_k : yis (yev xrlmB_A 3000 60 25 [] (36, [(5, .arg 5), (3, .int 1), (6, .arg 6), (4, .arg 4), (0, .index 147), (1, .arg 1), (2, .arg 2)], [], xrlmB_O, xrlmB_C, [])) xrlmB_ss xrlmB_rs = true := by decide +kernel
def xrlmB_r (v1_ v2 v4_ v5 v6 : Int32) (k_ : Nat) : Value := bif Nat.beq k_ 1 then .int v1_ else (bif Nat.beq k_ 2 then .int v2 else (bif Nat.beq k_ 4 then .int v4_ else (bif Nat.beq k_ 5 then .int v5 else (bif Nat.beq k_ 6 then .int v6 else (.int 0)))))
def xrlmB_s (n_ : Nat) : Nat := 0
theorem xrlmB {h_ : xH} {v1_ v2 v4_ v5 v6 : Int32} (hs : sHp h_) (c0_ : v4_.toInt ≤ v5.toInt) : ∃ h', ysm h_ h' ∧ (((∀ a_ j_ : Nat, bpat h' a_ j_ = bpat h_ a_ j_) ∧ (∀ D_, 60 ≤ D_ → xrun D_ 25 36 [(5, .int v5), (3, .int (1 : Int32)), (6, .int v6), (4, .int v4_), (0, .index 147), (1, .int v1_), (2, .int v2)] [] h_ (some (.int (1 : Int32)), h', [])))) := by
  have hA : yas xrlmB_A (xrlmB_r v1_ v2 v4_ v5 v6) (yg xrlmB_s) := ⟨fun q_ hq => absurd hq List.not_mem_nil, fun q_ hq => absurd hq List.not_mem_nil, fun q_ hq => absurd hq List.not_mem_nil, fun n_ hn => yg_lo hn, fun q_ hq => absurd hq List.not_mem_nil⟩
  have Hs : ysh xrlmB_A.1 (yg xrlmB_s) h_ := ysh_of2 hs (fun q_ hq => absurd hq List.not_mem_nil)
  have Ho : ymem (xrlmB_r v1_ v2 v4_ v5 v6) (yg xrlmB_s) xrlmB_O h_ := fun q_ hq => absurd hq List.not_mem_nil
  have HC : ∀ q_ ∈ xrlmB_C, xhold (xrlmB_r v1_ v2 v4_ v5 v6) q_ := List.forall_mem_cons.mpr ⟨xh_ltF c0_, fun q_ hq => absurd hq List.not_mem_nil⟩
  rcases yrun (yis_ok xrlmB_k) hA Hs Ho HC with ⟨q_, hq, h', K_, G_⟩ | ⟨q_, hq, h', K_, G_⟩
  · cases hq
  · have e_ := List.mem_singleton.mp hq
    subst e_
    exact ⟨h', yfr_sm K_.2.2.2 hs K_.1 (ywa_r xrlmB_w List.mem_cons_self), ⟨fun a_ j_ => yfr_bp K_.2.2.2 (fun q_ hq => absurd hq List.not_mem_nil), G_⟩⟩
-- xrljB: 6 steps, 1 ends, 0 returns
def xrljB_L : List (Nat × Nat × Nat) := []
def xrljB_O : yO := []
def xrljB_A : yA := (yZ xrljB_L, [], [], [], [])
def xrljB_C : List xB := [(.lt, .arg 5, .arg 4, true)]
def xrljB_ss : List yS := [(48, [(5, .arg 5), (3, .int 1), (6, .arg 6), (4, .arg 4), (0, .index 147), (1, .arg 1), (2, .arg 2)], [.index 147], [], [(.lt, .arg 5, .arg 4, true)], [])]
def xrljB_rs : List yR := []
theorem xrljB_w : ywa xrljB_A xrljB_ss xrljB_rs = true := by decide +kernel
theorem xrljB_k : yis (yev xrljB_A 3000 60 25 [48] (36, [(5, .arg 5), (3, .int 1), (6, .arg 6), (4, .arg 4), (0, .index 147), (1, .arg 1), (2, .arg 2)], [], xrljB_O, xrljB_C, [])) xrljB_ss xrljB_rs = true := by decide +kernel
def xrljB_r (v1_ v2 v4_ v5 v6 : Int32) (k_ : Nat) : Value := bif Nat.beq k_ 1 then .int v1_ else (bif Nat.beq k_ 2 then .int v2 else (bif Nat.beq k_ 4 then .int v4_ else (bif Nat.beq k_ 5 then .int v5 else (bif Nat.beq k_ 6 then .int v6 else (.int 0)))))
def xrljB_s (n_ : Nat) : Nat := 0
theorem xrljB {h_ : xH} {v1_ v2 v4_ v5 v6 : Int32} (hs : sHp h_) (c0_ : v5.toInt < v4_.toInt) : ∃ h', ysm h_ h' ∧ (((∀ a_ j_ : Nat, bpat h' a_ j_ = bpat h_ a_ j_) ∧ (bldD 60 25 36 [(5, .int v5), (3, .int (1 : Int32)), (6, .int v6), (4, .int v4_), (0, .index 147), (1, .int v1_), (2, .int v2)] [] h_ 48 [(5, .int v5), (3, .int (1 : Int32)), (6, .int v6), (4, .int v4_), (0, .index 147), (1, .int v1_), (2, .int v2)] [.index 147] h'))) := by
  have hA : yas xrljB_A (xrljB_r v1_ v2 v4_ v5 v6) (yg xrljB_s) := ⟨fun q_ hq => absurd hq List.not_mem_nil, fun q_ hq => absurd hq List.not_mem_nil, fun q_ hq => absurd hq List.not_mem_nil, fun n_ hn => yg_lo hn, fun q_ hq => absurd hq List.not_mem_nil⟩
  have Hs : ysh xrljB_A.1 (yg xrljB_s) h_ := ysh_of2 hs (fun q_ hq => absurd hq List.not_mem_nil)
  have Ho : ymem (xrljB_r v1_ v2 v4_ v5 v6) (yg xrljB_s) xrljB_O h_ := fun q_ hq => absurd hq List.not_mem_nil
  have HC : ∀ q_ ∈ xrljB_C, xhold (xrljB_r v1_ v2 v4_ v5 v6) q_ := List.forall_mem_cons.mpr ⟨xh_ltT c0_, fun q_ hq => absurd hq List.not_mem_nil⟩
  rcases yrun (yis_ok xrljB_k) hA Hs Ho HC with ⟨q_, hq, h', K_, G_⟩ | ⟨q_, hq, h', K_, G_⟩
  · have e_ := List.mem_singleton.mp hq
    subst e_
    exact ⟨h', yfr_sm K_.2.2.2 hs K_.1 (ywa_s xrljB_w List.mem_cons_self), ⟨fun a_ j_ => yfr_bp K_.2.2.2 (fun q_ hq => absurd hq List.not_mem_nil), G_⟩⟩
  · cases hq
-- xrlnB: 4 steps, 0 ends, 1 returns
def xrlnB_L : List (Nat × Nat × Nat) := []
def xrlnB_O : yO := []
def xrlnB_A : yA := (yZ xrlnB_L, [], [], [], [])
def xrlnB_C : List xB := [(.eq, .arg 7, .arg 1, false)]
def xrlnB_ss : List yS := []
def xrlnB_rs : List yR := [(some (.int 1), [], [(.eq, .arg 7, .arg 1, false)], [])]
theorem xrlnB_w : ywa xrlnB_A xrlnB_ss xrlnB_rs = true := by decide +kernel
theorem xrlnB_k : yis (yev xrlnB_A 3000 60 25 [] (54, [(5, .arg 5), (3, .int 1), (6, .arg 6), (4, .arg 4), (0, .index 147), (1, .arg 1), (2, .arg 2)], [.arg 7], xrlnB_O, xrlnB_C, [])) xrlnB_ss xrlnB_rs = true := by decide +kernel
def xrlnB_r (v1_ v2 v4_ v5 v6 v7 : Int32) (k_ : Nat) : Value := bif Nat.beq k_ 1 then .int v1_ else (bif Nat.beq k_ 2 then .int v2 else (bif Nat.beq k_ 4 then .int v4_ else (bif Nat.beq k_ 5 then .int v5 else (bif Nat.beq k_ 6 then .int v6 else (bif Nat.beq k_ 7 then .int v7 else (.int 0))))))
def xrlnB_s (n_ : Nat) : Nat := 0
theorem xrlnB {h_ : xH} {v1_ v2 v4_ v5 v6 v7 : Int32} (hs : sHp h_) (c0_ : ¬ v7 = v1_) : ∃ h', ysm h_ h' ∧ (((∀ a_ j_ : Nat, bpat h' a_ j_ = bpat h_ a_ j_) ∧ (∀ D_, 60 ≤ D_ → xrun D_ 25 54 [(5, .int v5), (3, .int (1 : Int32)), (6, .int v6), (4, .int v4_), (0, .index 147), (1, .int v1_), (2, .int v2)] [.int v7] h_ (some (.int (1 : Int32)), h', [])))) := by
  have hA : yas xrlnB_A (xrlnB_r v1_ v2 v4_ v5 v6 v7) (yg xrlnB_s) := ⟨fun q_ hq => absurd hq List.not_mem_nil, fun q_ hq => absurd hq List.not_mem_nil, fun q_ hq => absurd hq List.not_mem_nil, fun n_ hn => yg_lo hn, fun q_ hq => absurd hq List.not_mem_nil⟩
  have Hs : ysh xrlnB_A.1 (yg xrlnB_s) h_ := ysh_of2 hs (fun q_ hq => absurd hq List.not_mem_nil)
  have Ho : ymem (xrlnB_r v1_ v2 v4_ v5 v6 v7) (yg xrlnB_s) xrlnB_O h_ := fun q_ hq => absurd hq List.not_mem_nil
  have HC : ∀ q_ ∈ xrlnB_C, xhold (xrlnB_r v1_ v2 v4_ v5 v6 v7) q_ := List.forall_mem_cons.mpr ⟨xh_eqF2 c0_, fun q_ hq => absurd hq List.not_mem_nil⟩
  rcases yrun (yis_ok xrlnB_k) hA Hs Ho HC with ⟨q_, hq, h', K_, G_⟩ | ⟨q_, hq, h', K_, G_⟩
  · cases hq
  · have e_ := List.mem_singleton.mp hq
    subst e_
    exact ⟨h', yfr_sm K_.2.2.2 hs K_.1 (ywa_r xrlnB_w List.mem_cons_self), ⟨fun a_ j_ => yfr_bp K_.2.2.2 (fun q_ hq => absurd hq List.not_mem_nil), G_⟩⟩
-- xrlyB: 3 steps, 1 ends, 0 returns
def xrlyB_L : List (Nat × Nat × Nat) := []
def xrlyB_O : yO := []
def xrlyB_A : yA := (yZ xrlyB_L, [], [], [], [])
def xrlyB_C : List xB := [(.eq, .arg 7, .arg 1, true)]
def xrlyB_ss : List yS := [(59, [(5, .arg 5), (3, .int 1), (6, .arg 6), (4, .arg 4), (0, .index 147), (1, .arg 1), (2, .arg 2)], [.index 147], [], [(.eq, .arg 7, .arg 1, true)], [])]
def xrlyB_rs : List yR := []
theorem xrlyB_w : ywa xrlyB_A xrlyB_ss xrlyB_rs = true := by decide +kernel
theorem xrlyB_k : yis (yev xrlyB_A 3000 60 25 [59] (54, [(5, .arg 5), (3, .int 1), (6, .arg 6), (4, .arg 4), (0, .index 147), (1, .arg 1), (2, .arg 2)], [.arg 7], xrlyB_O, xrlyB_C, [])) xrlyB_ss xrlyB_rs = true := by decide +kernel
def xrlyB_r (v1_ v2 v4_ v5 v6 v7 : Int32) (k_ : Nat) : Value := bif Nat.beq k_ 1 then .int v1_ else (bif Nat.beq k_ 2 then .int v2 else (bif Nat.beq k_ 4 then .int v4_ else (bif Nat.beq k_ 5 then .int v5 else (bif Nat.beq k_ 6 then .int v6 else (bif Nat.beq k_ 7 then .int v7 else (.int 0))))))
def xrlyB_s (n_ : Nat) : Nat := 0
theorem xrlyB {h_ : xH} {v1_ v2 v4_ v5 v6 v7 : Int32} (hs : sHp h_) (c0_ : v7 = v1_) : ∃ h', ysm h_ h' ∧ (((∀ a_ j_ : Nat, bpat h' a_ j_ = bpat h_ a_ j_) ∧ (bldD 60 25 54 [(5, .int v5), (3, .int (1 : Int32)), (6, .int v6), (4, .int v4_), (0, .index 147), (1, .int v1_), (2, .int v2)] [.int v7] h_ 59 [(5, .int v5), (3, .int (1 : Int32)), (6, .int v6), (4, .int v4_), (0, .index 147), (1, .int v1_), (2, .int v2)] [.index 147] h'))) := by
  have hA : yas xrlyB_A (xrlyB_r v1_ v2 v4_ v5 v6 v7) (yg xrlyB_s) := ⟨fun q_ hq => absurd hq List.not_mem_nil, fun q_ hq => absurd hq List.not_mem_nil, fun q_ hq => absurd hq List.not_mem_nil, fun n_ hn => yg_lo hn, fun q_ hq => absurd hq List.not_mem_nil⟩
  have Hs : ysh xrlyB_A.1 (yg xrlyB_s) h_ := ysh_of2 hs (fun q_ hq => absurd hq List.not_mem_nil)
  have Ho : ymem (xrlyB_r v1_ v2 v4_ v5 v6 v7) (yg xrlyB_s) xrlyB_O h_ := fun q_ hq => absurd hq List.not_mem_nil
  have HC : ∀ q_ ∈ xrlyB_C, xhold (xrlyB_r v1_ v2 v4_ v5 v6 v7) q_ := List.forall_mem_cons.mpr ⟨xh_eqT2 c0_, fun q_ hq => absurd hq List.not_mem_nil⟩
  rcases yrun (yis_ok xrlyB_k) hA Hs Ho HC with ⟨q_, hq, h', K_, G_⟩ | ⟨q_, hq, h', K_, G_⟩
  · have e_ := List.mem_singleton.mp hq
    subst e_
    exact ⟨h', yfr_sm K_.2.2.2 hs K_.1 (ywa_s xrlyB_w List.mem_cons_self), ⟨fun a_ j_ => yfr_bp K_.2.2.2 (fun q_ hq => absurd hq List.not_mem_nil), G_⟩⟩
  · cases hq
-- xrlpB: 12 steps, 1 ends, 0 returns
def xrlpB_L : List (Nat × Nat × Nat) := []
def xrlpB_O : yO := [(147, .int 3, .arg 300)]
def xrlpB_A : yA := (yZ xrlpB_L, [], [], [], [])
def xrlpB_C : List xB := []
def xrlpB_ss : List yS := [(79, [(6, .arg 8), (5, .arg 5), (3, .int 1), (4, .arg 4), (0, .index 147), (1, .arg 1), (2, .arg 2)], [.arg 2, .add (.arg 1) (.int 1), .index 147], [(147, .int 3, .add (.arg 300) (.int 1))], [], [(147, .int 3)])]
def xrlpB_rs : List yR := []
theorem xrlpB_w : ywa xrlpB_A xrlpB_ss xrlpB_rs = true := by decide +kernel
theorem xrlpB_k : yis (yev xrlpB_A 3000 60 25 [79] (62, [(5, .arg 5), (3, .int 1), (6, .arg 6), (4, .arg 4), (0, .index 147), (1, .arg 1), (2, .arg 2)], [.arg 8], xrlpB_O, xrlpB_C, [])) xrlpB_ss xrlpB_rs = true := by decide +kernel
def xrlpB_r (v1_ v2 v4_ v5 v6 v8 v300 : Int32) (k_ : Nat) : Value := bif Nat.beq k_ 1 then .int v1_ else (bif Nat.beq k_ 2 then .int v2 else (bif Nat.beq k_ 4 then .int v4_ else (bif Nat.beq k_ 5 then .int v5 else (bif Nat.beq k_ 6 then .int v6 else (bif Nat.beq k_ 8 then .int v8 else (bif Nat.beq k_ 300 then .int v300 else (.int 0)))))))
def xrlpB_s (n_ : Nat) : Nat := 0
theorem xrlpB {h_ : xH} {v1_ v2 v4_ v5 v6 v8 v300 : Int32} (hs : sHp h_) (o0_ : bpat h_ 147 3 = some (.int v300)) : ∃ h', ysm h_ h' ∧ (((bpat h' 147 3 = some (.int (v300 + (1 : Int32)))) ∧ (∀ a_ j_ : Nat, ¬ (a_ = 147 ∧ j_ = 3) → bpat h' a_ j_ = bpat h_ a_ j_) ∧ (bldD 60 25 62 [(5, .int v5), (3, .int (1 : Int32)), (6, .int v6), (4, .int v4_), (0, .index 147), (1, .int v1_), (2, .int v2)] [.int v8] h_ 79 [(6, .int v8), (5, .int v5), (3, .int (1 : Int32)), (4, .int v4_), (0, .index 147), (1, .int v1_), (2, .int v2)] [.int v2, .int (v1_ + (1 : Int32)), .index 147] h'))) := by
  have hA : yas xrlpB_A (xrlpB_r v1_ v2 v4_ v5 v6 v8 v300) (yg xrlpB_s) := ⟨fun q_ hq => absurd hq List.not_mem_nil, fun q_ hq => absurd hq List.not_mem_nil, fun q_ hq => absurd hq List.not_mem_nil, fun n_ hn => yg_lo hn, fun q_ hq => absurd hq List.not_mem_nil⟩
  have Hs : ysh xrlpB_A.1 (yg xrlpB_s) h_ := ysh_of2 hs (fun q_ hq => absurd hq List.not_mem_nil)
  have Ho : ymem (xrlpB_r v1_ v2 v4_ v5 v6 v8 v300) (yg xrlpB_s) xrlpB_O h_ := List.forall_mem_cons.mpr ⟨bpat_some o0_, fun q_ hq => absurd hq List.not_mem_nil⟩
  have HC : ∀ q_ ∈ xrlpB_C, xhold (xrlpB_r v1_ v2 v4_ v5 v6 v8 v300) q_ := fun q_ hq => absurd hq List.not_mem_nil
  rcases yrun (yis_ok xrlpB_k) hA Hs Ho HC with ⟨q_, hq, h', K_, G_⟩ | ⟨q_, hq, h', K_, G_⟩
  · have e_ := List.mem_singleton.mp hq
    subst e_
    exact ⟨h', yfr_sm K_.2.2.2 hs K_.1 (ywa_s xrlpB_w List.mem_cons_self), ⟨bpat_of (K_.2.1 _ List.mem_cons_self), fun a_ j_ n0_ => yfr_bp K_.2.2.2 (List.forall_mem_cons.mpr ⟨fun e_ => n0_ ⟨e_.1.symm, e_.2.symm⟩, fun q_ hq => absurd hq List.not_mem_nil⟩), G_⟩⟩
  · cases hq
-- xrlqA: 6 steps, 1 ends, 0 returns
def xrlqA_L : List (Nat × Nat × Nat) := []
def xrlqA_O : yO := [(147, .int 0, .index 148)]
def xrlqA_A : yA := (yZ xrlqA_L, [], [], [], [])
def xrlqA_C : List xB := []
def xrlqA_ss : List yS := [(93, [(3, .arg 9), (6, .arg 8), (5, .arg 5), (4, .arg 4), (0, .index 147), (1, .arg 1), (2, .arg 2)], [.add (.int 20000) (.arg 8), .index 148], [(147, .int 0, .index 148)], [], [])]
def xrlqA_rs : List yR := []
theorem xrlqA_w : ywa xrlqA_A xrlqA_ss xrlqA_rs = true := by decide +kernel
theorem xrlqA_k : yis (yev xrlqA_A 3000 60 25 [93] (82, [(6, .arg 8), (5, .arg 5), (4, .arg 4), (3, .int 1), (0, .index 147), (1, .arg 1), (2, .arg 2)], [.arg 9], xrlqA_O, xrlqA_C, [])) xrlqA_ss xrlqA_rs = true := by decide +kernel
def xrlqA_r (v1_ v2 v4_ v5 v8 v9 : Int32) (k_ : Nat) : Value := bif Nat.beq k_ 1 then .int v1_ else (bif Nat.beq k_ 2 then .int v2 else (bif Nat.beq k_ 4 then .int v4_ else (bif Nat.beq k_ 5 then .int v5 else (bif Nat.beq k_ 8 then .int v8 else (bif Nat.beq k_ 9 then .int v9 else (.int 0))))))
def xrlqA_s (n_ : Nat) : Nat := 0
theorem xrlqA {h_ : xH} {v1_ v2 v4_ v5 v8 v9 : Int32} (hs : sHp h_) : ∃ h', ysm h_ h' ∧ (((∀ a_ j_ : Nat, bpat h' a_ j_ = bpat h_ a_ j_) ∧ (bldD 60 25 82 [(6, .int v8), (5, .int v5), (4, .int v4_), (3, .int (1 : Int32)), (0, .index 147), (1, .int v1_), (2, .int v2)] [.int v9] h_ 93 [(3, .int v9), (6, .int v8), (5, .int v5), (4, .int v4_), (0, .index 147), (1, .int v1_), (2, .int v2)] [.int ((20000 : Int32) + v8), .index 148] h'))) := by
  have hA : yas xrlqA_A (xrlqA_r v1_ v2 v4_ v5 v8 v9) (yg xrlqA_s) := ⟨fun q_ hq => absurd hq List.not_mem_nil, fun q_ hq => absurd hq List.not_mem_nil, fun q_ hq => absurd hq List.not_mem_nil, fun n_ hn => yg_lo hn, fun q_ hq => absurd hq List.not_mem_nil⟩
  have Hs : ysh xrlqA_A.1 (yg xrlqA_s) h_ := ysh_of2 hs (fun q_ hq => absurd hq List.not_mem_nil)
  have Ho : ymem (xrlqA_r v1_ v2 v4_ v5 v8 v9) (yg xrlqA_s) xrlqA_O h_ := List.forall_mem_cons.mpr ⟨bpat_some (fxr_at hs.2 (show fxk fxl 147 0 = some 148 by decide +kernel)), fun q_ hq => absurd hq List.not_mem_nil⟩
  have HC : ∀ q_ ∈ xrlqA_C, xhold (xrlqA_r v1_ v2 v4_ v5 v8 v9) q_ := fun q_ hq => absurd hq List.not_mem_nil
  rcases yrun (yis_ok xrlqA_k) hA Hs Ho HC with ⟨q_, hq, h', K_, G_⟩ | ⟨q_, hq, h', K_, G_⟩
  · have e_ := List.mem_singleton.mp hq
    subst e_
    exact ⟨h', yfr_sm K_.2.2.2 hs K_.1 (ywa_s xrlqA_w List.mem_cons_self), ⟨fun a_ j_ => yfr_bp K_.2.2.2 (fun q_ hq => absurd hq List.not_mem_nil), G_⟩⟩
  · cases hq
-- xrlqB: 6 steps, 1 ends, 0 returns
def xrlqB_L : List (Nat × Nat × Nat) := []
def xrlqB_O : yO := [(147, .int 0, .index 148)]
def xrlqB_A : yA := (yZ xrlqB_L, [], [], [], [])
def xrlqB_C : List xB := []
def xrlqB_ss : List yS := [(93, [(3, .arg 9), (6, .arg 8), (5, .arg 5), (4, .arg 4), (0, .index 147), (1, .arg 1), (2, .arg 2)], [.add (.int 20000) (.arg 8), .index 148], [(147, .int 0, .index 148)], [], [])]
def xrlqB_rs : List yR := []
theorem xrlqB_w : ywa xrlqB_A xrlqB_ss xrlqB_rs = true := by decide +kernel
theorem xrlqB_k : yis (yev xrlqB_A 3000 60 25 [93] (82, [(6, .arg 8), (5, .arg 5), (3, .int 1), (4, .arg 4), (0, .index 147), (1, .arg 1), (2, .arg 2)], [.arg 9], xrlqB_O, xrlqB_C, [])) xrlqB_ss xrlqB_rs = true := by decide +kernel
def xrlqB_r (v1_ v2 v4_ v5 v8 v9 : Int32) (k_ : Nat) : Value := bif Nat.beq k_ 1 then .int v1_ else (bif Nat.beq k_ 2 then .int v2 else (bif Nat.beq k_ 4 then .int v4_ else (bif Nat.beq k_ 5 then .int v5 else (bif Nat.beq k_ 8 then .int v8 else (bif Nat.beq k_ 9 then .int v9 else (.int 0))))))
def xrlqB_s (n_ : Nat) : Nat := 0
theorem xrlqB {h_ : xH} {v1_ v2 v4_ v5 v8 v9 : Int32} (hs : sHp h_) : ∃ h', ysm h_ h' ∧ (((∀ a_ j_ : Nat, bpat h' a_ j_ = bpat h_ a_ j_) ∧ (bldD 60 25 82 [(6, .int v8), (5, .int v5), (3, .int (1 : Int32)), (4, .int v4_), (0, .index 147), (1, .int v1_), (2, .int v2)] [.int v9] h_ 93 [(3, .int v9), (6, .int v8), (5, .int v5), (4, .int v4_), (0, .index 147), (1, .int v1_), (2, .int v2)] [.int ((20000 : Int32) + v8), .index 148] h'))) := by
  have hA : yas xrlqB_A (xrlqB_r v1_ v2 v4_ v5 v8 v9) (yg xrlqB_s) := ⟨fun q_ hq => absurd hq List.not_mem_nil, fun q_ hq => absurd hq List.not_mem_nil, fun q_ hq => absurd hq List.not_mem_nil, fun n_ hn => yg_lo hn, fun q_ hq => absurd hq List.not_mem_nil⟩
  have Hs : ysh xrlqB_A.1 (yg xrlqB_s) h_ := ysh_of2 hs (fun q_ hq => absurd hq List.not_mem_nil)
  have Ho : ymem (xrlqB_r v1_ v2 v4_ v5 v8 v9) (yg xrlqB_s) xrlqB_O h_ := List.forall_mem_cons.mpr ⟨bpat_some (fxr_at hs.2 (show fxk fxl 147 0 = some 148 by decide +kernel)), fun q_ hq => absurd hq List.not_mem_nil⟩
  have HC : ∀ q_ ∈ xrlqB_C, xhold (xrlqB_r v1_ v2 v4_ v5 v8 v9) q_ := fun q_ hq => absurd hq List.not_mem_nil
  rcases yrun (yis_ok xrlqB_k) hA Hs Ho HC with ⟨q_, hq, h', K_, G_⟩ | ⟨q_, hq, h', K_, G_⟩
  · have e_ := List.mem_singleton.mp hq
    subst e_
    exact ⟨h', yfr_sm K_.2.2.2 hs K_.1 (ywa_s xrlqB_w List.mem_cons_self), ⟨fun a_ j_ => yfr_bp K_.2.2.2 (fun q_ hq => absurd hq List.not_mem_nil), G_⟩⟩
  · cases hq
-- xrlr: 3 steps, 1 ends, 0 returns
def xrlr_L : List (Nat × Nat × Nat) := []
def xrlr_O : yO := []
def xrlr_A : yA := (yZ xrlr_L, [], [], [], [])
def xrlr_C : List xB := []
def xrlr_ss : List yS := [(36, [(5, .add (.arg 5) (.int 1)), (3, .arg 9), (6, .arg 8), (4, .arg 4), (0, .index 147), (1, .arg 1), (2, .arg 2)], [], [], [], [])]
def xrlr_rs : List yR := []
theorem xrlr_w : ywa xrlr_A xrlr_ss xrlr_rs = true := by decide +kernel
theorem xrlr_k : yis (yev xrlr_A 3000 60 25 [36] (96, [(3, .arg 9), (6, .arg 8), (5, .arg 5), (4, .arg 4), (0, .index 147), (1, .arg 1), (2, .arg 2)], [.arg 10], xrlr_O, xrlr_C, [])) xrlr_ss xrlr_rs = true := by decide +kernel
def xrlr_r (v1_ v2 v4_ v5 v8 v9 v10 : Int32) (k_ : Nat) : Value := bif Nat.beq k_ 1 then .int v1_ else (bif Nat.beq k_ 2 then .int v2 else (bif Nat.beq k_ 4 then .int v4_ else (bif Nat.beq k_ 5 then .int v5 else (bif Nat.beq k_ 8 then .int v8 else (bif Nat.beq k_ 9 then .int v9 else (bif Nat.beq k_ 10 then .int v10 else (.int 0)))))))
def xrlr_s (n_ : Nat) : Nat := 0
theorem xrlr {h_ : xH} {v1_ v2 v4_ v5 v8 v9 v10 : Int32} (hs : sHp h_) : ∃ h', ysm h_ h' ∧ (((∀ a_ j_ : Nat, bpat h' a_ j_ = bpat h_ a_ j_) ∧ (bldD 60 25 96 [(3, .int v9), (6, .int v8), (5, .int v5), (4, .int v4_), (0, .index 147), (1, .int v1_), (2, .int v2)] [.int v10] h_ 36 [(5, .int (v5 + (1 : Int32))), (3, .int v9), (6, .int v8), (4, .int v4_), (0, .index 147), (1, .int v1_), (2, .int v2)] [] h'))) := by
  have hA : yas xrlr_A (xrlr_r v1_ v2 v4_ v5 v8 v9 v10) (yg xrlr_s) := ⟨fun q_ hq => absurd hq List.not_mem_nil, fun q_ hq => absurd hq List.not_mem_nil, fun q_ hq => absurd hq List.not_mem_nil, fun n_ hn => yg_lo hn, fun q_ hq => absurd hq List.not_mem_nil⟩
  have Hs : ysh xrlr_A.1 (yg xrlr_s) h_ := ysh_of2 hs (fun q_ hq => absurd hq List.not_mem_nil)
  have Ho : ymem (xrlr_r v1_ v2 v4_ v5 v8 v9 v10) (yg xrlr_s) xrlr_O h_ := fun q_ hq => absurd hq List.not_mem_nil
  have HC : ∀ q_ ∈ xrlr_C, xhold (xrlr_r v1_ v2 v4_ v5 v8 v9 v10) q_ := fun q_ hq => absurd hq List.not_mem_nil
  rcases yrun (yis_ok xrlr_k) hA Hs Ho HC with ⟨q_, hq, h', K_, G_⟩ | ⟨q_, hq, h', K_, G_⟩
  · have e_ := List.mem_singleton.mp hq
    subst e_
    exact ⟨h', yfr_sm K_.2.2.2 hs K_.1 (ywa_s xrlr_w List.mem_cons_self), ⟨fun a_ j_ => yfr_bp K_.2.2.2 (fun q_ hq => absurd hq List.not_mem_nil), G_⟩⟩
  · cases hq
-- xq0: 1 steps, 1 ends, 0 returns
def xq0_L : List (Nat × Nat × Nat) := []
def xq0_O : yO := []
def xq0_A : yA := (yZ xq0_L, [], [], [], [])
def xq0_C : List xB := []
def xq0_ss : List yS := [(1, [(0, .index 147), (1, .arg 1)], [.index 147], [], [], [])]
def xq0_rs : List yR := []
theorem xq0_w : ywa xq0_A xq0_ss xq0_rs = true := by decide +kernel
theorem xq0_k : yis (yev xq0_A 3000 60 26 [1] (0, [(0, .index 147), (1, .arg 1)], [], xq0_O, xq0_C, [])) xq0_ss xq0_rs = true := by decide +kernel
def xq0_r (v1_ : Int32) (k_ : Nat) : Value := bif Nat.beq k_ 1 then .int v1_ else (.int 0)
def xq0_s (n_ : Nat) : Nat := 0
theorem xq0 {h_ : xH} {v1_ : Int32} (hs : sHp h_) : ∃ h', ysm h_ h' ∧ (((∀ a_ j_ : Nat, bpat h' a_ j_ = bpat h_ a_ j_) ∧ (bldD 60 26 0 [(0, .index 147), (1, .int v1_)] [] h_ 1 [(0, .index 147), (1, .int v1_)] [.index 147] h'))) := by
  have hA : yas xq0_A (xq0_r v1_) (yg xq0_s) := ⟨fun q_ hq => absurd hq List.not_mem_nil, fun q_ hq => absurd hq List.not_mem_nil, fun q_ hq => absurd hq List.not_mem_nil, fun n_ hn => yg_lo hn, fun q_ hq => absurd hq List.not_mem_nil⟩
  have Hs : ysh xq0_A.1 (yg xq0_s) h_ := ysh_of2 hs (fun q_ hq => absurd hq List.not_mem_nil)
  have Ho : ymem (xq0_r v1_) (yg xq0_s) xq0_O h_ := fun q_ hq => absurd hq List.not_mem_nil
  have HC : ∀ q_ ∈ xq0_C, xhold (xq0_r v1_) q_ := fun q_ hq => absurd hq List.not_mem_nil
  rcases yrun (yis_ok xq0_k) hA Hs Ho HC with ⟨q_, hq, h', K_, G_⟩ | ⟨q_, hq, h', K_, G_⟩
  · have e_ := List.mem_singleton.mp hq
    subst e_
    exact ⟨h', yfr_sm K_.2.2.2 hs K_.1 (ywa_s xq0_w List.mem_cons_self), ⟨fun a_ j_ => yfr_bp K_.2.2.2 (fun q_ hq => absurd hq List.not_mem_nil), G_⟩⟩
  · cases hq
-- xqd: 5 steps, 1 ends, 0 returns
def xqd_L : List (Nat × Nat × Nat) := []
def xqd_O : yO := []
def xqd_A : yA := (yZ xqd_L, [], [], [], [(30, [.arg 2], .arg 500)])
def xqd_C : List xB := [(.eq, .arg 500, .int 0, false)]
def xqd_ss : List yS := [(13, [(2, .arg 2), (0, .index 147), (1, .arg 1)], [.index 147], [], [(.eq, .arg 500, .int 0, false)], [])]
def xqd_rs : List yR := []
theorem xqd_w : ywa xqd_A xqd_ss xqd_rs = true := by decide +kernel
theorem xqd_k : yis (yev xqd_A 3000 60 26 [13] (4, [(0, .index 147), (1, .arg 1)], [.arg 2], xqd_O, xqd_C, [])) xqd_ss xqd_rs = true := by decide +kernel
def xqd_r (v1_ v2 v500 : Int32) (k_ : Nat) : Value := bif Nat.beq k_ 1 then .int v1_ else (bif Nat.beq k_ 2 then .int v2 else (bif Nat.beq k_ 500 then .int v500 else (.int 0)))
def xqd_s (n_ : Nat) : Nat := 0
theorem xqd {h_ : xH} {v1_ v2 v500 : Int32} (hs : sHp h_) (p0_ : ∀ (h_ : xH) (D_ : Nat), 5 ≤ D_ → xrun D_ 30 0 [(0, .int v2)] [] h_ (some (.int v500), h_, [])) (c0_ : ¬ v500 = (0 : Int32)) : ∃ h', ysm h_ h' ∧ (((∀ a_ j_ : Nat, bpat h' a_ j_ = bpat h_ a_ j_) ∧ (bldD 60 26 4 [(0, .index 147), (1, .int v1_)] [.int v2] h_ 13 [(2, .int v2), (0, .index 147), (1, .int v1_)] [.index 147] h'))) := by
  have hA : yas xqd_A (xqd_r v1_ v2 v500) (yg xqd_s) := ⟨fun q_ hq => absurd hq List.not_mem_nil, fun q_ hq => absurd hq List.not_mem_nil, fun q_ hq => absurd hq List.not_mem_nil, fun n_ hn => yg_lo hn, List.forall_mem_cons.mpr ⟨p0_, fun q_ hq => absurd hq List.not_mem_nil⟩⟩
  have Hs : ysh xqd_A.1 (yg xqd_s) h_ := ysh_of2 hs (fun q_ hq => absurd hq List.not_mem_nil)
  have Ho : ymem (xqd_r v1_ v2 v500) (yg xqd_s) xqd_O h_ := fun q_ hq => absurd hq List.not_mem_nil
  have HC : ∀ q_ ∈ xqd_C, xhold (xqd_r v1_ v2 v500) q_ := List.forall_mem_cons.mpr ⟨xh_eqF2 c0_, fun q_ hq => absurd hq List.not_mem_nil⟩
  rcases yrun (yis_ok xqd_k) hA Hs Ho HC with ⟨q_, hq, h', K_, G_⟩ | ⟨q_, hq, h', K_, G_⟩
  · have e_ := List.mem_singleton.mp hq
    subst e_
    exact ⟨h', yfr_sm K_.2.2.2 hs K_.1 (ywa_s xqd_w List.mem_cons_self), ⟨fun a_ j_ => yfr_bp K_.2.2.2 (fun q_ hq => absurd hq List.not_mem_nil), G_⟩⟩
  · cases hq
-- xqn: 4 steps, 1 ends, 0 returns
def xqn_L : List (Nat × Nat × Nat) := []
def xqn_O : yO := []
def xqn_A : yA := (yZ xqn_L, [], [], [], [(30, [.arg 2], .arg 500)])
def xqn_C : List xB := [(.eq, .arg 500, .int 0, true)]
def xqn_ss : List yS := [(18, [(2, .arg 2), (0, .index 147), (1, .arg 1)], [], [], [(.eq, .arg 500, .int 0, true)], [])]
def xqn_rs : List yR := []
theorem xqn_w : ywa xqn_A xqn_ss xqn_rs = true := by decide +kernel
theorem xqn_k : yis (yev xqn_A 3000 60 26 [18] (4, [(0, .index 147), (1, .arg 1)], [.arg 2], xqn_O, xqn_C, [])) xqn_ss xqn_rs = true := by decide +kernel
def xqn_r (v1_ v2 v500 : Int32) (k_ : Nat) : Value := bif Nat.beq k_ 1 then .int v1_ else (bif Nat.beq k_ 2 then .int v2 else (bif Nat.beq k_ 500 then .int v500 else (.int 0)))
def xqn_s (n_ : Nat) : Nat := 0
theorem xqn {h_ : xH} {v1_ v2 v500 : Int32} (hs : sHp h_) (p0_ : ∀ (h_ : xH) (D_ : Nat), 5 ≤ D_ → xrun D_ 30 0 [(0, .int v2)] [] h_ (some (.int v500), h_, [])) (c0_ : v500 = (0 : Int32)) : ∃ h', ysm h_ h' ∧ (((∀ a_ j_ : Nat, bpat h' a_ j_ = bpat h_ a_ j_) ∧ (bldD 60 26 4 [(0, .index 147), (1, .int v1_)] [.int v2] h_ 18 [(2, .int v2), (0, .index 147), (1, .int v1_)] [] h'))) := by
  have hA : yas xqn_A (xqn_r v1_ v2 v500) (yg xqn_s) := ⟨fun q_ hq => absurd hq List.not_mem_nil, fun q_ hq => absurd hq List.not_mem_nil, fun q_ hq => absurd hq List.not_mem_nil, fun n_ hn => yg_lo hn, List.forall_mem_cons.mpr ⟨p0_, fun q_ hq => absurd hq List.not_mem_nil⟩⟩
  have Hs : ysh xqn_A.1 (yg xqn_s) h_ := ysh_of2 hs (fun q_ hq => absurd hq List.not_mem_nil)
  have Ho : ymem (xqn_r v1_ v2 v500) (yg xqn_s) xqn_O h_ := fun q_ hq => absurd hq List.not_mem_nil
  have HC : ∀ q_ ∈ xqn_C, xhold (xqn_r v1_ v2 v500) q_ := List.forall_mem_cons.mpr ⟨xh_eqT2 c0_, fun q_ hq => absurd hq List.not_mem_nil⟩
  rcases yrun (yis_ok xqn_k) hA Hs Ho HC with ⟨q_, hq, h', K_, G_⟩ | ⟨q_, hq, h', K_, G_⟩
  · have e_ := List.mem_singleton.mp hq
    subst e_
    exact ⟨h', yfr_sm K_.2.2.2 hs K_.1 (ywa_s xqn_w List.mem_cons_self), ⟨fun a_ j_ => yfr_bp K_.2.2.2 (fun q_ hq => absurd hq List.not_mem_nil), G_⟩⟩
  · cases hq
-- xqr: 2 steps, 0 ends, 1 returns
def xqr_L : List (Nat × Nat × Nat) := []
def xqr_O : yO := []
def xqr_A : yA := (yZ xqr_L, [], [], [], [])
def xqr_C : List xB := []
def xqr_ss : List yS := []
def xqr_rs : List yR := [(some (.int 1), [], [], [])]
theorem xqr_w : ywa xqr_A xqr_ss xqr_rs = true := by decide +kernel
theorem xqr_k : yis (yev xqr_A 3000 60 26 [] (16, [(2, .arg 2), (0, .index 147), (1, .arg 1)], [], xqr_O, xqr_C, [])) xqr_ss xqr_rs = true := by decide +kernel
def xqr_r (v1_ v2 : Int32) (k_ : Nat) : Value := bif Nat.beq k_ 1 then .int v1_ else (bif Nat.beq k_ 2 then .int v2 else (.int 0))
def xqr_s (n_ : Nat) : Nat := 0
theorem xqr {h_ : xH} {v1_ v2 : Int32} (hs : sHp h_) : ∃ h', ysm h_ h' ∧ (((∀ a_ j_ : Nat, bpat h' a_ j_ = bpat h_ a_ j_) ∧ (∀ D_, 60 ≤ D_ → xrun D_ 26 16 [(2, .int v2), (0, .index 147), (1, .int v1_)] [] h_ (some (.int (1 : Int32)), h', [])))) := by
  have hA : yas xqr_A (xqr_r v1_ v2) (yg xqr_s) := ⟨fun q_ hq => absurd hq List.not_mem_nil, fun q_ hq => absurd hq List.not_mem_nil, fun q_ hq => absurd hq List.not_mem_nil, fun n_ hn => yg_lo hn, fun q_ hq => absurd hq List.not_mem_nil⟩
  have Hs : ysh xqr_A.1 (yg xqr_s) h_ := ysh_of2 hs (fun q_ hq => absurd hq List.not_mem_nil)
  have Ho : ymem (xqr_r v1_ v2) (yg xqr_s) xqr_O h_ := fun q_ hq => absurd hq List.not_mem_nil
  have HC : ∀ q_ ∈ xqr_C, xhold (xqr_r v1_ v2) q_ := fun q_ hq => absurd hq List.not_mem_nil
  rcases yrun (yis_ok xqr_k) hA Hs Ho HC with ⟨q_, hq, h', K_, G_⟩ | ⟨q_, hq, h', K_, G_⟩
  · cases hq
  · have e_ := List.mem_singleton.mp hq
    subst e_
    exact ⟨h', yfr_sm K_.2.2.2 hs K_.1 (ywa_r xqr_w List.mem_cons_self), ⟨fun a_ j_ => yfr_bp K_.2.2.2 (fun q_ hq => absurd hq List.not_mem_nil), G_⟩⟩
-- xqm: 4 steps, 1 ends, 0 returns
def xqm_L : List (Nat × Nat × Nat) := []
def xqm_O : yO := []
def xqm_A : yA := (yZ xqm_L, [], [], [], [])
def xqm_C : List xB := [(.lt, .arg 2, .int 0, true)]
def xqm_ss : List yS := [(35, [(2, .arg 2), (0, .index 147), (1, .arg 1)], [.int (Int32.ofInt (-1))], [], [(.lt, .arg 2, .int 0, true)], [])]
def xqm_rs : List yR := []
theorem xqm_w : ywa xqm_A xqm_ss xqm_rs = true := by decide +kernel
theorem xqm_k : yis (yev xqm_A 3000 60 26 [35] (18, [(2, .arg 2), (0, .index 147), (1, .arg 1)], [], xqm_O, xqm_C, [])) xqm_ss xqm_rs = true := by decide +kernel
def xqm_r (v1_ v2 : Int32) (k_ : Nat) : Value := bif Nat.beq k_ 1 then .int v1_ else (bif Nat.beq k_ 2 then .int v2 else (.int 0))
def xqm_s (n_ : Nat) : Nat := 0
theorem xqm {h_ : xH} {v1_ v2 : Int32} (hs : sHp h_) (c0_ : v2.toInt < (0 : Int32).toInt) : ∃ h', ysm h_ h' ∧ (((∀ a_ j_ : Nat, bpat h' a_ j_ = bpat h_ a_ j_) ∧ (bldD 60 26 18 [(2, .int v2), (0, .index 147), (1, .int v1_)] [] h_ 35 [(2, .int v2), (0, .index 147), (1, .int v1_)] [.int (Int32.ofInt (-1))] h'))) := by
  have hA : yas xqm_A (xqm_r v1_ v2) (yg xqm_s) := ⟨fun q_ hq => absurd hq List.not_mem_nil, fun q_ hq => absurd hq List.not_mem_nil, fun q_ hq => absurd hq List.not_mem_nil, fun n_ hn => yg_lo hn, fun q_ hq => absurd hq List.not_mem_nil⟩
  have Hs : ysh xqm_A.1 (yg xqm_s) h_ := ysh_of2 hs (fun q_ hq => absurd hq List.not_mem_nil)
  have Ho : ymem (xqm_r v1_ v2) (yg xqm_s) xqm_O h_ := fun q_ hq => absurd hq List.not_mem_nil
  have HC : ∀ q_ ∈ xqm_C, xhold (xqm_r v1_ v2) q_ := List.forall_mem_cons.mpr ⟨xh_ltT c0_, fun q_ hq => absurd hq List.not_mem_nil⟩
  rcases yrun (yis_ok xqm_k) hA Hs Ho HC with ⟨q_, hq, h', K_, G_⟩ | ⟨q_, hq, h', K_, G_⟩
  · have e_ := List.mem_singleton.mp hq
    subst e_
    exact ⟨h', yfr_sm K_.2.2.2 hs K_.1 (ywa_s xqm_w List.mem_cons_self), ⟨fun a_ j_ => yfr_bp K_.2.2.2 (fun q_ hq => absurd hq List.not_mem_nil), G_⟩⟩
  · cases hq
-- xqi0: 6 steps, 1 ends, 0 returns
def xqi0_L : List (Nat × Nat × Nat) := []
def xqi0_O : yO := [(147, .int 2, .arg 102)]
def xqi0_A : yA := (yZ xqi0_L, [], [], [], [])
def xqi0_C : List xB := [(.lt, .arg 2, .int 0, false)]
def xqi0_ss : List yS := [(32, [(2, .arg 2), (0, .index 147), (1, .arg 1)], [.op1 .i2c (.arg 2), .arg 102], [(147, .int 2, .arg 102)], [(.lt, .arg 2, .int 0, false)], [])]
def xqi0_rs : List yR := []
theorem xqi0_w : ywa xqi0_A xqi0_ss xqi0_rs = true := by decide +kernel
theorem xqi0_k : yis (yev xqi0_A 3000 60 26 [32] (18, [(2, .arg 2), (0, .index 147), (1, .arg 1)], [], xqi0_O, xqi0_C, [])) xqi0_ss xqi0_rs = true := by decide +kernel
def xqi0_r (v1_ v2 : Int32) (k_ : Nat) : Value := bif Nat.beq k_ 1 then .int v1_ else (bif Nat.beq k_ 2 then .int v2 else (.int 0))
def xqi0_s (n_ : Nat) : Nat := 0
theorem xqi0 {h_ : xH} {v1_ v2 : Int32} (hs : sHp h_) (o0_ : bpat h_ 147 2 = some (.arg 102)) (c0_ : (0 : Int32).toInt ≤ v2.toInt) : ∃ h', ysm h_ h' ∧ (((∀ a_ j_ : Nat, bpat h' a_ j_ = bpat h_ a_ j_) ∧ (bldD 60 26 18 [(2, .int v2), (0, .index 147), (1, .int v1_)] [] h_ 32 [(2, .int v2), (0, .index 147), (1, .int v1_)] [.int ((v2).toUInt32 % 65536).toInt32, .arg 102] h'))) := by
  have hA : yas xqi0_A (xqi0_r v1_ v2) (yg xqi0_s) := ⟨fun q_ hq => absurd hq List.not_mem_nil, fun q_ hq => absurd hq List.not_mem_nil, fun q_ hq => absurd hq List.not_mem_nil, fun n_ hn => yg_lo hn, fun q_ hq => absurd hq List.not_mem_nil⟩
  have Hs : ysh xqi0_A.1 (yg xqi0_s) h_ := ysh_of2 hs (fun q_ hq => absurd hq List.not_mem_nil)
  have Ho : ymem (xqi0_r v1_ v2) (yg xqi0_s) xqi0_O h_ := List.forall_mem_cons.mpr ⟨bpat_some o0_, fun q_ hq => absurd hq List.not_mem_nil⟩
  have HC : ∀ q_ ∈ xqi0_C, xhold (xqi0_r v1_ v2) q_ := List.forall_mem_cons.mpr ⟨xh_ltF c0_, fun q_ hq => absurd hq List.not_mem_nil⟩
  rcases yrun (yis_ok xqi0_k) hA Hs Ho HC with ⟨q_, hq, h', K_, G_⟩ | ⟨q_, hq, h', K_, G_⟩
  · have e_ := List.mem_singleton.mp hq
    subst e_
    exact ⟨h', yfr_sm K_.2.2.2 hs K_.1 (ywa_s xqi0_w List.mem_cons_self), ⟨fun a_ j_ => yfr_bp K_.2.2.2 (fun q_ hq => absurd hq List.not_mem_nil), G_⟩⟩
  · cases hq
-- xqi1: 6 steps, 1 ends, 0 returns
def xqi1_L : List (Nat × Nat × Nat) := []
def xqi1_O : yO := [(147, .int 2, .arg 103)]
def xqi1_A : yA := (yZ xqi1_L, [], [], [], [])
def xqi1_C : List xB := [(.lt, .arg 2, .int 0, false)]
def xqi1_ss : List yS := [(32, [(2, .arg 2), (0, .index 147), (1, .arg 1)], [.op1 .i2c (.arg 2), .arg 103], [(147, .int 2, .arg 103)], [(.lt, .arg 2, .int 0, false)], [])]
def xqi1_rs : List yR := []
theorem xqi1_w : ywa xqi1_A xqi1_ss xqi1_rs = true := by decide +kernel
theorem xqi1_k : yis (yev xqi1_A 3000 60 26 [32] (18, [(2, .arg 2), (0, .index 147), (1, .arg 1)], [], xqi1_O, xqi1_C, [])) xqi1_ss xqi1_rs = true := by decide +kernel
def xqi1_r (v1_ v2 : Int32) (k_ : Nat) : Value := bif Nat.beq k_ 1 then .int v1_ else (bif Nat.beq k_ 2 then .int v2 else (.int 0))
def xqi1_s (n_ : Nat) : Nat := 0
theorem xqi1 {h_ : xH} {v1_ v2 : Int32} (hs : sHp h_) (o0_ : bpat h_ 147 2 = some (.arg 103)) (c0_ : (0 : Int32).toInt ≤ v2.toInt) : ∃ h', ysm h_ h' ∧ (((∀ a_ j_ : Nat, bpat h' a_ j_ = bpat h_ a_ j_) ∧ (bldD 60 26 18 [(2, .int v2), (0, .index 147), (1, .int v1_)] [] h_ 32 [(2, .int v2), (0, .index 147), (1, .int v1_)] [.int ((v2).toUInt32 % 65536).toInt32, .arg 103] h'))) := by
  have hA : yas xqi1_A (xqi1_r v1_ v2) (yg xqi1_s) := ⟨fun q_ hq => absurd hq List.not_mem_nil, fun q_ hq => absurd hq List.not_mem_nil, fun q_ hq => absurd hq List.not_mem_nil, fun n_ hn => yg_lo hn, fun q_ hq => absurd hq List.not_mem_nil⟩
  have Hs : ysh xqi1_A.1 (yg xqi1_s) h_ := ysh_of2 hs (fun q_ hq => absurd hq List.not_mem_nil)
  have Ho : ymem (xqi1_r v1_ v2) (yg xqi1_s) xqi1_O h_ := List.forall_mem_cons.mpr ⟨bpat_some o0_, fun q_ hq => absurd hq List.not_mem_nil⟩
  have HC : ∀ q_ ∈ xqi1_C, xhold (xqi1_r v1_ v2) q_ := List.forall_mem_cons.mpr ⟨xh_ltF c0_, fun q_ hq => absurd hq List.not_mem_nil⟩
  rcases yrun (yis_ok xqi1_k) hA Hs Ho HC with ⟨q_, hq, h', K_, G_⟩ | ⟨q_, hq, h', K_, G_⟩
  · have e_ := List.mem_singleton.mp hq
    subst e_
    exact ⟨h', yfr_sm K_.2.2.2 hs K_.1 (ywa_s xqi1_w List.mem_cons_self), ⟨fun a_ j_ => yfr_bp K_.2.2.2 (fun q_ hq => absurd hq List.not_mem_nil), G_⟩⟩
  · cases hq
-- xqa: 14 steps, 1 ends, 0 returns
def xqa_L : List (Nat × Nat × Nat) := []
def xqa_O : yO := [(147, .int 3, .arg 300), (147, .int 0, .index 148)]
def xqa_A : yA := (yZ xqa_L, [], [], [], [])
def xqa_C : List xB := [(.lt, .arg 3, .int 0, false)]
def xqa_ss : List yS := [(59, [(3, .arg 3), (2, .arg 2), (0, .index 147), (1, .arg 1)], [.add (.int 10000) (.arg 3), .index 148], [(147, .int 3, .add (.arg 300) (.int 1)), (147, .int 0, .index 148)], [(.lt, .arg 3, .int 0, false)], [(147, .int 3)])]
def xqa_rs : List yR := []
theorem xqa_w : ywa xqa_A xqa_ss xqa_rs = true := by decide +kernel
theorem xqa_k : yis (yev xqa_A 3000 60 26 [59] (35, [(2, .arg 2), (0, .index 147), (1, .arg 1)], [.arg 3], xqa_O, xqa_C, [])) xqa_ss xqa_rs = true := by decide +kernel
def xqa_r (v1_ v2 v3 v300 : Int32) (k_ : Nat) : Value := bif Nat.beq k_ 1 then .int v1_ else (bif Nat.beq k_ 2 then .int v2 else (bif Nat.beq k_ 3 then .int v3 else (bif Nat.beq k_ 300 then .int v300 else (.int 0))))
def xqa_s (n_ : Nat) : Nat := 0
theorem xqa {h_ : xH} {v1_ v2 v3 v300 : Int32} (hs : sHp h_) (o0_ : bpat h_ 147 3 = some (.int v300)) (c0_ : (0 : Int32).toInt ≤ v3.toInt) : ∃ h', ysm h_ h' ∧ (((bpat h' 147 3 = some (.int (v300 + (1 : Int32)))) ∧ (∀ a_ j_ : Nat, ¬ (a_ = 147 ∧ j_ = 3) → bpat h' a_ j_ = bpat h_ a_ j_) ∧ (bldD 60 26 35 [(2, .int v2), (0, .index 147), (1, .int v1_)] [.int v3] h_ 59 [(3, .int v3), (2, .int v2), (0, .index 147), (1, .int v1_)] [.int ((10000 : Int32) + v3), .index 148] h'))) := by
  have hA : yas xqa_A (xqa_r v1_ v2 v3 v300) (yg xqa_s) := ⟨fun q_ hq => absurd hq List.not_mem_nil, fun q_ hq => absurd hq List.not_mem_nil, fun q_ hq => absurd hq List.not_mem_nil, fun n_ hn => yg_lo hn, fun q_ hq => absurd hq List.not_mem_nil⟩
  have Hs : ysh xqa_A.1 (yg xqa_s) h_ := ysh_of2 hs (fun q_ hq => absurd hq List.not_mem_nil)
  have Ho : ymem (xqa_r v1_ v2 v3 v300) (yg xqa_s) xqa_O h_ := List.forall_mem_cons.mpr ⟨bpat_some o0_, List.forall_mem_cons.mpr ⟨bpat_some (fxr_at hs.2 (show fxk fxl 147 0 = some 148 by decide +kernel)), fun q_ hq => absurd hq List.not_mem_nil⟩⟩
  have HC : ∀ q_ ∈ xqa_C, xhold (xqa_r v1_ v2 v3 v300) q_ := List.forall_mem_cons.mpr ⟨xh_ltF c0_, fun q_ hq => absurd hq List.not_mem_nil⟩
  rcases yrun (yis_ok xqa_k) hA Hs Ho HC with ⟨q_, hq, h', K_, G_⟩ | ⟨q_, hq, h', K_, G_⟩
  · have e_ := List.mem_singleton.mp hq
    subst e_
    exact ⟨h', yfr_sm K_.2.2.2 hs K_.1 (ywa_s xqa_w List.mem_cons_self), ⟨bpat_of (K_.2.1 _ List.mem_cons_self), fun a_ j_ n0_ => yfr_bp K_.2.2.2 (List.forall_mem_cons.mpr ⟨fun e_ => n0_ ⟨e_.1.symm, e_.2.symm⟩, fun q_ hq => absurd hq List.not_mem_nil⟩), G_⟩⟩
  · cases hq
-- xqb: 3 steps, 0 ends, 1 returns
def xqb_L : List (Nat × Nat × Nat) := []
def xqb_O : yO := []
def xqb_A : yA := (yZ xqb_L, [], [], [], [])
def xqb_C : List xB := []
def xqb_ss : List yS := []
def xqb_rs : List yR := [(some (.int 1), [], [], [])]
theorem xqb_w : ywa xqb_A xqb_ss xqb_rs = true := by decide +kernel
theorem xqb_k : yis (yev xqb_A 3000 60 26 [] (62, [(3, .arg 3), (2, .arg 2), (0, .index 147), (1, .arg 1)], [.arg 4], xqb_O, xqb_C, [])) xqb_ss xqb_rs = true := by decide +kernel
def xqb_r (v1_ v2 v3 v4_ : Int32) (k_ : Nat) : Value := bif Nat.beq k_ 1 then .int v1_ else (bif Nat.beq k_ 2 then .int v2 else (bif Nat.beq k_ 3 then .int v3 else (bif Nat.beq k_ 4 then .int v4_ else (.int 0))))
def xqb_s (n_ : Nat) : Nat := 0
theorem xqb {h_ : xH} {v1_ v2 v3 v4_ : Int32} (hs : sHp h_) : ∃ h', ysm h_ h' ∧ (((∀ a_ j_ : Nat, bpat h' a_ j_ = bpat h_ a_ j_) ∧ (∀ D_, 60 ≤ D_ → xrun D_ 26 62 [(3, .int v3), (2, .int v2), (0, .index 147), (1, .int v1_)] [.int v4_] h_ (some (.int (1 : Int32)), h', [])))) := by
  have hA : yas xqb_A (xqb_r v1_ v2 v3 v4_) (yg xqb_s) := ⟨fun q_ hq => absurd hq List.not_mem_nil, fun q_ hq => absurd hq List.not_mem_nil, fun q_ hq => absurd hq List.not_mem_nil, fun n_ hn => yg_lo hn, fun q_ hq => absurd hq List.not_mem_nil⟩
  have Hs : ysh xqb_A.1 (yg xqb_s) h_ := ysh_of2 hs (fun q_ hq => absurd hq List.not_mem_nil)
  have Ho : ymem (xqb_r v1_ v2 v3 v4_) (yg xqb_s) xqb_O h_ := fun q_ hq => absurd hq List.not_mem_nil
  have HC : ∀ q_ ∈ xqb_C, xhold (xqb_r v1_ v2 v3 v4_) q_ := fun q_ hq => absurd hq List.not_mem_nil
  rcases yrun (yis_ok xqb_k) hA Hs Ho HC with ⟨q_, hq, h', K_, G_⟩ | ⟨q_, hq, h', K_, G_⟩
  · cases hq
  · have e_ := List.mem_singleton.mp hq
    subst e_
    exact ⟨h', yfr_sm K_.2.2.2 hs K_.1 (ywa_r xqb_w List.mem_cons_self), ⟨fun a_ j_ => yfr_bp K_.2.2.2 (fun q_ hq => absurd hq List.not_mem_nil), G_⟩⟩
-- xqc: 3 steps, 1 ends, 0 returns
def xqc_L : List (Nat × Nat × Nat) := []
def xqc_O : yO := []
def xqc_A : yA := (yZ xqc_L, [], [], [], [])
def xqc_C : List xB := [(.lt, .arg 3, .int 0, true)]
def xqc_ss : List yS := [(65, [(3, .arg 3), (2, .arg 2), (0, .index 147), (1, .arg 1)], [], [], [(.lt, .arg 3, .int 0, true)], [])]
def xqc_rs : List yR := []
theorem xqc_w : ywa xqc_A xqc_ss xqc_rs = true := by decide +kernel
theorem xqc_k : yis (yev xqc_A 3000 60 26 [65] (35, [(2, .arg 2), (0, .index 147), (1, .arg 1)], [.arg 3], xqc_O, xqc_C, [])) xqc_ss xqc_rs = true := by decide +kernel
def xqc_r (v1_ v2 v3 : Int32) (k_ : Nat) : Value := bif Nat.beq k_ 1 then .int v1_ else (bif Nat.beq k_ 2 then .int v2 else (bif Nat.beq k_ 3 then .int v3 else (.int 0)))
def xqc_s (n_ : Nat) : Nat := 0
theorem xqc {h_ : xH} {v1_ v2 v3 : Int32} (hs : sHp h_) (c0_ : v3.toInt < (0 : Int32).toInt) : ∃ h', ysm h_ h' ∧ (((∀ a_ j_ : Nat, bpat h' a_ j_ = bpat h_ a_ j_) ∧ (bldD 60 26 35 [(2, .int v2), (0, .index 147), (1, .int v1_)] [.int v3] h_ 65 [(3, .int v3), (2, .int v2), (0, .index 147), (1, .int v1_)] [] h'))) := by
  have hA : yas xqc_A (xqc_r v1_ v2 v3) (yg xqc_s) := ⟨fun q_ hq => absurd hq List.not_mem_nil, fun q_ hq => absurd hq List.not_mem_nil, fun q_ hq => absurd hq List.not_mem_nil, fun n_ hn => yg_lo hn, fun q_ hq => absurd hq List.not_mem_nil⟩
  have Hs : ysh xqc_A.1 (yg xqc_s) h_ := ysh_of2 hs (fun q_ hq => absurd hq List.not_mem_nil)
  have Ho : ymem (xqc_r v1_ v2 v3) (yg xqc_s) xqc_O h_ := fun q_ hq => absurd hq List.not_mem_nil
  have HC : ∀ q_ ∈ xqc_C, xhold (xqc_r v1_ v2 v3) q_ := List.forall_mem_cons.mpr ⟨xh_ltT c0_, fun q_ hq => absurd hq List.not_mem_nil⟩
  rcases yrun (yis_ok xqc_k) hA Hs Ho HC with ⟨q_, hq, h', K_, G_⟩ | ⟨q_, hq, h', K_, G_⟩
  · have e_ := List.mem_singleton.mp hq
    subst e_
    exact ⟨h', yfr_sm K_.2.2.2 hs K_.1 (ywa_s xqc_w List.mem_cons_self), ⟨fun a_ j_ => yfr_bp K_.2.2.2 (fun q_ hq => absurd hq List.not_mem_nil), G_⟩⟩
  · cases hq
-- xqo: 5 steps, 0 ends, 1 returns
def xqo_L : List (Nat × Nat × Nat) := []
def xqo_O : yO := []
def xqo_A : yA := (yZ xqo_L, [], [], [], [])
def xqo_C : List xB := [(.lt, .arg 1, .int 5, false)]
def xqo_ss : List yS := []
def xqo_rs : List yR := [(some (.int 0), [], [(.lt, .arg 1, .int 5, false)], [])]
theorem xqo_w : ywa xqo_A xqo_ss xqo_rs = true := by decide +kernel
theorem xqo_k : yis (yev xqo_A 3000 60 26 [] (65, [(3, .arg 3), (2, .arg 2), (0, .index 147), (1, .arg 1)], [], xqo_O, xqo_C, [])) xqo_ss xqo_rs = true := by decide +kernel
def xqo_r (v1_ v2 v3 : Int32) (k_ : Nat) : Value := bif Nat.beq k_ 1 then .int v1_ else (bif Nat.beq k_ 2 then .int v2 else (bif Nat.beq k_ 3 then .int v3 else (.int 0)))
def xqo_s (n_ : Nat) : Nat := 0
theorem xqo {h_ : xH} {v1_ v2 v3 : Int32} (hs : sHp h_) (c0_ : (5 : Int32).toInt ≤ v1_.toInt) : ∃ h', ysm h_ h' ∧ (((∀ a_ j_ : Nat, bpat h' a_ j_ = bpat h_ a_ j_) ∧ (∀ D_, 60 ≤ D_ → xrun D_ 26 65 [(3, .int v3), (2, .int v2), (0, .index 147), (1, .int v1_)] [] h_ (some (.int (0 : Int32)), h', [])))) := by
  have hA : yas xqo_A (xqo_r v1_ v2 v3) (yg xqo_s) := ⟨fun q_ hq => absurd hq List.not_mem_nil, fun q_ hq => absurd hq List.not_mem_nil, fun q_ hq => absurd hq List.not_mem_nil, fun n_ hn => yg_lo hn, fun q_ hq => absurd hq List.not_mem_nil⟩
  have Hs : ysh xqo_A.1 (yg xqo_s) h_ := ysh_of2 hs (fun q_ hq => absurd hq List.not_mem_nil)
  have Ho : ymem (xqo_r v1_ v2 v3) (yg xqo_s) xqo_O h_ := fun q_ hq => absurd hq List.not_mem_nil
  have HC : ∀ q_ ∈ xqo_C, xhold (xqo_r v1_ v2 v3) q_ := List.forall_mem_cons.mpr ⟨xh_ltF c0_, fun q_ hq => absurd hq List.not_mem_nil⟩
  rcases yrun (yis_ok xqo_k) hA Hs Ho HC with ⟨q_, hq, h', K_, G_⟩ | ⟨q_, hq, h', K_, G_⟩
  · cases hq
  · have e_ := List.mem_singleton.mp hq
    subst e_
    exact ⟨h', yfr_sm K_.2.2.2 hs K_.1 (ywa_r xqo_w List.mem_cons_self), ⟨fun a_ j_ => yfr_bp K_.2.2.2 (fun q_ hq => absurd hq List.not_mem_nil), G_⟩⟩
-- xq33: 10 steps, 1 ends, 0 returns
def xq33_L : List (Nat × Nat × Nat) := []
def xq33_O : yO := []
def xq33_A : yA := (yZ xq33_L, [], [], [], [])
def xq33_C : List xB := [(.lt, .arg 1, .int 5, true), (.eq, .arg 2, .int 33, true)]
def xq33_ss : List yS := [(82, [(3, .arg 3), (2, .arg 2), (0, .index 147), (1, .arg 1)], [.add (.arg 1) (.int 1), .index 147], [], [(.lt, .arg 1, .int 5, true), (.eq, .arg 2, .int 33, true)], [])]
def xq33_rs : List yR := []
theorem xq33_w : ywa xq33_A xq33_ss xq33_rs = true := by decide +kernel
theorem xq33_k : yis (yev xq33_A 3000 60 26 [82] (65, [(3, .arg 3), (2, .arg 2), (0, .index 147), (1, .arg 1)], [], xq33_O, xq33_C, [])) xq33_ss xq33_rs = true := by decide +kernel
def xq33_r (v1_ v2 v3 : Int32) (k_ : Nat) : Value := bif Nat.beq k_ 1 then .int v1_ else (bif Nat.beq k_ 2 then .int v2 else (bif Nat.beq k_ 3 then .int v3 else (.int 0)))
def xq33_s (n_ : Nat) : Nat := 0
theorem xq33 {h_ : xH} {v1_ v2 v3 : Int32} (hs : sHp h_) (c0_ : v1_.toInt < (5 : Int32).toInt) (c1_ : v2 = (33 : Int32)) : ∃ h', ysm h_ h' ∧ (((∀ a_ j_ : Nat, bpat h' a_ j_ = bpat h_ a_ j_) ∧ (bldD 60 26 65 [(3, .int v3), (2, .int v2), (0, .index 147), (1, .int v1_)] [] h_ 82 [(3, .int v3), (2, .int v2), (0, .index 147), (1, .int v1_)] [.int (v1_ + (1 : Int32)), .index 147] h'))) := by
  have hA : yas xq33_A (xq33_r v1_ v2 v3) (yg xq33_s) := ⟨fun q_ hq => absurd hq List.not_mem_nil, fun q_ hq => absurd hq List.not_mem_nil, fun q_ hq => absurd hq List.not_mem_nil, fun n_ hn => yg_lo hn, fun q_ hq => absurd hq List.not_mem_nil⟩
  have Hs : ysh xq33_A.1 (yg xq33_s) h_ := ysh_of2 hs (fun q_ hq => absurd hq List.not_mem_nil)
  have Ho : ymem (xq33_r v1_ v2 v3) (yg xq33_s) xq33_O h_ := fun q_ hq => absurd hq List.not_mem_nil
  have HC : ∀ q_ ∈ xq33_C, xhold (xq33_r v1_ v2 v3) q_ := List.forall_mem_cons.mpr ⟨xh_ltT c0_, List.forall_mem_cons.mpr ⟨xh_eqT2 c1_, fun q_ hq => absurd hq List.not_mem_nil⟩⟩
  rcases yrun (yis_ok xq33_k) hA Hs Ho HC with ⟨q_, hq, h', K_, G_⟩ | ⟨q_, hq, h', K_, G_⟩
  · have e_ := List.mem_singleton.mp hq
    subst e_
    exact ⟨h', yfr_sm K_.2.2.2 hs K_.1 (ywa_s xq33_w List.mem_cons_self), ⟨fun a_ j_ => yfr_bp K_.2.2.2 (fun q_ hq => absurd hq List.not_mem_nil), G_⟩⟩
  · cases hq
-- xq33r0: 2 steps, 0 ends, 1 returns
def xq33r0_L : List (Nat × Nat × Nat) := []
def xq33r0_O : yO := []
def xq33r0_A : yA := (yZ xq33r0_L, [], [], [], [])
def xq33r0_C : List xB := []
def xq33r0_ss : List yS := []
def xq33r0_rs : List yR := [(some (.int 0), [], [], [])]
theorem xq33r0_w : ywa xq33r0_A xq33r0_ss xq33r0_rs = true := by decide +kernel
theorem xq33r0_k : yis (yev xq33r0_A 3000 60 26 [] (85, [(3, .arg 3), (2, .arg 2), (0, .index 147), (1, .arg 1)], [.int 0], xq33r0_O, xq33r0_C, [])) xq33r0_ss xq33r0_rs = true := by decide +kernel
def xq33r0_r (v1_ v2 v3 : Int32) (k_ : Nat) : Value := bif Nat.beq k_ 1 then .int v1_ else (bif Nat.beq k_ 2 then .int v2 else (bif Nat.beq k_ 3 then .int v3 else (.int 0)))
def xq33r0_s (n_ : Nat) : Nat := 0
theorem xq33r0 {h_ : xH} {v1_ v2 v3 : Int32} (hs : sHp h_) : ∃ h', ysm h_ h' ∧ (((∀ a_ j_ : Nat, bpat h' a_ j_ = bpat h_ a_ j_) ∧ (∀ D_, 60 ≤ D_ → xrun D_ 26 85 [(3, .int v3), (2, .int v2), (0, .index 147), (1, .int v1_)] [.int (0 : Int32)] h_ (some (.int (0 : Int32)), h', [])))) := by
  have hA : yas xq33r0_A (xq33r0_r v1_ v2 v3) (yg xq33r0_s) := ⟨fun q_ hq => absurd hq List.not_mem_nil, fun q_ hq => absurd hq List.not_mem_nil, fun q_ hq => absurd hq List.not_mem_nil, fun n_ hn => yg_lo hn, fun q_ hq => absurd hq List.not_mem_nil⟩
  have Hs : ysh xq33r0_A.1 (yg xq33r0_s) h_ := ysh_of2 hs (fun q_ hq => absurd hq List.not_mem_nil)
  have Ho : ymem (xq33r0_r v1_ v2 v3) (yg xq33r0_s) xq33r0_O h_ := fun q_ hq => absurd hq List.not_mem_nil
  have HC : ∀ q_ ∈ xq33r0_C, xhold (xq33r0_r v1_ v2 v3) q_ := fun q_ hq => absurd hq List.not_mem_nil
  rcases yrun (yis_ok xq33r0_k) hA Hs Ho HC with ⟨q_, hq, h', K_, G_⟩ | ⟨q_, hq, h', K_, G_⟩
  · cases hq
  · have e_ := List.mem_singleton.mp hq
    subst e_
    exact ⟨h', yfr_sm K_.2.2.2 hs K_.1 (ywa_r xq33r0_w List.mem_cons_self), ⟨fun a_ j_ => yfr_bp K_.2.2.2 (fun q_ hq => absurd hq List.not_mem_nil), G_⟩⟩
-- xq33r1: 2 steps, 0 ends, 1 returns
def xq33r1_L : List (Nat × Nat × Nat) := []
def xq33r1_O : yO := []
def xq33r1_A : yA := (yZ xq33r1_L, [], [], [], [])
def xq33r1_C : List xB := []
def xq33r1_ss : List yS := []
def xq33r1_rs : List yR := [(some (.int 1), [], [], [])]
theorem xq33r1_w : ywa xq33r1_A xq33r1_ss xq33r1_rs = true := by decide +kernel
theorem xq33r1_k : yis (yev xq33r1_A 3000 60 26 [] (85, [(3, .arg 3), (2, .arg 2), (0, .index 147), (1, .arg 1)], [.int 1], xq33r1_O, xq33r1_C, [])) xq33r1_ss xq33r1_rs = true := by decide +kernel
def xq33r1_r (v1_ v2 v3 : Int32) (k_ : Nat) : Value := bif Nat.beq k_ 1 then .int v1_ else (bif Nat.beq k_ 2 then .int v2 else (bif Nat.beq k_ 3 then .int v3 else (.int 0)))
def xq33r1_s (n_ : Nat) : Nat := 0
theorem xq33r1 {h_ : xH} {v1_ v2 v3 : Int32} (hs : sHp h_) : ∃ h', ysm h_ h' ∧ (((∀ a_ j_ : Nat, bpat h' a_ j_ = bpat h_ a_ j_) ∧ (∀ D_, 60 ≤ D_ → xrun D_ 26 85 [(3, .int v3), (2, .int v2), (0, .index 147), (1, .int v1_)] [.int (1 : Int32)] h_ (some (.int (1 : Int32)), h', [])))) := by
  have hA : yas xq33r1_A (xq33r1_r v1_ v2 v3) (yg xq33r1_s) := ⟨fun q_ hq => absurd hq List.not_mem_nil, fun q_ hq => absurd hq List.not_mem_nil, fun q_ hq => absurd hq List.not_mem_nil, fun n_ hn => yg_lo hn, fun q_ hq => absurd hq List.not_mem_nil⟩
  have Hs : ysh xq33r1_A.1 (yg xq33r1_s) h_ := ysh_of2 hs (fun q_ hq => absurd hq List.not_mem_nil)
  have Ho : ymem (xq33r1_r v1_ v2 v3) (yg xq33r1_s) xq33r1_O h_ := fun q_ hq => absurd hq List.not_mem_nil
  have HC : ∀ q_ ∈ xq33r1_C, xhold (xq33r1_r v1_ v2 v3) q_ := fun q_ hq => absurd hq List.not_mem_nil
  rcases yrun (yis_ok xq33r1_k) hA Hs Ho HC with ⟨q_, hq, h', K_, G_⟩ | ⟨q_, hq, h', K_, G_⟩
  · cases hq
  · have e_ := List.mem_singleton.mp hq
    subst e_
    exact ⟨h', yfr_sm K_.2.2.2 hs K_.1 (ywa_r xq33r1_w List.mem_cons_self), ⟨fun a_ j_ => yfr_bp K_.2.2.2 (fun q_ hq => absurd hq List.not_mem_nil), G_⟩⟩
-- xq40: 13 steps, 1 ends, 0 returns
def xq40_L : List (Nat × Nat × Nat) := []
def xq40_O : yO := []
def xq40_A : yA := (yZ xq40_L, [], [], [], [])
def xq40_C : List xB := [(.lt, .arg 1, .int 5, true), (.eq, .arg 2, .int 33, false), (.eq, .arg 2, .int 40, true)]
def xq40_ss : List yS := [(98, [(3, .arg 3), (2, .arg 2), (0, .index 147), (1, .arg 1)], [.add (.arg 1) (.int 1), .index 147], [], [(.lt, .arg 1, .int 5, true), (.eq, .arg 2, .int 33, false), (.eq, .arg 2, .int 40, true)], [])]
def xq40_rs : List yR := []
theorem xq40_w : ywa xq40_A xq40_ss xq40_rs = true := by decide +kernel
theorem xq40_k : yis (yev xq40_A 3000 60 26 [98] (65, [(3, .arg 3), (2, .arg 2), (0, .index 147), (1, .arg 1)], [], xq40_O, xq40_C, [])) xq40_ss xq40_rs = true := by decide +kernel
def xq40_r (v1_ v2 v3 : Int32) (k_ : Nat) : Value := bif Nat.beq k_ 1 then .int v1_ else (bif Nat.beq k_ 2 then .int v2 else (bif Nat.beq k_ 3 then .int v3 else (.int 0)))
def xq40_s (n_ : Nat) : Nat := 0
theorem xq40 {h_ : xH} {v1_ v2 v3 : Int32} (hs : sHp h_) (c0_ : v1_.toInt < (5 : Int32).toInt) (c1_ : ¬ v2 = (33 : Int32)) (c2_ : v2 = (40 : Int32)) : ∃ h', ysm h_ h' ∧ (((∀ a_ j_ : Nat, bpat h' a_ j_ = bpat h_ a_ j_) ∧ (bldD 60 26 65 [(3, .int v3), (2, .int v2), (0, .index 147), (1, .int v1_)] [] h_ 98 [(3, .int v3), (2, .int v2), (0, .index 147), (1, .int v1_)] [.int (v1_ + (1 : Int32)), .index 147] h'))) := by
  have hA : yas xq40_A (xq40_r v1_ v2 v3) (yg xq40_s) := ⟨fun q_ hq => absurd hq List.not_mem_nil, fun q_ hq => absurd hq List.not_mem_nil, fun q_ hq => absurd hq List.not_mem_nil, fun n_ hn => yg_lo hn, fun q_ hq => absurd hq List.not_mem_nil⟩
  have Hs : ysh xq40_A.1 (yg xq40_s) h_ := ysh_of2 hs (fun q_ hq => absurd hq List.not_mem_nil)
  have Ho : ymem (xq40_r v1_ v2 v3) (yg xq40_s) xq40_O h_ := fun q_ hq => absurd hq List.not_mem_nil
  have HC : ∀ q_ ∈ xq40_C, xhold (xq40_r v1_ v2 v3) q_ := List.forall_mem_cons.mpr ⟨xh_ltT c0_, List.forall_mem_cons.mpr ⟨xh_eqF2 c1_, List.forall_mem_cons.mpr ⟨xh_eqT2 c2_, fun q_ hq => absurd hq List.not_mem_nil⟩⟩⟩
  rcases yrun (yis_ok xq40_k) hA Hs Ho HC with ⟨q_, hq, h', K_, G_⟩ | ⟨q_, hq, h', K_, G_⟩
  · have e_ := List.mem_singleton.mp hq
    subst e_
    exact ⟨h', yfr_sm K_.2.2.2 hs K_.1 (ywa_s xq40_w List.mem_cons_self), ⟨fun a_ j_ => yfr_bp K_.2.2.2 (fun q_ hq => absurd hq List.not_mem_nil), G_⟩⟩
  · cases hq
-- xq40f: 3 steps, 0 ends, 1 returns
def xq40f_L : List (Nat × Nat × Nat) := []
def xq40f_O : yO := []
def xq40f_A : yA := (yZ xq40f_L, [], [], [], [])
def xq40f_C : List xB := [(.eq, .arg 4, .int 0, true)]
def xq40f_ss : List yS := []
def xq40f_rs : List yR := [(some (.int 0), [], [(.eq, .arg 4, .int 0, true)], [])]
theorem xq40f_w : ywa xq40f_A xq40f_ss xq40f_rs = true := by decide +kernel
theorem xq40f_k : yis (yev xq40f_A 3000 60 26 [] (101, [(3, .arg 3), (2, .arg 2), (0, .index 147), (1, .arg 1)], [.arg 4], xq40f_O, xq40f_C, [])) xq40f_ss xq40f_rs = true := by decide +kernel
def xq40f_r (v1_ v2 v3 v4_ : Int32) (k_ : Nat) : Value := bif Nat.beq k_ 1 then .int v1_ else (bif Nat.beq k_ 2 then .int v2 else (bif Nat.beq k_ 3 then .int v3 else (bif Nat.beq k_ 4 then .int v4_ else (.int 0))))
def xq40f_s (n_ : Nat) : Nat := 0
theorem xq40f {h_ : xH} {v1_ v2 v3 v4_ : Int32} (hs : sHp h_) (c0_ : v4_ = (0 : Int32)) : ∃ h', ysm h_ h' ∧ (((∀ a_ j_ : Nat, bpat h' a_ j_ = bpat h_ a_ j_) ∧ (∀ D_, 60 ≤ D_ → xrun D_ 26 101 [(3, .int v3), (2, .int v2), (0, .index 147), (1, .int v1_)] [.int v4_] h_ (some (.int (0 : Int32)), h', [])))) := by
  have hA : yas xq40f_A (xq40f_r v1_ v2 v3 v4_) (yg xq40f_s) := ⟨fun q_ hq => absurd hq List.not_mem_nil, fun q_ hq => absurd hq List.not_mem_nil, fun q_ hq => absurd hq List.not_mem_nil, fun n_ hn => yg_lo hn, fun q_ hq => absurd hq List.not_mem_nil⟩
  have Hs : ysh xq40f_A.1 (yg xq40f_s) h_ := ysh_of2 hs (fun q_ hq => absurd hq List.not_mem_nil)
  have Ho : ymem (xq40f_r v1_ v2 v3 v4_) (yg xq40f_s) xq40f_O h_ := fun q_ hq => absurd hq List.not_mem_nil
  have HC : ∀ q_ ∈ xq40f_C, xhold (xq40f_r v1_ v2 v3 v4_) q_ := List.forall_mem_cons.mpr ⟨xh_eqT2 c0_, fun q_ hq => absurd hq List.not_mem_nil⟩
  rcases yrun (yis_ok xq40f_k) hA Hs Ho HC with ⟨q_, hq, h', K_, G_⟩ | ⟨q_, hq, h', K_, G_⟩
  · cases hq
  · have e_ := List.mem_singleton.mp hq
    subst e_
    exact ⟨h', yfr_sm K_.2.2.2 hs K_.1 (ywa_r xq40f_w List.mem_cons_self), ⟨fun a_ j_ => yfr_bp K_.2.2.2 (fun q_ hq => absurd hq List.not_mem_nil), G_⟩⟩
-- xq40t: 4 steps, 0 ends, 1 returns
def xq40t_L : List (Nat × Nat × Nat) := []
def xq40t_O : yO := []
def xq40t_A : yA := (yZ xq40t_L, [], [], [], [])
def xq40t_C : List xB := [(.eq, .arg 4, .int 0, false)]
def xq40t_ss : List yS := []
def xq40t_rs : List yR := [(some (.int 1), [], [(.eq, .arg 4, .int 0, false)], [])]
theorem xq40t_w : ywa xq40t_A xq40t_ss xq40t_rs = true := by decide +kernel
theorem xq40t_k : yis (yev xq40t_A 3000 60 26 [] (101, [(3, .arg 3), (2, .arg 2), (0, .index 147), (1, .arg 1)], [.arg 4], xq40t_O, xq40t_C, [])) xq40t_ss xq40t_rs = true := by decide +kernel
def xq40t_r (v1_ v2 v3 v4_ : Int32) (k_ : Nat) : Value := bif Nat.beq k_ 1 then .int v1_ else (bif Nat.beq k_ 2 then .int v2 else (bif Nat.beq k_ 3 then .int v3 else (bif Nat.beq k_ 4 then .int v4_ else (.int 0))))
def xq40t_s (n_ : Nat) : Nat := 0
theorem xq40t {h_ : xH} {v1_ v2 v3 v4_ : Int32} (hs : sHp h_) (c0_ : ¬ v4_ = (0 : Int32)) : ∃ h', ysm h_ h' ∧ (((∀ a_ j_ : Nat, bpat h' a_ j_ = bpat h_ a_ j_) ∧ (∀ D_, 60 ≤ D_ → xrun D_ 26 101 [(3, .int v3), (2, .int v2), (0, .index 147), (1, .int v1_)] [.int v4_] h_ (some (.int (1 : Int32)), h', [])))) := by
  have hA : yas xq40t_A (xq40t_r v1_ v2 v3 v4_) (yg xq40t_s) := ⟨fun q_ hq => absurd hq List.not_mem_nil, fun q_ hq => absurd hq List.not_mem_nil, fun q_ hq => absurd hq List.not_mem_nil, fun n_ hn => yg_lo hn, fun q_ hq => absurd hq List.not_mem_nil⟩
  have Hs : ysh xq40t_A.1 (yg xq40t_s) h_ := ysh_of2 hs (fun q_ hq => absurd hq List.not_mem_nil)
  have Ho : ymem (xq40t_r v1_ v2 v3 v4_) (yg xq40t_s) xq40t_O h_ := fun q_ hq => absurd hq List.not_mem_nil
  have HC : ∀ q_ ∈ xq40t_C, xhold (xq40t_r v1_ v2 v3 v4_) q_ := List.forall_mem_cons.mpr ⟨xh_eqF2 c0_, fun q_ hq => absurd hq List.not_mem_nil⟩
  rcases yrun (yis_ok xq40t_k) hA Hs Ho HC with ⟨q_, hq, h', K_, G_⟩ | ⟨q_, hq, h', K_, G_⟩
  · cases hq
  · have e_ := List.mem_singleton.mp hq
    subst e_
    exact ⟨h', yfr_sm K_.2.2.2 hs K_.1 (ywa_r xq40t_w List.mem_cons_self), ⟨fun a_ j_ => yfr_bp K_.2.2.2 (fun q_ hq => absurd hq List.not_mem_nil), G_⟩⟩
-- xqz: 11 steps, 0 ends, 1 returns
def xqz_L : List (Nat × Nat × Nat) := []
def xqz_O : yO := []
def xqz_A : yA := (yZ xqz_L, [], [], [], [])
def xqz_C : List xB := [(.lt, .arg 1, .int 5, true), (.eq, .arg 2, .int 33, false), (.eq, .arg 2, .int 40, false)]
def xqz_ss : List yS := []
def xqz_rs : List yR := [(some (.int 0), [], [(.lt, .arg 1, .int 5, true), (.eq, .arg 2, .int 33, false), (.eq, .arg 2, .int 40, false)], [])]
theorem xqz_w : ywa xqz_A xqz_ss xqz_rs = true := by decide +kernel
theorem xqz_k : yis (yev xqz_A 3000 60 26 [] (65, [(3, .arg 3), (2, .arg 2), (0, .index 147), (1, .arg 1)], [], xqz_O, xqz_C, [])) xqz_ss xqz_rs = true := by decide +kernel
def xqz_r (v1_ v2 v3 : Int32) (k_ : Nat) : Value := bif Nat.beq k_ 1 then .int v1_ else (bif Nat.beq k_ 2 then .int v2 else (bif Nat.beq k_ 3 then .int v3 else (.int 0)))
def xqz_s (n_ : Nat) : Nat := 0
theorem xqz {h_ : xH} {v1_ v2 v3 : Int32} (hs : sHp h_) (c0_ : v1_.toInt < (5 : Int32).toInt) (c1_ : ¬ v2 = (33 : Int32)) (c2_ : ¬ v2 = (40 : Int32)) : ∃ h', ysm h_ h' ∧ (((∀ a_ j_ : Nat, bpat h' a_ j_ = bpat h_ a_ j_) ∧ (∀ D_, 60 ≤ D_ → xrun D_ 26 65 [(3, .int v3), (2, .int v2), (0, .index 147), (1, .int v1_)] [] h_ (some (.int (0 : Int32)), h', [])))) := by
  have hA : yas xqz_A (xqz_r v1_ v2 v3) (yg xqz_s) := ⟨fun q_ hq => absurd hq List.not_mem_nil, fun q_ hq => absurd hq List.not_mem_nil, fun q_ hq => absurd hq List.not_mem_nil, fun n_ hn => yg_lo hn, fun q_ hq => absurd hq List.not_mem_nil⟩
  have Hs : ysh xqz_A.1 (yg xqz_s) h_ := ysh_of2 hs (fun q_ hq => absurd hq List.not_mem_nil)
  have Ho : ymem (xqz_r v1_ v2 v3) (yg xqz_s) xqz_O h_ := fun q_ hq => absurd hq List.not_mem_nil
  have HC : ∀ q_ ∈ xqz_C, xhold (xqz_r v1_ v2 v3) q_ := List.forall_mem_cons.mpr ⟨xh_ltT c0_, List.forall_mem_cons.mpr ⟨xh_eqF2 c1_, List.forall_mem_cons.mpr ⟨xh_eqF2 c2_, fun q_ hq => absurd hq List.not_mem_nil⟩⟩⟩
  rcases yrun (yis_ok xqz_k) hA Hs Ho HC with ⟨q_, hq, h', K_, G_⟩ | ⟨q_, hq, h', K_, G_⟩
  · cases hq
  · have e_ := List.mem_singleton.mp hq
    subst e_
    exact ⟨h', yfr_sm K_.2.2.2 hs K_.1 (ywa_r xqz_w List.mem_cons_self), ⟨fun a_ j_ => yfr_bp K_.2.2.2 (fun q_ hq => absurd hq List.not_mem_nil), G_⟩⟩
-- xd1: 8 steps, 1 ends, 0 returns
def xd1_L : List (Nat × Nat × Nat) := []
def xd1_O : yO := [(147, .int 3, .arg 300)]
def xd1_A : yA := (yZ xd1_L, [], [], [], [])
def xd1_C : List xB := []
def xd1_ss : List yS := [(12, [(0, .index 147), (1, .arg 1)], [.arg 1, .index 147], [(147, .int 3, .add (.arg 300) (.int 1))], [], [(147, .int 3)])]
def xd1_rs : List yR := []
theorem xd1_w : ywa xd1_A xd1_ss xd1_rs = true := by decide +kernel
theorem xd1_k : yis (yev xd1_A 3000 60 27 [12] (0, [(0, .index 147), (1, .arg 1)], [], xd1_O, xd1_C, [])) xd1_ss xd1_rs = true := by decide +kernel
def xd1_r (v1_ v300 : Int32) (k_ : Nat) : Value := bif Nat.beq k_ 1 then .int v1_ else (bif Nat.beq k_ 300 then .int v300 else (.int 0))
def xd1_s (n_ : Nat) : Nat := 0
theorem xd1 {h_ : xH} {v1_ v300 : Int32} (hs : sHp h_) (o0_ : bpat h_ 147 3 = some (.int v300)) : ∃ h', ysm h_ h' ∧ (((bpat h' 147 3 = some (.int (v300 + (1 : Int32)))) ∧ (∀ a_ j_ : Nat, ¬ (a_ = 147 ∧ j_ = 3) → bpat h' a_ j_ = bpat h_ a_ j_) ∧ (bldD 60 27 0 [(0, .index 147), (1, .int v1_)] [] h_ 12 [(0, .index 147), (1, .int v1_)] [.int v1_, .index 147] h'))) := by
  have hA : yas xd1_A (xd1_r v1_ v300) (yg xd1_s) := ⟨fun q_ hq => absurd hq List.not_mem_nil, fun q_ hq => absurd hq List.not_mem_nil, fun q_ hq => absurd hq List.not_mem_nil, fun n_ hn => yg_lo hn, fun q_ hq => absurd hq List.not_mem_nil⟩
  have Hs : ysh xd1_A.1 (yg xd1_s) h_ := ysh_of2 hs (fun q_ hq => absurd hq List.not_mem_nil)
  have Ho : ymem (xd1_r v1_ v300) (yg xd1_s) xd1_O h_ := List.forall_mem_cons.mpr ⟨bpat_some o0_, fun q_ hq => absurd hq List.not_mem_nil⟩
  have HC : ∀ q_ ∈ xd1_C, xhold (xd1_r v1_ v300) q_ := fun q_ hq => absurd hq List.not_mem_nil
  rcases yrun (yis_ok xd1_k) hA Hs Ho HC with ⟨q_, hq, h', K_, G_⟩ | ⟨q_, hq, h', K_, G_⟩
  · have e_ := List.mem_singleton.mp hq
    subst e_
    exact ⟨h', yfr_sm K_.2.2.2 hs K_.1 (ywa_s xd1_w List.mem_cons_self), ⟨bpat_of (K_.2.1 _ List.mem_cons_self), fun a_ j_ n0_ => yfr_bp K_.2.2.2 (List.forall_mem_cons.mpr ⟨fun e_ => n0_ ⟨e_.1.symm, e_.2.symm⟩, fun q_ hq => absurd hq List.not_mem_nil⟩), G_⟩⟩
  · cases hq
-- xd2: 4 steps, 1 ends, 0 returns
def xd2_L : List (Nat × Nat × Nat) := []
def xd2_O : yO := [(147, .int 0, .index 148)]
def xd2_A : yA := (yZ xd2_L, [], [], [], [])
def xd2_C : List xB := []
def xd2_ss : List yS := [(23, [(2, .arg 2), (0, .index 147), (1, .arg 1)], [.int 20033, .index 148], [(147, .int 0, .index 148)], [], [])]
def xd2_rs : List yR := []
theorem xd2_w : ywa xd2_A xd2_ss xd2_rs = true := by decide +kernel
theorem xd2_k : yis (yev xd2_A 3000 60 27 [23] (15, [(0, .index 147), (1, .arg 1)], [.arg 2], xd2_O, xd2_C, [])) xd2_ss xd2_rs = true := by decide +kernel
def xd2_r (v1_ v2 : Int32) (k_ : Nat) : Value := bif Nat.beq k_ 1 then .int v1_ else (bif Nat.beq k_ 2 then .int v2 else (.int 0))
def xd2_s (n_ : Nat) : Nat := 0
theorem xd2 {h_ : xH} {v1_ v2 : Int32} (hs : sHp h_) : ∃ h', ysm h_ h' ∧ (((∀ a_ j_ : Nat, bpat h' a_ j_ = bpat h_ a_ j_) ∧ (bldD 60 27 15 [(0, .index 147), (1, .int v1_)] [.int v2] h_ 23 [(2, .int v2), (0, .index 147), (1, .int v1_)] [.int (20033 : Int32), .index 148] h'))) := by
  have hA : yas xd2_A (xd2_r v1_ v2) (yg xd2_s) := ⟨fun q_ hq => absurd hq List.not_mem_nil, fun q_ hq => absurd hq List.not_mem_nil, fun q_ hq => absurd hq List.not_mem_nil, fun n_ hn => yg_lo hn, fun q_ hq => absurd hq List.not_mem_nil⟩
  have Hs : ysh xd2_A.1 (yg xd2_s) h_ := ysh_of2 hs (fun q_ hq => absurd hq List.not_mem_nil)
  have Ho : ymem (xd2_r v1_ v2) (yg xd2_s) xd2_O h_ := List.forall_mem_cons.mpr ⟨bpat_some (fxr_at hs.2 (show fxk fxl 147 0 = some 148 by decide +kernel)), fun q_ hq => absurd hq List.not_mem_nil⟩
  have HC : ∀ q_ ∈ xd2_C, xhold (xd2_r v1_ v2) q_ := fun q_ hq => absurd hq List.not_mem_nil
  rcases yrun (yis_ok xd2_k) hA Hs Ho HC with ⟨q_, hq, h', K_, G_⟩ | ⟨q_, hq, h', K_, G_⟩
  · have e_ := List.mem_singleton.mp hq
    subst e_
    exact ⟨h', yfr_sm K_.2.2.2 hs K_.1 (ywa_s xd2_w List.mem_cons_self), ⟨fun a_ j_ => yfr_bp K_.2.2.2 (fun q_ hq => absurd hq List.not_mem_nil), G_⟩⟩
  · cases hq
-- xd30: 3 steps, 0 ends, 1 returns
def xd30_L : List (Nat × Nat × Nat) := []
def xd30_O : yO := []
def xd30_A : yA := (yZ xd30_L, [], [], [], [])
def xd30_C : List xB := []
def xd30_ss : List yS := []
def xd30_rs : List yR := [(some (.int 0), [], [], [])]
theorem xd30_w : ywa xd30_A xd30_ss xd30_rs = true := by decide +kernel
theorem xd30_k : yis (yev xd30_A 3000 60 27 [] (26, [(2, .int 0), (0, .index 147), (1, .arg 1)], [.arg 3], xd30_O, xd30_C, [])) xd30_ss xd30_rs = true := by decide +kernel
def xd30_r (v1_ v3 : Int32) (k_ : Nat) : Value := bif Nat.beq k_ 1 then .int v1_ else (bif Nat.beq k_ 3 then .int v3 else (.int 0))
def xd30_s (n_ : Nat) : Nat := 0
theorem xd30 {h_ : xH} {v1_ v3 : Int32} (hs : sHp h_) : ∃ h', ysm h_ h' ∧ (((∀ a_ j_ : Nat, bpat h' a_ j_ = bpat h_ a_ j_) ∧ (∀ D_, 60 ≤ D_ → xrun D_ 27 26 [(2, .int (0 : Int32)), (0, .index 147), (1, .int v1_)] [.int v3] h_ (some (.int (0 : Int32)), h', [])))) := by
  have hA : yas xd30_A (xd30_r v1_ v3) (yg xd30_s) := ⟨fun q_ hq => absurd hq List.not_mem_nil, fun q_ hq => absurd hq List.not_mem_nil, fun q_ hq => absurd hq List.not_mem_nil, fun n_ hn => yg_lo hn, fun q_ hq => absurd hq List.not_mem_nil⟩
  have Hs : ysh xd30_A.1 (yg xd30_s) h_ := ysh_of2 hs (fun q_ hq => absurd hq List.not_mem_nil)
  have Ho : ymem (xd30_r v1_ v3) (yg xd30_s) xd30_O h_ := fun q_ hq => absurd hq List.not_mem_nil
  have HC : ∀ q_ ∈ xd30_C, xhold (xd30_r v1_ v3) q_ := fun q_ hq => absurd hq List.not_mem_nil
  rcases yrun (yis_ok xd30_k) hA Hs Ho HC with ⟨q_, hq, h', K_, G_⟩ | ⟨q_, hq, h', K_, G_⟩
  · cases hq
  · have e_ := List.mem_singleton.mp hq
    subst e_
    exact ⟨h', yfr_sm K_.2.2.2 hs K_.1 (ywa_r xd30_w List.mem_cons_self), ⟨fun a_ j_ => yfr_bp K_.2.2.2 (fun q_ hq => absurd hq List.not_mem_nil), G_⟩⟩
-- xd31: 3 steps, 0 ends, 1 returns
def xd31_L : List (Nat × Nat × Nat) := []
def xd31_O : yO := []
def xd31_A : yA := (yZ xd31_L, [], [], [], [])
def xd31_C : List xB := []
def xd31_ss : List yS := []
def xd31_rs : List yR := [(some (.int 1), [], [], [])]
theorem xd31_w : ywa xd31_A xd31_ss xd31_rs = true := by decide +kernel
theorem xd31_k : yis (yev xd31_A 3000 60 27 [] (26, [(2, .int 1), (0, .index 147), (1, .arg 1)], [.arg 3], xd31_O, xd31_C, [])) xd31_ss xd31_rs = true := by decide +kernel
def xd31_r (v1_ v3 : Int32) (k_ : Nat) : Value := bif Nat.beq k_ 1 then .int v1_ else (bif Nat.beq k_ 3 then .int v3 else (.int 0))
def xd31_s (n_ : Nat) : Nat := 0
theorem xd31 {h_ : xH} {v1_ v3 : Int32} (hs : sHp h_) : ∃ h', ysm h_ h' ∧ (((∀ a_ j_ : Nat, bpat h' a_ j_ = bpat h_ a_ j_) ∧ (∀ D_, 60 ≤ D_ → xrun D_ 27 26 [(2, .int (1 : Int32)), (0, .index 147), (1, .int v1_)] [.int v3] h_ (some (.int (1 : Int32)), h', [])))) := by
  have hA : yas xd31_A (xd31_r v1_ v3) (yg xd31_s) := ⟨fun q_ hq => absurd hq List.not_mem_nil, fun q_ hq => absurd hq List.not_mem_nil, fun q_ hq => absurd hq List.not_mem_nil, fun n_ hn => yg_lo hn, fun q_ hq => absurd hq List.not_mem_nil⟩
  have Hs : ysh xd31_A.1 (yg xd31_s) h_ := ysh_of2 hs (fun q_ hq => absurd hq List.not_mem_nil)
  have Ho : ymem (xd31_r v1_ v3) (yg xd31_s) xd31_O h_ := fun q_ hq => absurd hq List.not_mem_nil
  have HC : ∀ q_ ∈ xd31_C, xhold (xd31_r v1_ v3) q_ := fun q_ hq => absurd hq List.not_mem_nil
  rcases yrun (yis_ok xd31_k) hA Hs Ho HC with ⟨q_, hq, h', K_, G_⟩ | ⟨q_, hq, h', K_, G_⟩
  · cases hq
  · have e_ := List.mem_singleton.mp hq
    subst e_
    exact ⟨h', yfr_sm K_.2.2.2 hs K_.1 (ywa_r xd31_w List.mem_cons_self), ⟨fun a_ j_ => yfr_bp K_.2.2.2 (fun q_ hq => absurd hq List.not_mem_nil), G_⟩⟩
-- xe1: 9 steps, 1 ends, 0 returns
def xe1_L : List (Nat × Nat × Nat) := []
def xe1_O : yO := [(147, .int 3, .arg 300)]
def xe1_A : yA := (yZ xe1_L, [], [], [], [])
def xe1_C : List xB := []
def xe1_ss : List yS := [(13, [(0, .index 147), (1, .arg 1)], [.arg 1, .int 0, .index 147], [(147, .int 3, .add (.arg 300) (.int 1))], [], [(147, .int 3)])]
def xe1_rs : List yR := []
theorem xe1_w : ywa xe1_A xe1_ss xe1_rs = true := by decide +kernel
theorem xe1_k : yis (yev xe1_A 3000 60 28 [13] (0, [(0, .index 147), (1, .arg 1)], [], xe1_O, xe1_C, [])) xe1_ss xe1_rs = true := by decide +kernel
def xe1_r (v1_ v300 : Int32) (k_ : Nat) : Value := bif Nat.beq k_ 1 then .int v1_ else (bif Nat.beq k_ 300 then .int v300 else (.int 0))
def xe1_s (n_ : Nat) : Nat := 0
theorem xe1 {h_ : xH} {v1_ v300 : Int32} (hs : sHp h_) (o0_ : bpat h_ 147 3 = some (.int v300)) : ∃ h', ysm h_ h' ∧ (((bpat h' 147 3 = some (.int (v300 + (1 : Int32)))) ∧ (∀ a_ j_ : Nat, ¬ (a_ = 147 ∧ j_ = 3) → bpat h' a_ j_ = bpat h_ a_ j_) ∧ (bldD 60 28 0 [(0, .index 147), (1, .int v1_)] [] h_ 13 [(0, .index 147), (1, .int v1_)] [.int v1_, .int (0 : Int32), .index 147] h'))) := by
  have hA : yas xe1_A (xe1_r v1_ v300) (yg xe1_s) := ⟨fun q_ hq => absurd hq List.not_mem_nil, fun q_ hq => absurd hq List.not_mem_nil, fun q_ hq => absurd hq List.not_mem_nil, fun n_ hn => yg_lo hn, fun q_ hq => absurd hq List.not_mem_nil⟩
  have Hs : ysh xe1_A.1 (yg xe1_s) h_ := ysh_of2 hs (fun q_ hq => absurd hq List.not_mem_nil)
  have Ho : ymem (xe1_r v1_ v300) (yg xe1_s) xe1_O h_ := List.forall_mem_cons.mpr ⟨bpat_some o0_, fun q_ hq => absurd hq List.not_mem_nil⟩
  have HC : ∀ q_ ∈ xe1_C, xhold (xe1_r v1_ v300) q_ := fun q_ hq => absurd hq List.not_mem_nil
  rcases yrun (yis_ok xe1_k) hA Hs Ho HC with ⟨q_, hq, h', K_, G_⟩ | ⟨q_, hq, h', K_, G_⟩
  · have e_ := List.mem_singleton.mp hq
    subst e_
    exact ⟨h', yfr_sm K_.2.2.2 hs K_.1 (ywa_s xe1_w List.mem_cons_self), ⟨bpat_of (K_.2.1 _ List.mem_cons_self), fun a_ j_ n0_ => yfr_bp K_.2.2.2 (List.forall_mem_cons.mpr ⟨fun e_ => n0_ ⟨e_.1.symm, e_.2.symm⟩, fun q_ hq => absurd hq List.not_mem_nil⟩), G_⟩⟩
  · cases hq
-- xe2: 3 steps, 0 ends, 1 returns
def xe2_L : List (Nat × Nat × Nat) := []
def xe2_O : yO := []
def xe2_A : yA := (yZ xe2_L, [], [], [], [])
def xe2_C : List xB := [(.eq, .arg 2, .int 0, true)]
def xe2_ss : List yS := []
def xe2_rs : List yR := [(some (.int 0), [], [(.eq, .arg 2, .int 0, true)], [])]
theorem xe2_w : ywa xe2_A xe2_ss xe2_rs = true := by decide +kernel
theorem xe2_k : yis (yev xe2_A 3000 60 28 [] (16, [(0, .index 147), (1, .arg 1)], [.arg 2], xe2_O, xe2_C, [])) xe2_ss xe2_rs = true := by decide +kernel
def xe2_r (v1_ v2 : Int32) (k_ : Nat) : Value := bif Nat.beq k_ 1 then .int v1_ else (bif Nat.beq k_ 2 then .int v2 else (.int 0))
def xe2_s (n_ : Nat) : Nat := 0
theorem xe2 {h_ : xH} {v1_ v2 : Int32} (hs : sHp h_) (c0_ : v2 = (0 : Int32)) : ∃ h', ysm h_ h' ∧ (((∀ a_ j_ : Nat, bpat h' a_ j_ = bpat h_ a_ j_) ∧ (∀ D_, 60 ≤ D_ → xrun D_ 28 16 [(0, .index 147), (1, .int v1_)] [.int v2] h_ (some (.int (0 : Int32)), h', [])))) := by
  have hA : yas xe2_A (xe2_r v1_ v2) (yg xe2_s) := ⟨fun q_ hq => absurd hq List.not_mem_nil, fun q_ hq => absurd hq List.not_mem_nil, fun q_ hq => absurd hq List.not_mem_nil, fun n_ hn => yg_lo hn, fun q_ hq => absurd hq List.not_mem_nil⟩
  have Hs : ysh xe2_A.1 (yg xe2_s) h_ := ysh_of2 hs (fun q_ hq => absurd hq List.not_mem_nil)
  have Ho : ymem (xe2_r v1_ v2) (yg xe2_s) xe2_O h_ := fun q_ hq => absurd hq List.not_mem_nil
  have HC : ∀ q_ ∈ xe2_C, xhold (xe2_r v1_ v2) q_ := List.forall_mem_cons.mpr ⟨xh_eqT2 c0_, fun q_ hq => absurd hq List.not_mem_nil⟩
  rcases yrun (yis_ok xe2_k) hA Hs Ho HC with ⟨q_, hq, h', K_, G_⟩ | ⟨q_, hq, h', K_, G_⟩
  · cases hq
  · have e_ := List.mem_singleton.mp hq
    subst e_
    exact ⟨h', yfr_sm K_.2.2.2 hs K_.1 (ywa_r xe2_w List.mem_cons_self), ⟨fun a_ j_ => yfr_bp K_.2.2.2 (fun q_ hq => absurd hq List.not_mem_nil), G_⟩⟩
-- xe3: 2 steps, 1 ends, 0 returns
def xe3_L : List (Nat × Nat × Nat) := []
def xe3_O : yO := []
def xe3_A : yA := (yZ xe3_L, [], [], [], [])
def xe3_C : List xB := [(.eq, .arg 2, .int 0, false)]
def xe3_ss : List yS := [(20, [(0, .index 147), (1, .arg 1)], [.index 147], [], [(.eq, .arg 2, .int 0, false)], [])]
def xe3_rs : List yR := []
theorem xe3_w : ywa xe3_A xe3_ss xe3_rs = true := by decide +kernel
theorem xe3_k : yis (yev xe3_A 3000 60 28 [20] (16, [(0, .index 147), (1, .arg 1)], [.arg 2], xe3_O, xe3_C, [])) xe3_ss xe3_rs = true := by decide +kernel
def xe3_r (v1_ v2 : Int32) (k_ : Nat) : Value := bif Nat.beq k_ 1 then .int v1_ else (bif Nat.beq k_ 2 then .int v2 else (.int 0))
def xe3_s (n_ : Nat) : Nat := 0
theorem xe3 {h_ : xH} {v1_ v2 : Int32} (hs : sHp h_) (c0_ : ¬ v2 = (0 : Int32)) : ∃ h', ysm h_ h' ∧ (((∀ a_ j_ : Nat, bpat h' a_ j_ = bpat h_ a_ j_) ∧ (bldD 60 28 16 [(0, .index 147), (1, .int v1_)] [.int v2] h_ 20 [(0, .index 147), (1, .int v1_)] [.index 147] h'))) := by
  have hA : yas xe3_A (xe3_r v1_ v2) (yg xe3_s) := ⟨fun q_ hq => absurd hq List.not_mem_nil, fun q_ hq => absurd hq List.not_mem_nil, fun q_ hq => absurd hq List.not_mem_nil, fun n_ hn => yg_lo hn, fun q_ hq => absurd hq List.not_mem_nil⟩
  have Hs : ysh xe3_A.1 (yg xe3_s) h_ := ysh_of2 hs (fun q_ hq => absurd hq List.not_mem_nil)
  have Ho : ymem (xe3_r v1_ v2) (yg xe3_s) xe3_O h_ := fun q_ hq => absurd hq List.not_mem_nil
  have HC : ∀ q_ ∈ xe3_C, xhold (xe3_r v1_ v2) q_ := List.forall_mem_cons.mpr ⟨xh_eqF2 c0_, fun q_ hq => absurd hq List.not_mem_nil⟩
  rcases yrun (yis_ok xe3_k) hA Hs Ho HC with ⟨q_, hq, h', K_, G_⟩ | ⟨q_, hq, h', K_, G_⟩
  · have e_ := List.mem_singleton.mp hq
    subst e_
    exact ⟨h', yfr_sm K_.2.2.2 hs K_.1 (ywa_s xe3_w List.mem_cons_self), ⟨fun a_ j_ => yfr_bp K_.2.2.2 (fun q_ hq => absurd hq List.not_mem_nil), G_⟩⟩
  · cases hq
-- xe4: 10 steps, 0 ends, 1 returns
def xe4_L : List (Nat × Nat × Nat) := []
def xe4_O : yO := [(147, .int 3, .arg 300)]
def xe4_A : yA := (yZ xe4_L, [], [], [], [])
def xe4_C : List xB := [(.eq, .arg 2, .int 41, true)]
def xe4_ss : List yS := []
def xe4_rs : List yR := [(some (.int 1), [(147, .int 3, .add (.arg 300) (.int 1))], [(.eq, .arg 2, .int 41, true)], [(147, .int 3)])]
theorem xe4_w : ywa xe4_A xe4_ss xe4_rs = true := by decide +kernel
theorem xe4_k : yis (yev xe4_A 3000 60 28 [] (23, [(0, .index 147), (1, .arg 1)], [.arg 2], xe4_O, xe4_C, [])) xe4_ss xe4_rs = true := by decide +kernel
def xe4_r (v1_ v2 v300 : Int32) (k_ : Nat) : Value := bif Nat.beq k_ 1 then .int v1_ else (bif Nat.beq k_ 2 then .int v2 else (bif Nat.beq k_ 300 then .int v300 else (.int 0)))
def xe4_s (n_ : Nat) : Nat := 0
theorem xe4 {h_ : xH} {v1_ v2 v300 : Int32} (hs : sHp h_) (o0_ : bpat h_ 147 3 = some (.int v300)) (c0_ : v2 = (41 : Int32)) : ∃ h', ysm h_ h' ∧ (((bpat h' 147 3 = some (.int (v300 + (1 : Int32)))) ∧ (∀ a_ j_ : Nat, ¬ (a_ = 147 ∧ j_ = 3) → bpat h' a_ j_ = bpat h_ a_ j_) ∧ (∀ D_, 60 ≤ D_ → xrun D_ 28 23 [(0, .index 147), (1, .int v1_)] [.int v2] h_ (some (.int (1 : Int32)), h', [])))) := by
  have hA : yas xe4_A (xe4_r v1_ v2 v300) (yg xe4_s) := ⟨fun q_ hq => absurd hq List.not_mem_nil, fun q_ hq => absurd hq List.not_mem_nil, fun q_ hq => absurd hq List.not_mem_nil, fun n_ hn => yg_lo hn, fun q_ hq => absurd hq List.not_mem_nil⟩
  have Hs : ysh xe4_A.1 (yg xe4_s) h_ := ysh_of2 hs (fun q_ hq => absurd hq List.not_mem_nil)
  have Ho : ymem (xe4_r v1_ v2 v300) (yg xe4_s) xe4_O h_ := List.forall_mem_cons.mpr ⟨bpat_some o0_, fun q_ hq => absurd hq List.not_mem_nil⟩
  have HC : ∀ q_ ∈ xe4_C, xhold (xe4_r v1_ v2 v300) q_ := List.forall_mem_cons.mpr ⟨xh_eqT2 c0_, fun q_ hq => absurd hq List.not_mem_nil⟩
  rcases yrun (yis_ok xe4_k) hA Hs Ho HC with ⟨q_, hq, h', K_, G_⟩ | ⟨q_, hq, h', K_, G_⟩
  · cases hq
  · have e_ := List.mem_singleton.mp hq
    subst e_
    exact ⟨h', yfr_sm K_.2.2.2 hs K_.1 (ywa_r xe4_w List.mem_cons_self), ⟨bpat_of (K_.2.1 _ List.mem_cons_self), fun a_ j_ n0_ => yfr_bp K_.2.2.2 (List.forall_mem_cons.mpr ⟨fun e_ => n0_ ⟨e_.1.symm, e_.2.symm⟩, fun q_ hq => absurd hq List.not_mem_nil⟩), G_⟩⟩
-- xe5: 4 steps, 0 ends, 1 returns
def xe5_L : List (Nat × Nat × Nat) := []
def xe5_O : yO := []
def xe5_A : yA := (yZ xe5_L, [], [], [], [])
def xe5_C : List xB := [(.eq, .arg 2, .int 41, false)]
def xe5_ss : List yS := []
def xe5_rs : List yR := [(some (.int 0), [], [(.eq, .arg 2, .int 41, false)], [])]
theorem xe5_w : ywa xe5_A xe5_ss xe5_rs = true := by decide +kernel
theorem xe5_k : yis (yev xe5_A 3000 60 28 [] (23, [(0, .index 147), (1, .arg 1)], [.arg 2], xe5_O, xe5_C, [])) xe5_ss xe5_rs = true := by decide +kernel
def xe5_r (v1_ v2 : Int32) (k_ : Nat) : Value := bif Nat.beq k_ 1 then .int v1_ else (bif Nat.beq k_ 2 then .int v2 else (.int 0))
def xe5_s (n_ : Nat) : Nat := 0
theorem xe5 {h_ : xH} {v1_ v2 : Int32} (hs : sHp h_) (c0_ : ¬ v2 = (41 : Int32)) : ∃ h', ysm h_ h' ∧ (((∀ a_ j_ : Nat, bpat h' a_ j_ = bpat h_ a_ j_) ∧ (∀ D_, 60 ≤ D_ → xrun D_ 28 23 [(0, .index 147), (1, .int v1_)] [.int v2] h_ (some (.int (0 : Int32)), h', [])))) := by
  have hA : yas xe5_A (xe5_r v1_ v2) (yg xe5_s) := ⟨fun q_ hq => absurd hq List.not_mem_nil, fun q_ hq => absurd hq List.not_mem_nil, fun q_ hq => absurd hq List.not_mem_nil, fun n_ hn => yg_lo hn, fun q_ hq => absurd hq List.not_mem_nil⟩
  have Hs : ysh xe5_A.1 (yg xe5_s) h_ := ysh_of2 hs (fun q_ hq => absurd hq List.not_mem_nil)
  have Ho : ymem (xe5_r v1_ v2) (yg xe5_s) xe5_O h_ := fun q_ hq => absurd hq List.not_mem_nil
  have HC : ∀ q_ ∈ xe5_C, xhold (xe5_r v1_ v2) q_ := List.forall_mem_cons.mpr ⟨xh_eqF2 c0_, fun q_ hq => absurd hq List.not_mem_nil⟩
  rcases yrun (yis_ok xe5_k) hA Hs Ho HC with ⟨q_, hq, h', K_, G_⟩ | ⟨q_, hq, h', K_, G_⟩
  · cases hq
  · have e_ := List.mem_singleton.mp hq
    subst e_
    exact ⟨h', yfr_sm K_.2.2.2 hs K_.1 (ywa_r xe5_w List.mem_cons_self), ⟨fun a_ j_ => yfr_bp K_.2.2.2 (fun q_ hq => absurd hq List.not_mem_nil), G_⟩⟩
-- xn0: 4 steps, 1 ends, 0 returns
def xn0_L : List (Nat × Nat × Nat) := []
def xn0_O : yO := []
def xn0_A : yA := (yZ xn0_L, [], [], [], [])
def xn0_C : List xB := []
def xn0_ss : List yS := [(4, [(2, .int 0), (1, .int 0), (0, .index 147)], [], [], [], [])]
def xn0_rs : List yR := []
theorem xn0_w : ywa xn0_A xn0_ss xn0_rs = true := by decide +kernel
theorem xn0_k : yis (yev xn0_A 3000 60 29 [4] (0, [(0, .index 147)], [], xn0_O, xn0_C, [])) xn0_ss xn0_rs = true := by decide +kernel
def xn0_r (k_ : Nat) : Value := .int 0
def xn0_s (n_ : Nat) : Nat := 0
theorem xn0 {h_ : xH} (hs : sHp h_) : ∃ h', ysm h_ h' ∧ (((∀ a_ j_ : Nat, bpat h' a_ j_ = bpat h_ a_ j_) ∧ (bldD 60 29 0 [(0, .index 147)] [] h_ 4 [(2, .int (0 : Int32)), (1, .int (0 : Int32)), (0, .index 147)] [] h'))) := by
  have hA : yas xn0_A xn0_r (yg xn0_s) := ⟨fun q_ hq => absurd hq List.not_mem_nil, fun q_ hq => absurd hq List.not_mem_nil, fun q_ hq => absurd hq List.not_mem_nil, fun n_ hn => yg_lo hn, fun q_ hq => absurd hq List.not_mem_nil⟩
  have Hs : ysh xn0_A.1 (yg xn0_s) h_ := ysh_of2 hs (fun q_ hq => absurd hq List.not_mem_nil)
  have Ho : ymem xn0_r (yg xn0_s) xn0_O h_ := fun q_ hq => absurd hq List.not_mem_nil
  have HC : ∀ q_ ∈ xn0_C, xhold xn0_r q_ := fun q_ hq => absurd hq List.not_mem_nil
  rcases yrun (yis_ok xn0_k) hA Hs Ho HC with ⟨q_, hq, h', K_, G_⟩ | ⟨q_, hq, h', K_, G_⟩
  · have e_ := List.mem_singleton.mp hq
    subst e_
    exact ⟨h', yfr_sm K_.2.2.2 hs K_.1 (ywa_s xn0_w List.mem_cons_self), ⟨fun a_ j_ => yfr_bp K_.2.2.2 (fun q_ hq => absurd hq List.not_mem_nil), G_⟩⟩
  · cases hq
-- xnx: 6 steps, 1 ends, 0 returns
def xnx_L : List (Nat × Nat × Nat) := []
def xnx_O : yO := [(147, .int 0, .index 148)]
def xnx_A : yA := (yZ xnx_L, [], [], [], [])
def xnx_C : List xB := [(.lt, .arg 2, .int 4, false)]
def xnx_ss : List yS := [(53, [(2, .arg 2), (1, .arg 1), (0, .index 147)], [.arg 1, .index 148], [(147, .int 0, .index 148)], [(.lt, .arg 2, .int 4, false)], [])]
def xnx_rs : List yR := []
theorem xnx_w : ywa xnx_A xnx_ss xnx_rs = true := by decide +kernel
theorem xnx_k : yis (yev xnx_A 3000 60 29 [53] (4, [(2, .arg 2), (1, .arg 1), (0, .index 147)], [], xnx_O, xnx_C, [])) xnx_ss xnx_rs = true := by decide +kernel
def xnx_r (v1_ v2 : Int32) (k_ : Nat) : Value := bif Nat.beq k_ 1 then .int v1_ else (bif Nat.beq k_ 2 then .int v2 else (.int 0))
def xnx_s (n_ : Nat) : Nat := 0
theorem xnx {h_ : xH} {v1_ v2 : Int32} (hs : sHp h_) (c0_ : (4 : Int32).toInt ≤ v2.toInt) : ∃ h', ysm h_ h' ∧ (((∀ a_ j_ : Nat, bpat h' a_ j_ = bpat h_ a_ j_) ∧ (bldD 60 29 4 [(2, .int v2), (1, .int v1_), (0, .index 147)] [] h_ 53 [(2, .int v2), (1, .int v1_), (0, .index 147)] [.int v1_, .index 148] h'))) := by
  have hA : yas xnx_A (xnx_r v1_ v2) (yg xnx_s) := ⟨fun q_ hq => absurd hq List.not_mem_nil, fun q_ hq => absurd hq List.not_mem_nil, fun q_ hq => absurd hq List.not_mem_nil, fun n_ hn => yg_lo hn, fun q_ hq => absurd hq List.not_mem_nil⟩
  have Hs : ysh xnx_A.1 (yg xnx_s) h_ := ysh_of2 hs (fun q_ hq => absurd hq List.not_mem_nil)
  have Ho : ymem (xnx_r v1_ v2) (yg xnx_s) xnx_O h_ := List.forall_mem_cons.mpr ⟨bpat_some (fxr_at hs.2 (show fxk fxl 147 0 = some 148 by decide +kernel)), fun q_ hq => absurd hq List.not_mem_nil⟩
  have HC : ∀ q_ ∈ xnx_C, xhold (xnx_r v1_ v2) q_ := List.forall_mem_cons.mpr ⟨xh_ltF c0_, fun q_ hq => absurd hq List.not_mem_nil⟩
  rcases yrun (yis_ok xnx_k) hA Hs Ho HC with ⟨q_, hq, h', K_, G_⟩ | ⟨q_, hq, h', K_, G_⟩
  · have e_ := List.mem_singleton.mp hq
    subst e_
    exact ⟨h', yfr_sm K_.2.2.2 hs K_.1 (ywa_s xnx_w List.mem_cons_self), ⟨fun a_ j_ => yfr_bp K_.2.2.2 (fun q_ hq => absurd hq List.not_mem_nil), G_⟩⟩
  · cases hq
-- xnl: 4 steps, 1 ends, 0 returns
def xnl_L : List (Nat × Nat × Nat) := []
def xnl_O : yO := []
def xnl_A : yA := (yZ xnl_L, [], [], [], [])
def xnl_C : List xB := [(.lt, .arg 2, .int 4, true)]
def xnl_ss : List yS := [(10, [(2, .arg 2), (1, .arg 1), (0, .index 147)], [.index 147], [], [(.lt, .arg 2, .int 4, true)], [])]
def xnl_rs : List yR := []
theorem xnl_w : ywa xnl_A xnl_ss xnl_rs = true := by decide +kernel
theorem xnl_k : yis (yev xnl_A 3000 60 29 [10] (4, [(2, .arg 2), (1, .arg 1), (0, .index 147)], [], xnl_O, xnl_C, [])) xnl_ss xnl_rs = true := by decide +kernel
def xnl_r (v1_ v2 : Int32) (k_ : Nat) : Value := bif Nat.beq k_ 1 then .int v1_ else (bif Nat.beq k_ 2 then .int v2 else (.int 0))
def xnl_s (n_ : Nat) : Nat := 0
theorem xnl {h_ : xH} {v1_ v2 : Int32} (hs : sHp h_) (c0_ : v2.toInt < (4 : Int32).toInt) : ∃ h', ysm h_ h' ∧ (((∀ a_ j_ : Nat, bpat h' a_ j_ = bpat h_ a_ j_) ∧ (bldD 60 29 4 [(2, .int v2), (1, .int v1_), (0, .index 147)] [] h_ 10 [(2, .int v2), (1, .int v1_), (0, .index 147)] [.index 147] h'))) := by
  have hA : yas xnl_A (xnl_r v1_ v2) (yg xnl_s) := ⟨fun q_ hq => absurd hq List.not_mem_nil, fun q_ hq => absurd hq List.not_mem_nil, fun q_ hq => absurd hq List.not_mem_nil, fun n_ hn => yg_lo hn, fun q_ hq => absurd hq List.not_mem_nil⟩
  have Hs : ysh xnl_A.1 (yg xnl_s) h_ := ysh_of2 hs (fun q_ hq => absurd hq List.not_mem_nil)
  have Ho : ymem (xnl_r v1_ v2) (yg xnl_s) xnl_O h_ := fun q_ hq => absurd hq List.not_mem_nil
  have HC : ∀ q_ ∈ xnl_C, xhold (xnl_r v1_ v2) q_ := List.forall_mem_cons.mpr ⟨xh_ltT c0_, fun q_ hq => absurd hq List.not_mem_nil⟩
  rcases yrun (yis_ok xnl_k) hA Hs Ho HC with ⟨q_, hq, h', K_, G_⟩ | ⟨q_, hq, h', K_, G_⟩
  · have e_ := List.mem_singleton.mp hq
    subst e_
    exact ⟨h', yfr_sm K_.2.2.2 hs K_.1 (ywa_s xnl_w List.mem_cons_self), ⟨fun a_ j_ => yfr_bp K_.2.2.2 (fun q_ hq => absurd hq List.not_mem_nil), G_⟩⟩
  · cases hq
-- xne: 5 steps, 1 ends, 0 returns
def xne_L : List (Nat × Nat × Nat) := []
def xne_O : yO := [(147, .int 0, .index 148)]
def xne_A : yA := (yZ xne_L, [], [], [], [(30, [.arg 5], .arg 500)])
def xne_C : List xB := [(.eq, .arg 500, .int 0, true)]
def xne_ss : List yS := [(53, [(2, .arg 2), (1, .arg 1), (0, .index 147)], [.arg 1, .index 148], [(147, .int 0, .index 148)], [(.eq, .arg 500, .int 0, true)], [])]
def xne_rs : List yR := []
theorem xne_w : ywa xne_A xne_ss xne_rs = true := by decide +kernel
theorem xne_k : yis (yev xne_A 3000 60 29 [53] (13, [(2, .arg 2), (1, .arg 1), (0, .index 147)], [.arg 5], xne_O, xne_C, [])) xne_ss xne_rs = true := by decide +kernel
def xne_r (v1_ v2 v5 v500 : Int32) (k_ : Nat) : Value := bif Nat.beq k_ 1 then .int v1_ else (bif Nat.beq k_ 2 then .int v2 else (bif Nat.beq k_ 5 then .int v5 else (bif Nat.beq k_ 500 then .int v500 else (.int 0))))
def xne_s (n_ : Nat) : Nat := 0
theorem xne {h_ : xH} {v1_ v2 v5 v500 : Int32} (hs : sHp h_) (p0_ : ∀ (h_ : xH) (D_ : Nat), 5 ≤ D_ → xrun D_ 30 0 [(0, .int v5)] [] h_ (some (.int v500), h_, [])) (c0_ : v500 = (0 : Int32)) : ∃ h', ysm h_ h' ∧ (((∀ a_ j_ : Nat, bpat h' a_ j_ = bpat h_ a_ j_) ∧ (bldD 60 29 13 [(2, .int v2), (1, .int v1_), (0, .index 147)] [.int v5] h_ 53 [(2, .int v2), (1, .int v1_), (0, .index 147)] [.int v1_, .index 148] h'))) := by
  have hA : yas xne_A (xne_r v1_ v2 v5 v500) (yg xne_s) := ⟨fun q_ hq => absurd hq List.not_mem_nil, fun q_ hq => absurd hq List.not_mem_nil, fun q_ hq => absurd hq List.not_mem_nil, fun n_ hn => yg_lo hn, List.forall_mem_cons.mpr ⟨p0_, fun q_ hq => absurd hq List.not_mem_nil⟩⟩
  have Hs : ysh xne_A.1 (yg xne_s) h_ := ysh_of2 hs (fun q_ hq => absurd hq List.not_mem_nil)
  have Ho : ymem (xne_r v1_ v2 v5 v500) (yg xne_s) xne_O h_ := List.forall_mem_cons.mpr ⟨bpat_some (fxr_at hs.2 (show fxk fxl 147 0 = some 148 by decide +kernel)), fun q_ hq => absurd hq List.not_mem_nil⟩
  have HC : ∀ q_ ∈ xne_C, xhold (xne_r v1_ v2 v5 v500) q_ := List.forall_mem_cons.mpr ⟨xh_eqT2 c0_, fun q_ hq => absurd hq List.not_mem_nil⟩
  rcases yrun (yis_ok xne_k) hA Hs Ho HC with ⟨q_, hq, h', K_, G_⟩ | ⟨q_, hq, h', K_, G_⟩
  · have e_ := List.mem_singleton.mp hq
    subst e_
    exact ⟨h', yfr_sm K_.2.2.2 hs K_.1 (ywa_s xne_w List.mem_cons_self), ⟨fun a_ j_ => yfr_bp K_.2.2.2 (fun q_ hq => absurd hq List.not_mem_nil), G_⟩⟩
  · cases hq
-- xnd: 6 steps, 1 ends, 0 returns
def xnd_L : List (Nat × Nat × Nat) := []
def xnd_O : yO := []
def xnd_A : yA := (yZ xnd_L, [], [], [], [(30, [.arg 5], .arg 500)])
def xnd_C : List xB := [(.eq, .arg 500, .int 0, false)]
def xnd_ss : List yS := [(24, [(2, .arg 2), (1, .arg 1), (0, .index 147)], [.index 147, .mul (.arg 1) (.int 10)], [], [(.eq, .arg 500, .int 0, false)], [])]
def xnd_rs : List yR := []
theorem xnd_w : ywa xnd_A xnd_ss xnd_rs = true := by decide +kernel
theorem xnd_k : yis (yev xnd_A 3000 60 29 [24] (13, [(2, .arg 2), (1, .arg 1), (0, .index 147)], [.arg 5], xnd_O, xnd_C, [])) xnd_ss xnd_rs = true := by decide +kernel
def xnd_r (v1_ v2 v5 v500 : Int32) (k_ : Nat) : Value := bif Nat.beq k_ 1 then .int v1_ else (bif Nat.beq k_ 2 then .int v2 else (bif Nat.beq k_ 5 then .int v5 else (bif Nat.beq k_ 500 then .int v500 else (.int 0))))
def xnd_s (n_ : Nat) : Nat := 0
theorem xnd {h_ : xH} {v1_ v2 v5 v500 : Int32} (hs : sHp h_) (p0_ : ∀ (h_ : xH) (D_ : Nat), 5 ≤ D_ → xrun D_ 30 0 [(0, .int v5)] [] h_ (some (.int v500), h_, [])) (c0_ : ¬ v500 = (0 : Int32)) : ∃ h', ysm h_ h' ∧ (((∀ a_ j_ : Nat, bpat h' a_ j_ = bpat h_ a_ j_) ∧ (bldD 60 29 13 [(2, .int v2), (1, .int v1_), (0, .index 147)] [.int v5] h_ 24 [(2, .int v2), (1, .int v1_), (0, .index 147)] [.index 147, .int (v1_ * (10 : Int32))] h'))) := by
  have hA : yas xnd_A (xnd_r v1_ v2 v5 v500) (yg xnd_s) := ⟨fun q_ hq => absurd hq List.not_mem_nil, fun q_ hq => absurd hq List.not_mem_nil, fun q_ hq => absurd hq List.not_mem_nil, fun n_ hn => yg_lo hn, List.forall_mem_cons.mpr ⟨p0_, fun q_ hq => absurd hq List.not_mem_nil⟩⟩
  have Hs : ysh xnd_A.1 (yg xnd_s) h_ := ysh_of2 hs (fun q_ hq => absurd hq List.not_mem_nil)
  have Ho : ymem (xnd_r v1_ v2 v5 v500) (yg xnd_s) xnd_O h_ := fun q_ hq => absurd hq List.not_mem_nil
  have HC : ∀ q_ ∈ xnd_C, xhold (xnd_r v1_ v2 v5 v500) q_ := List.forall_mem_cons.mpr ⟨xh_eqF2 c0_, fun q_ hq => absurd hq List.not_mem_nil⟩
  rcases yrun (yis_ok xnd_k) hA Hs Ho HC with ⟨q_, hq, h', K_, G_⟩ | ⟨q_, hq, h', K_, G_⟩
  · have e_ := List.mem_singleton.mp hq
    subst e_
    exact ⟨h', yfr_sm K_.2.2.2 hs K_.1 (ywa_s xnd_w List.mem_cons_self), ⟨fun a_ j_ => yfr_bp K_.2.2.2 (fun q_ hq => absurd hq List.not_mem_nil), G_⟩⟩
  · cases hq
-- xnt: 12 steps, 1 ends, 0 returns
def xnt_L : List (Nat × Nat × Nat) := []
def xnt_O : yO := [(147, .int 3, .arg 300)]
def xnt_A : yA := (yZ xnt_L, [], [], [], [])
def xnt_C : List xB := []
def xnt_ss : List yS := [(4, [(2, .add (.arg 2) (.int 1)), (1, .sub (.add (.arg 6) (.arg 5)) (.int 48)), (0, .index 147)], [], [(147, .int 3, .add (.arg 300) (.int 1))], [], [(147, .int 3)])]
def xnt_rs : List yR := []
theorem xnt_w : ywa xnt_A xnt_ss xnt_rs = true := by decide +kernel
theorem xnt_k : yis (yev xnt_A 3000 60 29 [4] (27, [(2, .arg 2), (1, .arg 1), (0, .index 147)], [.arg 5, .arg 6], xnt_O, xnt_C, [])) xnt_ss xnt_rs = true := by decide +kernel
def xnt_r (v1_ v2 v5 v6 v300 : Int32) (k_ : Nat) : Value := bif Nat.beq k_ 1 then .int v1_ else (bif Nat.beq k_ 2 then .int v2 else (bif Nat.beq k_ 5 then .int v5 else (bif Nat.beq k_ 6 then .int v6 else (bif Nat.beq k_ 300 then .int v300 else (.int 0)))))
def xnt_s (n_ : Nat) : Nat := 0
theorem xnt {h_ : xH} {v1_ v2 v5 v6 v300 : Int32} (hs : sHp h_) (o0_ : bpat h_ 147 3 = some (.int v300)) : ∃ h', ysm h_ h' ∧ (((bpat h' 147 3 = some (.int (v300 + (1 : Int32)))) ∧ (∀ a_ j_ : Nat, ¬ (a_ = 147 ∧ j_ = 3) → bpat h' a_ j_ = bpat h_ a_ j_) ∧ (bldD 60 29 27 [(2, .int v2), (1, .int v1_), (0, .index 147)] [.int v5, .int v6] h_ 4 [(2, .int (v2 + (1 : Int32))), (1, .int ((v6 + v5) - (48 : Int32))), (0, .index 147)] [] h'))) := by
  have hA : yas xnt_A (xnt_r v1_ v2 v5 v6 v300) (yg xnt_s) := ⟨fun q_ hq => absurd hq List.not_mem_nil, fun q_ hq => absurd hq List.not_mem_nil, fun q_ hq => absurd hq List.not_mem_nil, fun n_ hn => yg_lo hn, fun q_ hq => absurd hq List.not_mem_nil⟩
  have Hs : ysh xnt_A.1 (yg xnt_s) h_ := ysh_of2 hs (fun q_ hq => absurd hq List.not_mem_nil)
  have Ho : ymem (xnt_r v1_ v2 v5 v6 v300) (yg xnt_s) xnt_O h_ := List.forall_mem_cons.mpr ⟨bpat_some o0_, fun q_ hq => absurd hq List.not_mem_nil⟩
  have HC : ∀ q_ ∈ xnt_C, xhold (xnt_r v1_ v2 v5 v6 v300) q_ := fun q_ hq => absurd hq List.not_mem_nil
  rcases yrun (yis_ok xnt_k) hA Hs Ho HC with ⟨q_, hq, h', K_, G_⟩ | ⟨q_, hq, h', K_, G_⟩
  · have e_ := List.mem_singleton.mp hq
    subst e_
    exact ⟨h', yfr_sm K_.2.2.2 hs K_.1 (ywa_s xnt_w List.mem_cons_self), ⟨bpat_of (K_.2.1 _ List.mem_cons_self), fun a_ j_ n0_ => yfr_bp K_.2.2.2 (List.forall_mem_cons.mpr ⟨fun e_ => n0_ ⟨e_.1.symm, e_.2.symm⟩, fun q_ hq => absurd hq List.not_mem_nil⟩), G_⟩⟩
  · cases hq
-- xnr: 2 steps, 0 ends, 1 returns
def xnr_L : List (Nat × Nat × Nat) := []
def xnr_O : yO := []
def xnr_A : yA := (yZ xnr_L, [], [], [], [])
def xnr_C : List xB := []
def xnr_ss : List yS := []
def xnr_rs : List yR := [(none, [], [], [])]
theorem xnr_w : ywa xnr_A xnr_ss xnr_rs = true := by decide +kernel
theorem xnr_k : yis (yev xnr_A 3000 60 29 [] (56, [(2, .arg 2), (1, .arg 1), (0, .index 147)], [.arg 5], xnr_O, xnr_C, [])) xnr_ss xnr_rs = true := by decide +kernel
def xnr_r (v1_ v2 v5 : Int32) (k_ : Nat) : Value := bif Nat.beq k_ 1 then .int v1_ else (bif Nat.beq k_ 2 then .int v2 else (bif Nat.beq k_ 5 then .int v5 else (.int 0)))
def xnr_s (n_ : Nat) : Nat := 0
theorem xnr {h_ : xH} {v1_ v2 v5 : Int32} (hs : sHp h_) : ∃ h', ysm h_ h' ∧ (((∀ a_ j_ : Nat, bpat h' a_ j_ = bpat h_ a_ j_) ∧ (∀ D_, 60 ≤ D_ → xrun D_ 29 56 [(2, .int v2), (1, .int v1_), (0, .index 147)] [.int v5] h_ (none, h', [])))) := by
  have hA : yas xnr_A (xnr_r v1_ v2 v5) (yg xnr_s) := ⟨fun q_ hq => absurd hq List.not_mem_nil, fun q_ hq => absurd hq List.not_mem_nil, fun q_ hq => absurd hq List.not_mem_nil, fun n_ hn => yg_lo hn, fun q_ hq => absurd hq List.not_mem_nil⟩
  have Hs : ysh xnr_A.1 (yg xnr_s) h_ := ysh_of2 hs (fun q_ hq => absurd hq List.not_mem_nil)
  have Ho : ymem (xnr_r v1_ v2 v5) (yg xnr_s) xnr_O h_ := fun q_ hq => absurd hq List.not_mem_nil
  have HC : ∀ q_ ∈ xnr_C, xhold (xnr_r v1_ v2 v5) q_ := fun q_ hq => absurd hq List.not_mem_nil
  rcases yrun (yis_ok xnr_k) hA Hs Ho HC with ⟨q_, hq, h', K_, G_⟩ | ⟨q_, hq, h', K_, G_⟩
  · cases hq
  · have e_ := List.mem_singleton.mp hq
    subst e_
    exact ⟨h', yfr_sm K_.2.2.2 hs K_.1 (ywa_r xnr_w List.mem_cons_self), ⟨fun a_ j_ => yfr_bp K_.2.2.2 (fun q_ hq => absurd hq List.not_mem_nil), G_⟩⟩
theorem jlp_4 (tx : String) (b_ : Int32) : jlp tx b_ 4 0 = if xchr tx 0 = b_ then 0 else if xchr tx 1 = b_ then 1 else if xchr tx 2 = b_ then 2 else if xchr tx 3 = b_ then 3 else -1 := rfl
theorem xch00 : xchr "sinm" 0 = 115 := by decide +kernel
theorem xch01 : xchr "sinm" 1 = 105 := by decide +kernel
theorem xch02 : xchr "sinm" 2 = 110 := by decide +kernel
theorem xch03 : xchr "sinm" 3 = 109 := by decide +kernel
theorem ixk0 : (List.range 256).all (fun n_ => decide ((if jce (((Int32.ofNat n_).toUInt32 % 65536).toInt32) = 0 then (-1 : Int32) else if (115 : Int32) = (((Int32.ofNat n_).toUInt32 % 65536).toInt32).toInt8.toInt32 then 0 else if (105 : Int32) = (((Int32.ofNat n_).toUInt32 % 65536).toInt32).toInt8.toInt32 then 1 else if (110 : Int32) = (((Int32.ofNat n_).toUInt32 % 65536).toInt32).toInt8.toInt32 then 2 else if (109 : Int32) = (((Int32.ofNat n_).toUInt32 % 65536).toInt32).toInt8.toInt32 then 3 else -1) = if nmi 0 (Int32.ofNat n_) < 4 then Int32.ofNat (nmi 0 (Int32.ofNat n_)) else -1)) = true := by decide +kernel
theorem ix0_ {x_ : Int32} (h1 : 0 ≤ x_.toInt) (h2 : x_.toInt ≤ 255) : jix "sinm" ((x_.toUInt32 % 65536).toInt32) = if nmi 0 x_ < 4 then Int32.ofNat (nmi 0 x_) else -1 := by
  have e_ : x_ = Int32.ofNat x_.toInt.toNat := by
    refine Int32.toInt_inj.mp ?_
    rw [i32n (by omega)]
    omega
  unfold jix
  rw [jlp_4, xch00, xch01, xch02, xch03]
  rw [e_]
  exact of_decide_eq_true (List.all_eq_true.mp ixk0 _ (List.mem_range.mpr (by omega)))
theorem xch10 : xchr "ohbt" 0 = 111 := by decide +kernel
theorem xch11 : xchr "ohbt" 1 = 104 := by decide +kernel
theorem xch12 : xchr "ohbt" 2 = 98 := by decide +kernel
theorem xch13 : xchr "ohbt" 3 = 116 := by decide +kernel
theorem ixk1 : (List.range 256).all (fun n_ => decide ((if jce (((Int32.ofNat n_).toUInt32 % 65536).toInt32) = 0 then (-1 : Int32) else if (111 : Int32) = (((Int32.ofNat n_).toUInt32 % 65536).toInt32).toInt8.toInt32 then 0 else if (104 : Int32) = (((Int32.ofNat n_).toUInt32 % 65536).toInt32).toInt8.toInt32 then 1 else if (98 : Int32) = (((Int32.ofNat n_).toUInt32 % 65536).toInt32).toInt8.toInt32 then 2 else if (116 : Int32) = (((Int32.ofNat n_).toUInt32 % 65536).toInt32).toInt8.toInt32 then 3 else -1) = if nmi 1 (Int32.ofNat n_) < 4 then Int32.ofNat (nmi 1 (Int32.ofNat n_)) else -1)) = true := by decide +kernel
theorem ix1_ {x_ : Int32} (h1 : 0 ≤ x_.toInt) (h2 : x_.toInt ≤ 255) : jix "ohbt" ((x_.toUInt32 % 65536).toInt32) = if nmi 1 x_ < 4 then Int32.ofNat (nmi 1 x_) else -1 := by
  have e_ : x_ = Int32.ofNat x_.toInt.toNat := by
    refine Int32.toInt_inj.mp ?_
    rw [i32n (by omega)]
    omega
  unfold jix
  rw [jlp_4, xch10, xch11, xch12, xch13]
  rw [e_]
  exact of_decide_eq_true (List.all_eq_true.mp ixk1 _ (List.mem_range.mpr (by omega)))
theorem c_ix {u_ : Nat} {q_ : Nat × Nat × String} {lo_ : xL} {y_ : Int32} {h_ : xH} (hcc : xcc h_.length lo_ [] = true) (hq : xstra (102 + u_ - 101) = some q_) : bldD 4 26 32 lo_ [.int y_, .arg (102 + u_)] h_ 35 lo_ [.int (jix q_.2.2 y_)] h_ := by
  intro D_ hD o z_
  refine xrun_ix (mi := 26) (pc := 32) rfl ?_ z_
  have hkk : (Nat.ble 4 D_ && (Nat.ble 101 (102 + u_) && xcc h_.length lo_ [])) = true := by
    rw [Nat.ble_eq_true_of_le hD, Nat.ble_eq_true_of_le (show 101 ≤ 102 + u_ by omega), hcc]
    rfl
  simp only [xixs, hkk, hq]
section
variable {u_ : Nat} {T : List Int32}
theorem RX_l (hT_ : T.length ≤ 60) {h_ : xH} {a_ : Nat} {c_ : List Int32} (R_ : RX u_ T h_ a_ c_) : c_.length ≤ 60 := R_.2.1.2.2.1
/-- a number -/
theorem nb_lp (hT_ : byts T) {c_ : List Int32} : ∀ (n_ a_ i_ : Nat) (v_ : Int32) (h_ : xH), i_ + n_ = 4 → a_ ≤ T.length → RX u_ T h_ a_ c_ → ∃ h' i', (RX u_ T h' (rdn T n_ a_ v_).1 c_ ∧ frD h_ h') ∧ bldD 66 29 4 [(2, .int (Int32.ofNat i_)), (1, .int v_), (0, .index 147)] [] h_ 53 [(2, .int i'), (1, .int (rdn T n_ a_ v_).2), (0, .index 147)] [.int (rdn T n_ a_ v_).2, .index 148] h' := by
  intro n_
  have z4 := i4_
  induction n_ with
  | zero =>
    intro a_ i_ v_ h_ hi_ ha_ R_
    obtain ⟨h1, m_, f_, ld⟩ := xnx (v1_ := v_) (v2 := Int32.ofNat i_) R_.1 (by rw [i32n (by omega)]; omega)
    exact ⟨h1, Int32.ofNat i_, ⟨RX_all R_ m_ f_, frD_all m_ f_⟩, fun D_ hD => ld D_ (by omega)⟩
  | succ n_ ih_ =>
    intro a_ i_ v_ h_ hi_ ha_ R_
    obtain ⟨h1, m1_, f1_, ld1⟩ := xnl (v1_ := v_) (v2 := Int32.ofNat i_) R_.1 (by rw [i32n (by omega)]; omega)
    have R1 := RX_all R_ m1_ f1_
    obtain ⟨h2, ⟨R2, F2⟩, ld2⟩ := c_nx (mi := 29) (pc := 10) (lo_ := [(2, .int (Int32.ofNat i_)), (1, .int v_), (0, .index 147)]) (s' := []) rfl (xcc_l (List.forall_mem_cons.mpr ⟨rfl, List.forall_mem_cons.mpr ⟨rfl, List.forall_mem_cons.mpr ⟨xidx_i (bcq_lt (bcq_of (n_ := 147) (z_ := (4, 4)) R1.1 rfl)), fun q_ hq => absurd hq List.not_mem_nil⟩⟩⟩) (fun t_ ht => absurd ht List.not_mem_nil) (Nat.le_of_ble_eq_true rfl)) R1 ha_
    show ∃ h' i', (RX u_ T h' (if 48 ≤ (nxt T a_).toInt ∧ (nxt T a_).toInt ≤ 57 then rdn T n_ (a_ + 1) (v_ * 10 + nxt T a_ - 48) else (a_, v_)).1 c_ ∧ frD h_ h') ∧ bldD 66 29 4 [(2, .int (Int32.ofNat i_)), (1, .int v_), (0, .index 147)] [] h_ 53 [(2, .int i'), (1, .int (if 48 ≤ (nxt T a_).toInt ∧ (nxt T a_).toInt ≤ 57 then rdn T n_ (a_ + 1) (v_ * 10 + nxt T a_ - 48) else (a_, v_)).2), (0, .index 147)] [.int (if 48 ≤ (nxt T a_).toInt ∧ (nxt T a_).toInt ≤ 57 then rdn T n_ (a_ + 1) (v_ * 10 + nxt T a_ - 48) else (a_, v_)).2, .index 148] h'
    by_cases g_ : 48 ≤ (nxt T a_).toInt ∧ (nxt T a_).toInt ≤ 57
    · rw [if_pos g_]
      have lt_ : a_ < T.length := nxt_lt (fun q_ => by rw [q_] at g_; exact absurd g_.1 (by decide))
      obtain ⟨h3, m3_, f3_, ld3⟩ := xnd (v1_ := v_) (v2 := Int32.ofNat i_) (v5 := nxt T a_) (v500 := puD_F (nxt T a_)) R2.1 (puD (nxt T a_)) (by rw [puD_1 g_]; decide)
      have R3 := RX_all R2 m3_ f3_
      obtain ⟨h4, ⟨R4, F4⟩, ld4⟩ := c_nx (mi := 29) (pc := 24) (lo_ := [(2, .int (Int32.ofNat i_)), (1, .int v_), (0, .index 147)]) (s' := [.int (v_ * 10)]) rfl (xcc_l (List.forall_mem_cons.mpr ⟨rfl, List.forall_mem_cons.mpr ⟨rfl, List.forall_mem_cons.mpr ⟨xidx_i (bcq_lt (bcq_of (n_ := 147) (z_ := (4, 4)) R3.1 rfl)), fun q_ hq => absurd hq List.not_mem_nil⟩⟩⟩) (List.forall_mem_cons.mpr ⟨⟨rfl, rfl⟩, fun t_ ht => absurd ht List.not_mem_nil⟩) (Nat.le_of_ble_eq_true rfl)) R3 ha_
      obtain ⟨h5, m5_, e5_, f5_, ld5⟩ := xnt (v2 := Int32.ofNat i_) (v5 := nxt T a_) (v6 := v_ * 10) (v300 := Int32.ofNat a_) R4.1 R4.2.2.1
      rw [i32s] at e5_ ld5
      obtain ⟨R5, F5⟩ := RX_at R4 m5_ e5_ f5_
      obtain ⟨h6, i6_, ⟨R6, F6⟩, ld6⟩ := ih_ (a_ + 1) (i_ + 1) (v_ * 10 + nxt T a_ - 48) h5 (by omega) (by omega) R5
      exact ⟨h6, i6_, ⟨R6, frD_tr (frD_all m1_ f1_) (frD_tr F2 (frD_tr (frD_all m3_ f3_) (frD_tr F4 (frD_tr F5 F6))))⟩, fun D_ hD o z_ => ld1 D_ (by omega) _ (ld2 D_ (by omega) _ (ld3 D_ (by omega) _ (ld4 D_ (by omega) _ (ld5 D_ (by omega) _ (ld6 D_ (by omega) o z_)))))⟩
    · rw [if_neg g_]
      obtain ⟨h3, m3_, f3_, ld3⟩ := xne (v1_ := v_) (v2 := Int32.ofNat i_) (v5 := nxt T a_) (v500 := puD_F (nxt T a_)) R2.1 (puD (nxt T a_)) (puD_0 g_)
      exact ⟨h3, Int32.ofNat i_, ⟨RX_all R2 m3_ f3_, frD_tr (frD_all m1_ f1_) (frD_tr F2 (frD_all m3_ f3_))⟩, fun D_ hD o z_ => ld1 D_ (by omega) _ (ld2 D_ (by omega) _ (ld3 D_ (by omega) o z_))⟩
theorem nbX (hT_ : byts T) {c_ : List Int32} {a_ : Nat} {h_ : xH} (ha_ : a_ ≤ T.length) (hc_ : c_.length ≤ a_) (R_ : RX u_ T h_ a_ c_) (g_ : 48 ≤ (nxt T a_).toInt ∧ (nxt T a_).toInt ≤ 57) : ∃ h', (RX u_ T h' (rdn T 4 a_ 0).1 (c_ ++ [(rdn T 4 a_ 0).2]) ∧ frD h_ h') ∧ ∀ D_, 68 ≤ D_ → xrun D_ 29 0 [(0, .index 147)] [] h_ (none, h', []) := by
  have lt_ : a_ < T.length := nxt_lt (fun q_ => by rw [q_] at g_; exact absurd g_.1 (by decide))
  have l60 := hT_.1
  obtain ⟨h1, m1_, f1_, ld1⟩ := xn0 R_.1
  obtain ⟨h2, i2_, ⟨R2, F2⟩, ld2⟩ := nb_lp hT_ 4 a_ 0 0 h1 rfl ha_ (RX_all R_ m1_ f1_)
  obtain ⟨h3, c3_, r3, ⟨⟨R3, F3⟩, e3_⟩, ld3⟩ := c_ad (y_ := (rdn T 4 a_ 0).2) (mi := 29) (pc := 53) (lo_ := [(2, .int i2_), (1, .int (rdn T 4 a_ 0).2), (0, .index 147)]) (s' := []) rfl (xcc_l (List.forall_mem_cons.mpr ⟨rfl, List.forall_mem_cons.mpr ⟨rfl, List.forall_mem_cons.mpr ⟨xidx_i (bcq_lt (bcq_of (n_ := 147) (z_ := (4, 4)) R2.1 rfl)), fun q_ hq => absurd hq List.not_mem_nil⟩⟩⟩) (fun t_ ht => absurd ht List.not_mem_nil) (Nat.le_of_ble_eq_true rfl)) R2
  rw [e3_ (by omega)] at R3
  obtain ⟨h4, m4_, f4_, r4⟩ := xnr (v1_ := (rdn T 4 a_ 0).2) (v2 := i2_) (v5 := r3) R3.1
  exact ⟨h4, ⟨RX_all R3 m4_ f4_, frD_tr (frD_all m1_ f1_) (frD_tr F2 (frD_tr F3 (frD_all m4_ f4_)))⟩, fun D_ hD => ld1 D_ (by omega) _ (ld2 D_ (by omega) _ (ld3 D_ (by omega) _ (r4 D_ (by omega))))⟩
-- ===== contracts, by the fuel
def LXs (u_ : Nat) (T : List Int32) (f_ : Nat) : Prop := ∀ (k_ o a_ : Nat) (c_ : List Int32) (b_ : Bool) (a' : Nat) (c' : List Int32) (h_ : xH), k_ ≤ 5 → o ≤ 5 → a_ ≤ T.length → c_.length ≤ a_ → RX u_ T h_ a_ c_ → prs T u_ f_ k_ o a_ c_ = some (b_, (a', c')) → ∃ h' c2_, ((RX u_ T h' a' c2_ ∧ frD h_ h') ∧ (b_ = true → c2_ = c')) ∧ ∀ D_, 76 + 10 * (5 - o) - k_ ≤ D_ → xrun D_ 25 0 [(0, .index 147), (1, .int (Int32.ofNat k_)), (2, .int (Int32.ofNat o))] [] h_ (some (.int (bI b_)), h', [])
def QXs (u_ : Nat) (T : List Int32) (f_ : Nat) : Prop := ∀ (o a_ : Nat) (c_ : List Int32) (b_ : Bool) (a' : Nat) (c' : List Int32) (h_ : xH), o ≤ 5 → a_ ≤ T.length → c_.length ≤ a_ → RX u_ T h_ a_ c_ → prs T u_ f_ 5 o a_ c_ = some (b_, (a', c')) → ∃ h' c2_, ((RX u_ T h' a' c2_ ∧ frD h_ h') ∧ (b_ = true → c2_ = c')) ∧ ∀ D_, 70 + 10 * (5 - o) ≤ D_ → xrun D_ 26 0 [(0, .index 147), (1, .int (Int32.ofNat o))] [] h_ (some (.int (bI b_)), h', [])
def hdJ (k_ o m_ i_ : Nat) (z_ : Int32) (lo_ : xL) : Prop := lo_ = [(5, .int (Int32.ofNat i_)), (4, .int (Int32.ofNat m_)), (3, .int z_), (0, .index 147), (1, .int (Int32.ofNat k_)), (2, .int (Int32.ofNat o))] ∨ ∃ y_ : Int32, lo_ = [(5, .int (Int32.ofNat i_)), (3, .int z_), (6, .int y_), (4, .int (Int32.ofNat m_)), (0, .index 147), (1, .int (Int32.ofNat k_)), (2, .int (Int32.ofNat o))]
def JXs (u_ : Nat) (T : List Int32) (f_ : Nat) : Prop := ∀ (k_ o m_ i_ a_ : Nat) (c_ : List Int32) (b_ : Bool) (a' : Nat) (c' : List Int32) (h_ : xH) (lo_ : xL), k_ ≤ 4 → o ≤ 5 → a_ ≤ T.length → c_.length ≤ a_ → ((¬ k_ = 2 ∧ (m_ = 60 ∧ i_ ≤ a_)) ∨ (k_ = 2 ∧ (m_ = 1 ∧ i_ = 0))) → hdJ k_ o m_ i_ 1 lo_ → RX u_ T h_ a_ c_ → prs T u_ f_ (10 + k_) o a_ c_ = some (b_, (a', c')) → ∃ h' c2_, ((RX u_ T h' a' c2_ ∧ frD h_ h') ∧ (b_ = true → c2_ = c')) ∧ ∀ D_, 76 + 10 * (5 - o) - k_ ≤ D_ → xrun D_ 25 36 lo_ [] h_ (some (.int (bI b_)), h', [])
/-- a loop that ends by what fell -/
theorem j_fl {k_ o m_ i_ a_ : Nat} {c_ : List Int32} {h_ : xH} {lo_ : xL} (R_ : RX u_ T h_ a_ c_) (H_ : hdJ k_ o m_ i_ 0 lo_) : ∃ h', (RX u_ T h' a_ c_ ∧ frD h_ h') ∧ ∀ D_, 60 ≤ D_ → xrun D_ 25 36 lo_ [] h_ (some (.int 0), h', []) := by
  rcases H_ with rfl | ⟨y_, rfl⟩
  · obtain ⟨h1, m1_, e_⟩ := xrleA (v1_ := Int32.ofNat k_) (v2 := Int32.ofNat o) (v4_ := Int32.ofNat m_) (v5 := Int32.ofNat i_) R_.1
    rcases e_ with ⟨-, f_, r_⟩ | ⟨-, f_, r_⟩
    · exact ⟨h1, ⟨RX_all R_ m1_ f_, frD_all m1_ f_⟩, r_⟩
    · exact ⟨h1, ⟨RX_all R_ m1_ f_, frD_all m1_ f_⟩, r_⟩
  · obtain ⟨h1, m1_, e_⟩ := xrleB (v1_ := Int32.ofNat k_) (v2 := Int32.ofNat o) (v4_ := Int32.ofNat m_) (v5 := Int32.ofNat i_) (v6 := y_) R_.1
    rcases e_ with ⟨-, f_, r_⟩ | ⟨-, f_, r_⟩
    · exact ⟨h1, ⟨RX_all R_ m1_ f_, frD_all m1_ f_⟩, r_⟩
    · exact ⟨h1, ⟨RX_all R_ m1_ f_, frD_all m1_ f_⟩, r_⟩
/-- that ends by how many -/
theorem j_mx {k_ o m_ i_ a_ : Nat} {c_ : List Int32} {h_ : xH} {lo_ : xL} (R_ : RX u_ T h_ a_ c_) (H_ : hdJ k_ o m_ i_ 1 lo_) (hm_ : m_ ≤ i_) (hi_ : i_ < 1000) : ∃ h', (RX u_ T h' a_ c_ ∧ frD h_ h') ∧ ∀ D_, 60 ≤ D_ → xrun D_ 25 36 lo_ [] h_ (some (.int 1), h', []) := by
  have c1_ : (Int32.ofNat m_).toInt ≤ (Int32.ofNat i_).toInt := by rw [i32n (by omega), i32n (by omega)]; omega
  rcases H_ with rfl | ⟨y_, rfl⟩
  · obtain ⟨h1, m1_, f_, r_⟩ := xrlmA (v1_ := Int32.ofNat k_) (v2 := Int32.ofNat o) (v4_ := Int32.ofNat m_) (v5 := Int32.ofNat i_) R_.1 c1_
    exact ⟨h1, ⟨RX_all R_ m1_ f_, frD_all m1_ f_⟩, r_⟩
  · obtain ⟨h1, m1_, f_, r_⟩ := xrlmB (v1_ := Int32.ofNat k_) (v2 := Int32.ofNat o) (v4_ := Int32.ofNat m_) (v5 := Int32.ofNat i_) (v6 := y_) R_.1 c1_
    exact ⟨h1, ⟨RX_all R_ m1_ f_, frD_all m1_ f_⟩, r_⟩
theorem bI_0 : bI false = 0 := rfl
theorem bI_1 : bI true = 1 := rfl
theorem i5n {k_ : Nat} (h_ : k_ ≤ 5) : (Int32.ofNat k_).toInt = (k_ : Int) := i32n (by omega)
theorem i5_ : (5 : Int32).toInt = 5 := rfl
theorem JX_s (hT_ : byts T) {f_ : Nat} (L_ : LXs u_ T f_) (J_ : JXs u_ T f_) : JXs u_ T (f_ + 1) := by
  intro k_ o m_ i_ a_ c_ b_ a' c' h_ lo_ hk ho ha_ hc_ hm_ H_ R_ P_
  rw [prs_j] at P_
  have l60 := hT_.1
  by_cases gi : m_ ≤ i_
  · have out_ : nxt T a_ = -1 := nxt_out (by omega)
    rw [if_neg (fun q_ => lv_n1 hk q_ out_)] at P_
    cases P_
    obtain ⟨h1, ⟨R1, F1_⟩, r1_⟩ := j_mx R_ H_ gi (by omega)
    exact ⟨h1, c_, ⟨⟨R1, F1_⟩, fun _ => rfl⟩, fun D_ hD => r1_ D_ (by omega)⟩
  have c1_ : (Int32.ofNat i_).toInt < (Int32.ofNat m_).toInt := by rw [i32n (by omega), i32n (by omega)]; omega
  rcases H_ with rfl | ⟨y_, rfl⟩
  ·
    obtain ⟨h1, m1_, f1_, ld1⟩ := xrljA (v1_ := Int32.ofNat k_) (v2 := Int32.ofNat o) (v4_ := Int32.ofNat m_) (v5 := Int32.ofNat i_) R_.1 c1_
    have R1 := RX_all R_ m1_ f1_
    obtain ⟨h2, ⟨R2, F2⟩, ld2⟩ := c_nx (mi := 25) (pc := 48) (lo_ := [(5, .int (Int32.ofNat i_)), (4, .int (Int32.ofNat m_)), (3, .int 1), (0, .index 147), (1, .int (Int32.ofNat k_)), (2, .int (Int32.ofNat o))]) (s' := []) rfl (xcc_l (List.forall_mem_cons.mpr ⟨rfl, List.forall_mem_cons.mpr ⟨rfl, List.forall_mem_cons.mpr ⟨rfl, List.forall_mem_cons.mpr ⟨xidx_i (bcq_lt (bcq_of (n_ := 147) (z_ := (4, 4)) R1.1 rfl)), List.forall_mem_cons.mpr ⟨rfl, List.forall_mem_cons.mpr ⟨rfl, fun q_ hq => absurd hq List.not_mem_nil⟩⟩⟩⟩⟩⟩) (fun t_ ht => absurd ht List.not_mem_nil) (Nat.le_of_ble_eq_true rfl)) R1 ha_
    have ld2b := ycs (d_ := 5) (mi := 25) (pc := 51) (cm := 24) (lo_ := [(5, .int (Int32.ofNat i_)), (4, .int (Int32.ofNat m_)), (3, .int 1), (0, .index 147), (1, .int (Int32.ofNat k_)), (2, .int (Int32.ofNat o))]) (st_ := [.int (nxt T a_)]) (as_ := [.int (nxt T a_)]) (s' := []) (h_ := h2) rfl rfl rfl (xcc_l (List.forall_mem_cons.mpr ⟨rfl, List.forall_mem_cons.mpr ⟨rfl, List.forall_mem_cons.mpr ⟨rfl, List.forall_mem_cons.mpr ⟨xidx_i (bcq_lt (bcq_of (n_ := 147) (z_ := (4, 4)) R2.1 rfl)), List.forall_mem_cons.mpr ⟨rfl, List.forall_mem_cons.mpr ⟨rfl, fun q_ hq => absurd hq List.not_mem_nil⟩⟩⟩⟩⟩⟩) (fun t_ ht => absurd ht List.not_mem_nil) (Nat.le_of_ble_eq_true rfl)) (lvX (nxt T a_) h2)
    have E12 := frD_tr (frD_all m1_ f1_) F2
    by_cases g_ : lvF (nxt T a_) = Int32.ofNat k_
    · rw [if_pos g_] at P_
      have lt_ : a_ < T.length := nxt_lt (lv_n1 hk g_)
      obtain ⟨h3, m3_, f3_, ld3⟩ := xrlyA (v1_ := Int32.ofNat k_) (v2 := Int32.ofNat o) (v4_ := Int32.ofNat m_) (v5 := Int32.ofNat i_) (v7 := lvF (nxt T a_)) R2.1 g_
      have R3 := RX_all R2 m3_ f3_
      obtain ⟨h4, ⟨R4, F4⟩, ld4⟩ := c_nx (mi := 25) (pc := 59) (lo_ := [(5, .int (Int32.ofNat i_)), (4, .int (Int32.ofNat m_)), (3, .int 1), (0, .index 147), (1, .int (Int32.ofNat k_)), (2, .int (Int32.ofNat o))]) (s' := []) rfl (xcc_l (List.forall_mem_cons.mpr ⟨rfl, List.forall_mem_cons.mpr ⟨rfl, List.forall_mem_cons.mpr ⟨rfl, List.forall_mem_cons.mpr ⟨xidx_i (bcq_lt (bcq_of (n_ := 147) (z_ := (4, 4)) R3.1 rfl)), List.forall_mem_cons.mpr ⟨rfl, List.forall_mem_cons.mpr ⟨rfl, fun q_ hq => absurd hq List.not_mem_nil⟩⟩⟩⟩⟩⟩) (fun t_ ht => absurd ht List.not_mem_nil) (Nat.le_of_ble_eq_true rfl)) R3 ha_
      obtain ⟨h5, m5_, e5_, f5_, ld5⟩ := xrlpA (v1_ := Int32.ofNat k_) (v2 := Int32.ofNat o) (v4_ := Int32.ofNat m_) (v5 := Int32.ofNat i_) (v8 := nxt T a_) (v300 := Int32.ofNat a_) R4.1 R4.2.2.1
      rw [i32s] at e5_
      rw [i32s] at ld5
      obtain ⟨R5, F5⟩ := RX_at R4 m5_ e5_ f5_
      have E5 := frD_tr E12 (frD_tr (frD_all m3_ f3_) (frD_tr F4 F5))
      have step_ : ∀ b1 a1_ c1_, prs T u_ f_ (k_ + 1) o (a_ + 1) c_ = some (b1, (a1_, c1_)) → ∃ h8 c8_ lo8, ((RX u_ T h8 a1_ c8_ ∧ frD h_ h8) ∧ ((b1 = true → c8_ = c1_ ++ [20000 + nxt T a_]) ∧ hdJ k_ o m_ (i_ + 1) (bI b1) lo8)) ∧ bldD (76 + 10 * (5 - o) - k_) 25 36 [(5, .int (Int32.ofNat i_)), (4, .int (Int32.ofNat m_)), (3, .int 1), (0, .index 147), (1, .int (Int32.ofNat k_)), (2, .int (Int32.ofNat o))] [] h_ 36 lo8 [] h8 := by
        intro b1 a1_ c1_ e1_
        obtain ⟨h6, c6_, ⟨⟨R6, F6⟩, ec6⟩, r6⟩ := L_ (k_ + 1) o (a_ + 1) c_ b1 a1_ c1_ h5 (by omega) ho (by omega) (by omega) R5 e1_
        have pb := prs_b T u_ f_ (k_ + 1) o (a_ + 1) c_ b1 a1_ c1_ (Or.inl (by omega)) (by omega) e1_
        have ld6 := ycv (d_ := 76 + 10 * (5 - o) - (k_ + 1)) (mi := 25) (pc := 79) (cm := 25) (lo_ := [(6, .int (nxt T a_)), (5, .int (Int32.ofNat i_)), (4, .int (Int32.ofNat m_)), (3, .int 1), (0, .index 147), (1, .int (Int32.ofNat k_)), (2, .int (Int32.ofNat o))]) (st_ := [.int (Int32.ofNat o), .int (Int32.ofNat (k_ + 1)), .index 147]) (as_ := [.int (Int32.ofNat (k_ + 1)), .int (Int32.ofNat o)]) (s' := []) rfl rfl (R147 R5) rfl (xcc_l (List.forall_mem_cons.mpr ⟨rfl, List.forall_mem_cons.mpr ⟨rfl, List.forall_mem_cons.mpr ⟨rfl, List.forall_mem_cons.mpr ⟨rfl, List.forall_mem_cons.mpr ⟨xidx_i (bcq_lt (bcq_of (n_ := 147) (z_ := (4, 4)) R5.1 rfl)), List.forall_mem_cons.mpr ⟨rfl, List.forall_mem_cons.mpr ⟨rfl, fun q_ hq => absurd hq List.not_mem_nil⟩⟩⟩⟩⟩⟩⟩) (fun t_ ht => absurd ht List.not_mem_nil) (Nat.le_of_ble_eq_true rfl)) r6
        obtain ⟨h7, m7_, f7_, ld7⟩ := xrlqA (v1_ := Int32.ofNat k_) (v2 := Int32.ofNat o) (v4_ := Int32.ofNat m_) (v5 := Int32.ofNat i_) (v8 := nxt T a_) (v9 := bI b1) R6.1
        have R7 := RX_all R6 m7_ f7_
        obtain ⟨h8, c8_, r8, ⟨⟨R8, F8⟩, e8⟩, ld8⟩ := c_ad (y_ := 20000 + nxt T a_) (mi := 25) (pc := 93) (lo_ := [(3, .int (bI b1)), (6, .int (nxt T a_)), (5, .int (Int32.ofNat i_)), (4, .int (Int32.ofNat m_)), (0, .index 147), (1, .int (Int32.ofNat k_)), (2, .int (Int32.ofNat o))]) (s' := []) rfl (xcc_l (List.forall_mem_cons.mpr ⟨rfl, List.forall_mem_cons.mpr ⟨rfl, List.forall_mem_cons.mpr ⟨rfl, List.forall_mem_cons.mpr ⟨rfl, List.forall_mem_cons.mpr ⟨xidx_i (bcq_lt (bcq_of (n_ := 147) (z_ := (4, 4)) R7.1 rfl)), List.forall_mem_cons.mpr ⟨rfl, List.forall_mem_cons.mpr ⟨rfl, fun q_ hq => absurd hq List.not_mem_nil⟩⟩⟩⟩⟩⟩⟩) (fun t_ ht => absurd ht List.not_mem_nil) (Nat.le_of_ble_eq_true rfl)) R7
        obtain ⟨h9, m9_, f9_, ld9⟩ := xrlr (v1_ := Int32.ofNat k_) (v2 := Int32.ofNat o) (v4_ := Int32.ofNat m_) (v5 := Int32.ofNat i_) (v8 := nxt T a_) (v9 := bI b1) (v10 := r8) R8.1
        rw [i32s] at ld9
        refine ⟨h9, c8_, _, ⟨⟨RX_all R8 m9_ f9_, frD_tr E5 (frD_tr F6 (frD_tr (frD_all m7_ f7_) (frD_tr F8 (frD_all m9_ f9_))))⟩, fun hb_ => ?_, Or.inr ⟨_, rfl⟩⟩, fun D_ hD oo z_ => ld1 D_ (by omega) _ (ld2 D_ (by omega) _ (ld2b D_ (by omega) _ (ld3 D_ (by omega) _ (ld4 D_ (by omega) _ (ld5 D_ (by omega) _ (ld6 D_ (by omega) _ (ld7 D_ (by omega) _ (ld8 D_ (by omega) _ (ld9 D_ (by omega) oo z_)))))))))⟩
        obtain ⟨⟨q1_, q2_⟩, q3_⟩ := pb
        obtain ⟨q4_, q5_, -⟩ := q3_ hb_
        have ec := ec6 hb_
        rw [ec] at e8
        exact e8 (by have := hT_.1; omega)
      rcases thn_s P_ with ⟨⟨a1_, c1_⟩, e1_, e2_⟩ | ⟨e1_, rfl⟩
      · obtain ⟨⟨q1_, q2_⟩, q3_⟩ := prs_b T u_ f_ (k_ + 1) o (a_ + 1) c_ true a1_ c1_ (Or.inl (by omega)) (by omega) e1_
        obtain ⟨q4_, q5_, -⟩ := q3_ rfl
        have q4_ := q4_ (by omega)
        obtain ⟨h8, c8_, lo8, ⟨⟨R8, F8⟩, ec8, H8⟩, ld8⟩ := step_ true a1_ c1_ e1_
        have ec8 := ec8 rfl
        subst ec8
        have e2_ : (if k_ = 2 then some (true, (a1_, c1_ ++ [20000 + nxt T a_])) else prs T u_ f_ (10 + k_) o a1_ (c1_ ++ [20000 + nxt T a_])) = some (b_, (a', c')) := e2_
        by_cases k2_ : k_ = 2
        · rw [if_pos k2_] at e2_
          obtain ⟨rfl, rfl, rfl⟩ := inj3 e2_
          obtain ⟨h9, ⟨R9, F9⟩, r9⟩ := j_mx R8 H8 (by omega) (by have := hT_.1; omega)
          exact ⟨h9, _, ⟨⟨R9, frD_tr F8 F9⟩, fun _ => rfl⟩, fun D_ hD => ld8 D_ (by omega) _ (r9 D_ (by omega))⟩
        · rw [if_neg k2_] at e2_
          obtain ⟨h9, c9_, ⟨⟨R9, F9⟩, ec9⟩, r9⟩ := J_ k_ o m_ (i_ + 1) a1_ _ b_ a' c' h8 lo8 hk ho q2_ (by rw [len_sn]; omega) (Or.inl ⟨k2_, by omega, by omega⟩) H8 R8 e2_
          exact ⟨h9, c9_, ⟨⟨R9, frD_tr F8 F9⟩, ec9⟩, fun D_ hD => ld8 D_ (by omega) _ (r9 D_ (by omega))⟩
      · obtain ⟨h8, c8_, lo8, ⟨⟨R8, F8⟩, -, H8⟩, ld8⟩ := step_ false a' c' e1_
        obtain ⟨h9, ⟨R9, F9⟩, r9⟩ := j_fl R8 H8
        exact ⟨h9, c8_, ⟨⟨R9, frD_tr F8 F9⟩, fun q_ => by cases q_⟩, fun D_ hD => ld8 D_ (by omega) _ (r9 D_ (by omega))⟩
    · rw [if_neg g_] at P_
      cases P_
      obtain ⟨h3, m3_, f3_, r3⟩ := xrlnA (v1_ := Int32.ofNat k_) (v2 := Int32.ofNat o) (v4_ := Int32.ofNat m_) (v5 := Int32.ofNat i_) (v7 := lvF (nxt T a_)) R2.1 (fun q_ => g_ q_)
      exact ⟨h3, c_, ⟨⟨RX_all R2 m3_ f3_, frD_tr E12 (frD_all m3_ f3_)⟩, fun _ => rfl⟩, fun D_ hD => ld1 D_ (by omega) _ (ld2 D_ (by omega) _ (ld2b D_ (by omega) _ (r3 D_ (by omega))))⟩
  ·
    obtain ⟨h1, m1_, f1_, ld1⟩ := xrljB (v1_ := Int32.ofNat k_) (v2 := Int32.ofNat o) (v4_ := Int32.ofNat m_) (v5 := Int32.ofNat i_) (v6 := y_) R_.1 c1_
    have R1 := RX_all R_ m1_ f1_
    obtain ⟨h2, ⟨R2, F2⟩, ld2⟩ := c_nx (mi := 25) (pc := 48) (lo_ := [(5, .int (Int32.ofNat i_)), (3, .int 1), (6, .int y_), (4, .int (Int32.ofNat m_)), (0, .index 147), (1, .int (Int32.ofNat k_)), (2, .int (Int32.ofNat o))]) (s' := []) rfl (xcc_l (List.forall_mem_cons.mpr ⟨rfl, List.forall_mem_cons.mpr ⟨rfl, List.forall_mem_cons.mpr ⟨rfl, List.forall_mem_cons.mpr ⟨rfl, List.forall_mem_cons.mpr ⟨xidx_i (bcq_lt (bcq_of (n_ := 147) (z_ := (4, 4)) R1.1 rfl)), List.forall_mem_cons.mpr ⟨rfl, List.forall_mem_cons.mpr ⟨rfl, fun q_ hq => absurd hq List.not_mem_nil⟩⟩⟩⟩⟩⟩⟩) (fun t_ ht => absurd ht List.not_mem_nil) (Nat.le_of_ble_eq_true rfl)) R1 ha_
    have ld2b := ycs (d_ := 5) (mi := 25) (pc := 51) (cm := 24) (lo_ := [(5, .int (Int32.ofNat i_)), (3, .int 1), (6, .int y_), (4, .int (Int32.ofNat m_)), (0, .index 147), (1, .int (Int32.ofNat k_)), (2, .int (Int32.ofNat o))]) (st_ := [.int (nxt T a_)]) (as_ := [.int (nxt T a_)]) (s' := []) (h_ := h2) rfl rfl rfl (xcc_l (List.forall_mem_cons.mpr ⟨rfl, List.forall_mem_cons.mpr ⟨rfl, List.forall_mem_cons.mpr ⟨rfl, List.forall_mem_cons.mpr ⟨rfl, List.forall_mem_cons.mpr ⟨xidx_i (bcq_lt (bcq_of (n_ := 147) (z_ := (4, 4)) R2.1 rfl)), List.forall_mem_cons.mpr ⟨rfl, List.forall_mem_cons.mpr ⟨rfl, fun q_ hq => absurd hq List.not_mem_nil⟩⟩⟩⟩⟩⟩⟩) (fun t_ ht => absurd ht List.not_mem_nil) (Nat.le_of_ble_eq_true rfl)) (lvX (nxt T a_) h2)
    have E12 := frD_tr (frD_all m1_ f1_) F2
    by_cases g_ : lvF (nxt T a_) = Int32.ofNat k_
    · rw [if_pos g_] at P_
      have lt_ : a_ < T.length := nxt_lt (lv_n1 hk g_)
      obtain ⟨h3, m3_, f3_, ld3⟩ := xrlyB (v1_ := Int32.ofNat k_) (v2 := Int32.ofNat o) (v4_ := Int32.ofNat m_) (v5 := Int32.ofNat i_) (v6 := y_) (v7 := lvF (nxt T a_)) R2.1 g_
      have R3 := RX_all R2 m3_ f3_
      obtain ⟨h4, ⟨R4, F4⟩, ld4⟩ := c_nx (mi := 25) (pc := 59) (lo_ := [(5, .int (Int32.ofNat i_)), (3, .int 1), (6, .int y_), (4, .int (Int32.ofNat m_)), (0, .index 147), (1, .int (Int32.ofNat k_)), (2, .int (Int32.ofNat o))]) (s' := []) rfl (xcc_l (List.forall_mem_cons.mpr ⟨rfl, List.forall_mem_cons.mpr ⟨rfl, List.forall_mem_cons.mpr ⟨rfl, List.forall_mem_cons.mpr ⟨rfl, List.forall_mem_cons.mpr ⟨xidx_i (bcq_lt (bcq_of (n_ := 147) (z_ := (4, 4)) R3.1 rfl)), List.forall_mem_cons.mpr ⟨rfl, List.forall_mem_cons.mpr ⟨rfl, fun q_ hq => absurd hq List.not_mem_nil⟩⟩⟩⟩⟩⟩⟩) (fun t_ ht => absurd ht List.not_mem_nil) (Nat.le_of_ble_eq_true rfl)) R3 ha_
      obtain ⟨h5, m5_, e5_, f5_, ld5⟩ := xrlpB (v1_ := Int32.ofNat k_) (v2 := Int32.ofNat o) (v4_ := Int32.ofNat m_) (v5 := Int32.ofNat i_) (v8 := nxt T a_) (v300 := Int32.ofNat a_) R4.1 R4.2.2.1
      rw [i32s] at e5_
      rw [i32s] at ld5
      obtain ⟨R5, F5⟩ := RX_at R4 m5_ e5_ f5_
      have E5 := frD_tr E12 (frD_tr (frD_all m3_ f3_) (frD_tr F4 F5))
      have step_ : ∀ b1 a1_ c1_, prs T u_ f_ (k_ + 1) o (a_ + 1) c_ = some (b1, (a1_, c1_)) → ∃ h8 c8_ lo8, ((RX u_ T h8 a1_ c8_ ∧ frD h_ h8) ∧ ((b1 = true → c8_ = c1_ ++ [20000 + nxt T a_]) ∧ hdJ k_ o m_ (i_ + 1) (bI b1) lo8)) ∧ bldD (76 + 10 * (5 - o) - k_) 25 36 [(5, .int (Int32.ofNat i_)), (3, .int 1), (6, .int y_), (4, .int (Int32.ofNat m_)), (0, .index 147), (1, .int (Int32.ofNat k_)), (2, .int (Int32.ofNat o))] [] h_ 36 lo8 [] h8 := by
        intro b1 a1_ c1_ e1_
        obtain ⟨h6, c6_, ⟨⟨R6, F6⟩, ec6⟩, r6⟩ := L_ (k_ + 1) o (a_ + 1) c_ b1 a1_ c1_ h5 (by omega) ho (by omega) (by omega) R5 e1_
        have pb := prs_b T u_ f_ (k_ + 1) o (a_ + 1) c_ b1 a1_ c1_ (Or.inl (by omega)) (by omega) e1_
        have ld6 := ycv (d_ := 76 + 10 * (5 - o) - (k_ + 1)) (mi := 25) (pc := 79) (cm := 25) (lo_ := [(6, .int (nxt T a_)), (5, .int (Int32.ofNat i_)), (3, .int 1), (4, .int (Int32.ofNat m_)), (0, .index 147), (1, .int (Int32.ofNat k_)), (2, .int (Int32.ofNat o))]) (st_ := [.int (Int32.ofNat o), .int (Int32.ofNat (k_ + 1)), .index 147]) (as_ := [.int (Int32.ofNat (k_ + 1)), .int (Int32.ofNat o)]) (s' := []) rfl rfl (R147 R5) rfl (xcc_l (List.forall_mem_cons.mpr ⟨rfl, List.forall_mem_cons.mpr ⟨rfl, List.forall_mem_cons.mpr ⟨rfl, List.forall_mem_cons.mpr ⟨rfl, List.forall_mem_cons.mpr ⟨xidx_i (bcq_lt (bcq_of (n_ := 147) (z_ := (4, 4)) R5.1 rfl)), List.forall_mem_cons.mpr ⟨rfl, List.forall_mem_cons.mpr ⟨rfl, fun q_ hq => absurd hq List.not_mem_nil⟩⟩⟩⟩⟩⟩⟩) (fun t_ ht => absurd ht List.not_mem_nil) (Nat.le_of_ble_eq_true rfl)) r6
        obtain ⟨h7, m7_, f7_, ld7⟩ := xrlqB (v1_ := Int32.ofNat k_) (v2 := Int32.ofNat o) (v4_ := Int32.ofNat m_) (v5 := Int32.ofNat i_) (v8 := nxt T a_) (v9 := bI b1) R6.1
        have R7 := RX_all R6 m7_ f7_
        obtain ⟨h8, c8_, r8, ⟨⟨R8, F8⟩, e8⟩, ld8⟩ := c_ad (y_ := 20000 + nxt T a_) (mi := 25) (pc := 93) (lo_ := [(3, .int (bI b1)), (6, .int (nxt T a_)), (5, .int (Int32.ofNat i_)), (4, .int (Int32.ofNat m_)), (0, .index 147), (1, .int (Int32.ofNat k_)), (2, .int (Int32.ofNat o))]) (s' := []) rfl (xcc_l (List.forall_mem_cons.mpr ⟨rfl, List.forall_mem_cons.mpr ⟨rfl, List.forall_mem_cons.mpr ⟨rfl, List.forall_mem_cons.mpr ⟨rfl, List.forall_mem_cons.mpr ⟨xidx_i (bcq_lt (bcq_of (n_ := 147) (z_ := (4, 4)) R7.1 rfl)), List.forall_mem_cons.mpr ⟨rfl, List.forall_mem_cons.mpr ⟨rfl, fun q_ hq => absurd hq List.not_mem_nil⟩⟩⟩⟩⟩⟩⟩) (fun t_ ht => absurd ht List.not_mem_nil) (Nat.le_of_ble_eq_true rfl)) R7
        obtain ⟨h9, m9_, f9_, ld9⟩ := xrlr (v1_ := Int32.ofNat k_) (v2 := Int32.ofNat o) (v4_ := Int32.ofNat m_) (v5 := Int32.ofNat i_) (v8 := nxt T a_) (v9 := bI b1) (v10 := r8) R8.1
        rw [i32s] at ld9
        refine ⟨h9, c8_, _, ⟨⟨RX_all R8 m9_ f9_, frD_tr E5 (frD_tr F6 (frD_tr (frD_all m7_ f7_) (frD_tr F8 (frD_all m9_ f9_))))⟩, fun hb_ => ?_, Or.inr ⟨_, rfl⟩⟩, fun D_ hD oo z_ => ld1 D_ (by omega) _ (ld2 D_ (by omega) _ (ld2b D_ (by omega) _ (ld3 D_ (by omega) _ (ld4 D_ (by omega) _ (ld5 D_ (by omega) _ (ld6 D_ (by omega) _ (ld7 D_ (by omega) _ (ld8 D_ (by omega) _ (ld9 D_ (by omega) oo z_)))))))))⟩
        obtain ⟨⟨q1_, q2_⟩, q3_⟩ := pb
        obtain ⟨q4_, q5_, -⟩ := q3_ hb_
        have ec := ec6 hb_
        rw [ec] at e8
        exact e8 (by have := hT_.1; omega)
      rcases thn_s P_ with ⟨⟨a1_, c1_⟩, e1_, e2_⟩ | ⟨e1_, rfl⟩
      · obtain ⟨⟨q1_, q2_⟩, q3_⟩ := prs_b T u_ f_ (k_ + 1) o (a_ + 1) c_ true a1_ c1_ (Or.inl (by omega)) (by omega) e1_
        obtain ⟨q4_, q5_, -⟩ := q3_ rfl
        have q4_ := q4_ (by omega)
        obtain ⟨h8, c8_, lo8, ⟨⟨R8, F8⟩, ec8, H8⟩, ld8⟩ := step_ true a1_ c1_ e1_
        have ec8 := ec8 rfl
        subst ec8
        have e2_ : (if k_ = 2 then some (true, (a1_, c1_ ++ [20000 + nxt T a_])) else prs T u_ f_ (10 + k_) o a1_ (c1_ ++ [20000 + nxt T a_])) = some (b_, (a', c')) := e2_
        by_cases k2_ : k_ = 2
        · rw [if_pos k2_] at e2_
          obtain ⟨rfl, rfl, rfl⟩ := inj3 e2_
          obtain ⟨h9, ⟨R9, F9⟩, r9⟩ := j_mx R8 H8 (by omega) (by have := hT_.1; omega)
          exact ⟨h9, _, ⟨⟨R9, frD_tr F8 F9⟩, fun _ => rfl⟩, fun D_ hD => ld8 D_ (by omega) _ (r9 D_ (by omega))⟩
        · rw [if_neg k2_] at e2_
          obtain ⟨h9, c9_, ⟨⟨R9, F9⟩, ec9⟩, r9⟩ := J_ k_ o m_ (i_ + 1) a1_ _ b_ a' c' h8 lo8 hk ho q2_ (by rw [len_sn]; omega) (Or.inl ⟨k2_, by omega, by omega⟩) H8 R8 e2_
          exact ⟨h9, c9_, ⟨⟨R9, frD_tr F8 F9⟩, ec9⟩, fun D_ hD => ld8 D_ (by omega) _ (r9 D_ (by omega))⟩
      · obtain ⟨h8, c8_, lo8, ⟨⟨R8, F8⟩, -, H8⟩, ld8⟩ := step_ false a' c' e1_
        obtain ⟨h9, ⟨R9, F9⟩, r9⟩ := j_fl R8 H8
        exact ⟨h9, c8_, ⟨⟨R9, frD_tr F8 F9⟩, fun q_ => by cases q_⟩, fun D_ hD => ld8 D_ (by omega) _ (r9 D_ (by omega))⟩
    · rw [if_neg g_] at P_
      cases P_
      obtain ⟨h3, m3_, f3_, r3⟩ := xrlnB (v1_ := Int32.ofNat k_) (v2 := Int32.ofNat o) (v4_ := Int32.ofNat m_) (v5 := Int32.ofNat i_) (v6 := y_) (v7 := lvF (nxt T a_)) R2.1 (fun q_ => g_ q_)
      exact ⟨h3, c_, ⟨⟨RX_all R2 m3_ f3_, frD_tr E12 (frD_all m3_ f3_)⟩, fun _ => rfl⟩, fun D_ hD => ld1 D_ (by omega) _ (ld2 D_ (by omega) _ (ld2b D_ (by omega) _ (r3 D_ (by omega))))⟩
theorem LX_s (hT_ : byts T) {f_ : Nat} (L_ : LXs u_ T f_) (J_ : JXs u_ T f_) (Q_ : QXs u_ T (f_ + 1)) : LXs u_ T (f_ + 1) := by
  intro k_ o a_ c_ b_ a' c' h_ hk ho ha_ hc_ R_ P_
  have l60 := hT_.1
  have z5 := i5_
  have z2 := i2_
  have ek := i5n hk
  by_cases k5_ : k_ < 5
  · rw [prs_l k5_] at P_
    obtain ⟨h1, m1_, f1_, ld1⟩ := xrl1 (v1_ := Int32.ofNat k_) (v2 := Int32.ofNat o) R_.1 (by omega)
    rw [i32s] at ld1
    have R1 := RX_all R_ m1_ f1_
    have step_ : ∀ b1 a1_ c1_, prs T u_ f_ (k_ + 1) o a_ c_ = some (b1, (a1_, c1_)) → ∃ h3 c3_ lo3 m_ i_, ((RX u_ T h3 a1_ c3_ ∧ frD h_ h3) ∧ ((b1 = true → c3_ = c1_) ∧ (((¬ k_ = 2 ∧ (m_ = 60 ∧ i_ = 0)) ∨ (k_ = 2 ∧ (m_ = 1 ∧ i_ = 0))) ∧ hdJ k_ o m_ i_ (bI b1) lo3))) ∧ bldD (76 + 10 * (5 - o) - k_) 25 0 [(0, .index 147), (1, .int (Int32.ofNat k_)), (2, .int (Int32.ofNat o))] [] h_ 36 lo3 [] h3 := by
      intro b1 a1_ c1_ e1_
      obtain ⟨h2, c2_, ⟨⟨R2, F2⟩, ec2⟩, r2⟩ := L_ (k_ + 1) o a_ c_ b1 a1_ c1_ h1 (by omega) ho ha_ hc_ R1 e1_
      have ld2 := ycv (d_ := 76 + 10 * (5 - o) - (k_ + 1)) (mi := 25) (pc := 16) (cm := 25) (lo_ := [(0, .index 147), (1, .int (Int32.ofNat k_)), (2, .int (Int32.ofNat o))]) (st_ := [.int (Int32.ofNat o), .int (Int32.ofNat (k_ + 1)), .index 147]) (as_ := [.int (Int32.ofNat (k_ + 1)), .int (Int32.ofNat o)]) (s' := []) rfl rfl (R147 R1) rfl (xcc_l (List.forall_mem_cons.mpr ⟨xidx_i (bcq_lt (bcq_of (n_ := 147) (z_ := (4, 4)) R1.1 rfl)), List.forall_mem_cons.mpr ⟨rfl, List.forall_mem_cons.mpr ⟨rfl, fun q_ hq => absurd hq List.not_mem_nil⟩⟩⟩) (fun t_ ht => absurd ht List.not_mem_nil) (Nat.le_of_ble_eq_true rfl)) r2
      by_cases k2_ : k_ = 2
      · obtain ⟨h3, m3_, f3_, ld3⟩ := xrl2a (v1_ := Int32.ofNat k_) (v2 := Int32.ofNat o) (v3 := bI b1) R2.1 (by rw [k2_]; rfl)
        exact ⟨h3, c2_, _, 1, 0, ⟨⟨RX_all R2 m3_ f3_, frD_tr (frD_all m1_ f1_) (frD_tr F2 (frD_all m3_ f3_))⟩, ec2, Or.inr ⟨k2_, rfl, rfl⟩, Or.inl rfl⟩, fun D_ hD oo z_ => ld1 D_ (by omega) _ (ld2 D_ (by omega) _ (ld3 D_ (by omega) oo z_))⟩
      · obtain ⟨h3, m3_, f3_, ld3⟩ := xrl2b (v1_ := Int32.ofNat k_) (v2 := Int32.ofNat o) (v3 := bI b1) R2.1 (fun q_ => k2_ (by have q_ := congrArg Int32.toInt q_; omega))
        exact ⟨h3, c2_, _, 60, 0, ⟨⟨RX_all R2 m3_ f3_, frD_tr (frD_all m1_ f1_) (frD_tr F2 (frD_all m3_ f3_))⟩, ec2, Or.inl ⟨k2_, rfl, rfl⟩, Or.inl rfl⟩, fun D_ hD oo z_ => ld1 D_ (by omega) _ (ld2 D_ (by omega) _ (ld3 D_ (by omega) oo z_))⟩
    rcases thn_s P_ with ⟨⟨a1_, c1_⟩, e1_, e2_⟩ | ⟨e1_, rfl⟩
    · obtain ⟨⟨q1_, q2_⟩, q3_⟩ := prs_b T u_ f_ (k_ + 1) o a_ c_ true a1_ c1_ (Or.inl (by omega)) ha_ e1_
      obtain ⟨q4_, q5_, -⟩ := q3_ rfl
      obtain ⟨h3, c3_, lo3, m_, i_, ⟨⟨R3, F3⟩, ec3, hm_, H3⟩, ld3⟩ := step_ true a1_ c1_ e1_
      have ec3 := ec3 rfl
      subst ec3
      obtain ⟨h4, c4_, ⟨⟨R4, F4⟩, ec4⟩, r4⟩ := J_ k_ o m_ i_ a1_ _ b_ a' c' h3 lo3 (by omega) ho q2_ (by omega) (by omega) H3 R3 e2_
      exact ⟨h4, c4_, ⟨⟨R4, frD_tr F3 F4⟩, ec4⟩, fun D_ hD => ld3 D_ (by omega) _ (r4 D_ (by omega))⟩
    · obtain ⟨h3, c3_, lo3, m_, i_, ⟨⟨R3, F3⟩, -, hm_, H3⟩, ld3⟩ := step_ false a' c' e1_
      obtain ⟨h4, ⟨R4, F4⟩, r4⟩ := j_fl R3 H3
      exact ⟨h4, c3_, ⟨⟨R4, frD_tr F3 F4⟩, fun q_ => by cases q_⟩, fun D_ hD => ld3 D_ (by omega) _ (r4 D_ (by omega))⟩
  · have e5_ : k_ = 5 := by omega
    subst e5_
    obtain ⟨h1, m1_, f1_, ld1⟩ := xrl5 (v1_ := Int32.ofNat 5) (v2 := Int32.ofNat o) R_.1 (by omega)
    have R1 := RX_all R_ m1_ f1_
    obtain ⟨h2, c2_, ⟨⟨R2, F2⟩, ec2⟩, r2⟩ := Q_ o a_ c_ b_ a' c' h1 ho ha_ hc_ R1 P_
    have ld2 := ycv (d_ := 70 + 10 * (5 - o)) (mi := 25) (pc := 7) (cm := 26) (lo_ := [(0, .index 147), (1, .int (Int32.ofNat 5)), (2, .int (Int32.ofNat o))]) (st_ := [.int (Int32.ofNat o), .index 147]) (as_ := [.int (Int32.ofNat o)]) (s' := []) rfl rfl (R147 R1) rfl (xcc_l (List.forall_mem_cons.mpr ⟨xidx_i (bcq_lt (bcq_of (n_ := 147) (z_ := (4, 4)) R1.1 rfl)), List.forall_mem_cons.mpr ⟨rfl, List.forall_mem_cons.mpr ⟨rfl, fun q_ hq => absurd hq List.not_mem_nil⟩⟩⟩) (fun t_ ht => absurd ht List.not_mem_nil) (Nat.le_of_ble_eq_true rfl)) r2
    have fin_ : ∃ h3, ysm h2 h3 ∧ ((∀ c_ j_, bpat h3 c_ j_ = bpat h2 c_ j_) ∧ ∀ D_, 60 ≤ D_ → xrun D_ 25 10 [(0, .index 147), (1, .int (Int32.ofNat 5)), (2, .int (Int32.ofNat o))] [.int (bI b_)] h2 (some (.int (bI b_)), h3, [])) := by
      cases b_ with
      | true => exact xrl5r1 (v1_ := Int32.ofNat 5) (v2 := Int32.ofNat o) R2.1
      | false => exact xrl5r0 (v1_ := Int32.ofNat 5) (v2 := Int32.ofNat o) R2.1
    obtain ⟨h3, m3_, f3_, r3⟩ := fin_
    exact ⟨h3, c2_, ⟨⟨RX_all R2 m3_ f3_, frD_tr (frD_all m1_ f1_) (frD_tr F2 (frD_all m3_ f3_))⟩, ec2⟩, fun D_ hD => ld1 D_ (by omega) _ (ld2 D_ (by omega) _ (r3 D_ (by omega)))⟩
theorem QX_s (hu : u_ < 2) (hT_ : byts T) {f_ : Nat} (L_ : LXs u_ T f_) (Q_ : QXs u_ T f_) : QXs u_ T (f_ + 1) := by
  intro o a_ c_ b_ a' c' h_ ho ha_ hc_ R_ P_
  rw [prs_q] at P_
  have l60 := hT_.1
  have z5 := i5_
  have z0 := z0_
  have eo := i5n ho
  have zo : (-1 : Int32).toInt = -1 := rfl
  obtain ⟨h0, m0_, f0_, ld0⟩ := xq0 (v1_ := Int32.ofNat o) R_.1
  have R0_ := RX_all R_ m0_ f0_
  obtain ⟨h1, ⟨R1, F1_⟩, ld1⟩ := c_nx (mi := 26) (pc := 1) (lo_ := [(0, .index 147), (1, .int (Int32.ofNat o))]) (s' := []) rfl (xcc_l (List.forall_mem_cons.mpr ⟨xidx_i (bcq_lt (bcq_of (n_ := 147) (z_ := (4, 4)) R0_.1 rfl)), List.forall_mem_cons.mpr ⟨rfl, fun q_ hq => absurd hq List.not_mem_nil⟩⟩) (fun t_ ht => absurd ht List.not_mem_nil) (Nat.le_of_ble_eq_true rfl)) R0_ ha_
  have E1_ := frD_tr (frD_all m0_ f0_) F1_
  have xb := nxt_b (a_ := a_) hT_
  by_cases g_ : 48 ≤ (nxt T a_).toInt ∧ (nxt T a_).toInt ≤ 57
  · rw [if_pos g_] at P_
    cases P_
    obtain ⟨h2, m2_, f2_, ld2⟩ := xqd (v1_ := Int32.ofNat o) (v2 := nxt T a_) (v500 := puD_F (nxt T a_)) R1.1 (puD (nxt T a_)) (by rw [puD_1 g_]; decide)
    have R2 := RX_all R1 m2_ f2_
    obtain ⟨h3, ⟨R3, F3⟩, r3⟩ := nbX hT_ ha_ hc_ R2 g_
    have ld3 := ycv (d_ := 68) (mi := 26) (pc := 13) (cm := 29) (lo_ := [(2, .int (nxt T a_)), (0, .index 147), (1, .int (Int32.ofNat o))]) (st_ := [.index 147]) (as_ := []) (s' := []) rfl rfl (R147 R2) rfl (xcc_l (List.forall_mem_cons.mpr ⟨rfl, List.forall_mem_cons.mpr ⟨xidx_i (bcq_lt (bcq_of (n_ := 147) (z_ := (4, 4)) R2.1 rfl)), List.forall_mem_cons.mpr ⟨rfl, fun q_ hq => absurd hq List.not_mem_nil⟩⟩⟩) (fun t_ ht => absurd ht List.not_mem_nil) (Nat.le_of_ble_eq_true rfl)) r3
    obtain ⟨h4, m4_, f4_, r4⟩ := xqr (v1_ := Int32.ofNat o) (v2 := nxt T a_) R3.1
    exact ⟨h4, _, ⟨⟨RX_all R3 m4_ f4_, frD_tr E1_ (frD_tr (frD_all m2_ f2_) (frD_tr F3 (frD_all m4_ f4_)))⟩, fun _ => rfl⟩, fun D_ hD => ld0 D_ (by omega) _ (ld1 D_ (by omega) _ (ld2 D_ (by omega) _ (ld3 D_ (by omega) _ (r4 D_ (by omega)))))⟩
  rw [if_neg g_] at P_
  obtain ⟨h2, m2_, f2_, ld2⟩ := xqn (v1_ := Int32.ofNat o) (v2 := nxt T a_) (v500 := puD_F (nxt T a_)) R1.1 (puD (nxt T a_)) (puD_0 g_)
  have R2 := RX_all R1 m2_ f2_
  have E2 := frD_tr E1_ (frD_all m2_ f2_)
  -- the name's place
  have nmP : ∃ h3, (RX u_ T h3 a_ c_ ∧ frD h_ h3) ∧ bldD 61 26 0 [(0, .index 147), (1, .int (Int32.ofNat o))] [] h_ 35 [(2, .int (nxt T a_)), (0, .index 147), (1, .int (Int32.ofNat o))] [.int (if nmi u_ (nxt T a_) < 4 then Int32.ofNat (nmi u_ (nxt T a_)) else -1)] h3 := by
    by_cases gn : nxt T a_ = -1
    · obtain ⟨h3, m3_, f3_, ld3⟩ := xqm (v1_ := Int32.ofNat o) (v2 := nxt T a_) R2.1 (by rw [gn]; decide)
      rw [i32_m1] at ld3
      have en : ¬ nmi u_ (nxt T a_) < 4 := fun q_ => by have q_ := nmi_n1 q_; rw [gn] at q_; omega
      rw [if_neg en]
      exact ⟨h3, ⟨RX_all R2 m3_ f3_, frD_tr E2 (frD_all m3_ f3_)⟩, fun D_ hD oo z_ => ld0 D_ (by omega) _ (ld1 D_ (by omega) _ (ld2 D_ (by omega) _ (ld3 D_ (by omega) oo z_)))⟩
    · have x0_ := nxt_0 hT_ gn
      have u2_ : u_ = 0 ∨ u_ = 1 := by omega
      rcases u2_ with rfl | rfl
      · obtain ⟨h3, m3_, f3_, ld3⟩ := xqi0 (v1_ := Int32.ofNat o) (v2 := nxt T a_) R2.1 R2.2.2.2.2.1 (by omega)
        have R3 := RX_all R2 m3_ f3_
        have ld4 := c_ix (u_ := 0) (q_ := (11, 181, "sinm")) (lo_ := [(2, .int (nxt T a_)), (0, .index 147), (1, .int (Int32.ofNat o))]) (y_ := ((nxt T a_).toUInt32 % 65536).toInt32) (h_ := h3) (xcc_l (List.forall_mem_cons.mpr ⟨rfl, List.forall_mem_cons.mpr ⟨xidx_i (bcq_lt (bcq_of (n_ := 147) (z_ := (4, 4)) R3.1 rfl)), List.forall_mem_cons.mpr ⟨rfl, fun q_ hq => absurd hq List.not_mem_nil⟩⟩⟩) (fun t_ ht => absurd ht List.not_mem_nil) (Nat.le_of_ble_eq_true rfl)) rfl
        have ei : jix "sinm" (((nxt T a_).toUInt32 % 65536).toInt32) = _ := ix0_ x0_ xb.2
        rw [← ei]
        exact ⟨h3, ⟨R3, frD_tr E2 (frD_all m3_ f3_)⟩, fun D_ hD oo z_ => ld0 D_ (by omega) _ (ld1 D_ (by omega) _ (ld2 D_ (by omega) _ (ld3 D_ (by omega) _ (ld4 D_ (by omega) oo z_))))⟩
      · obtain ⟨h3, m3_, f3_, ld3⟩ := xqi1 (v1_ := Int32.ofNat o) (v2 := nxt T a_) R2.1 R2.2.2.2.2.1 (by omega)
        have R3 := RX_all R2 m3_ f3_
        have ld4 := c_ix (u_ := 1) (q_ := (11, 183, "ohbt")) (lo_ := [(2, .int (nxt T a_)), (0, .index 147), (1, .int (Int32.ofNat o))]) (y_ := ((nxt T a_).toUInt32 % 65536).toInt32) (h_ := h3) (xcc_l (List.forall_mem_cons.mpr ⟨rfl, List.forall_mem_cons.mpr ⟨xidx_i (bcq_lt (bcq_of (n_ := 147) (z_ := (4, 4)) R3.1 rfl)), List.forall_mem_cons.mpr ⟨rfl, fun q_ hq => absurd hq List.not_mem_nil⟩⟩⟩) (fun t_ ht => absurd ht List.not_mem_nil) (Nat.le_of_ble_eq_true rfl)) rfl
        have ei : jix "ohbt" (((nxt T a_).toUInt32 % 65536).toInt32) = _ := ix1_ x0_ xb.2
        rw [← ei]
        exact ⟨h3, ⟨R3, frD_tr E2 (frD_all m3_ f3_)⟩, fun D_ hD oo z_ => ld0 D_ (by omega) _ (ld1 D_ (by omega) _ (ld2 D_ (by omega) _ (ld3 D_ (by omega) _ (ld4 D_ (by omega) oo z_))))⟩
  obtain ⟨h3, ⟨R3, F3⟩, ld3⟩ := nmP
  by_cases g2 : nmi u_ (nxt T a_) < 4
  · rw [if_pos g2] at P_ ld3
    cases P_
    have b2 := nmi_n1 g2
    have lt_ : a_ < T.length := nxt_lt (fun q_ => by rw [q_] at b2; omega)
    have ej := i32n (i_ := nmi u_ (nxt T a_)) (by omega)
    obtain ⟨h4, m4_, e4_, f4_, ld4⟩ := xqa (v1_ := Int32.ofNat o) (v2 := nxt T a_) (v3 := Int32.ofNat (nmi u_ (nxt T a_))) (v300 := Int32.ofNat a_) R3.1 R3.2.2.1 (by omega)
    rw [i32s] at e4_
    obtain ⟨R4, F4⟩ := RX_at R3 m4_ e4_ f4_
    have ey : (10000 : Int32) + Int32.ofNat (nmi u_ (nxt T a_)) = Int32.ofNat (10000 + nmi u_ (nxt T a_)) := i32p 10000 _
    rw [ey] at ld4
    obtain ⟨h5, c5_, r5_, ⟨⟨R5, F5⟩, e5_⟩, ld5⟩ := c_ad (y_ := Int32.ofNat (10000 + nmi u_ (nxt T a_))) (mi := 26) (pc := 59) (lo_ := [(3, .int (Int32.ofNat (nmi u_ (nxt T a_)))), (2, .int (nxt T a_)), (0, .index 147), (1, .int (Int32.ofNat o))]) (s' := []) rfl (xcc_l (List.forall_mem_cons.mpr ⟨rfl, List.forall_mem_cons.mpr ⟨rfl, List.forall_mem_cons.mpr ⟨xidx_i (bcq_lt (bcq_of (n_ := 147) (z_ := (4, 4)) R4.1 rfl)), List.forall_mem_cons.mpr ⟨rfl, fun q_ hq => absurd hq List.not_mem_nil⟩⟩⟩⟩) (fun t_ ht => absurd ht List.not_mem_nil) (Nat.le_of_ble_eq_true rfl)) R4
    rw [e5_ (by omega)] at R5
    obtain ⟨h6, m6_, f6_, r6⟩ := xqb (v1_ := Int32.ofNat o) (v2 := nxt T a_) (v3 := Int32.ofNat (nmi u_ (nxt T a_))) (v4_ := r5_) R5.1
    exact ⟨h6, _, ⟨⟨RX_all R5 m6_ f6_, frD_tr F3 (frD_tr F4 (frD_tr F5 (frD_all m6_ f6_)))⟩, fun _ => rfl⟩, fun D_ hD => ld3 D_ (by omega) _ (ld4 D_ (by omega) _ (ld5 D_ (by omega) _ (r6 D_ (by omega))))⟩
  rw [if_neg g2] at P_ ld3
  obtain ⟨h4, m4_, f4_, ld4⟩ := xqc (v1_ := Int32.ofNat o) (v2 := nxt T a_) (v3 := -1) R3.1 (by decide)
  have R4 := RX_all R3 m4_ f4_
  have F4 := frD_tr F3 (frD_all m4_ f4_)
  by_cases g3_ : 5 ≤ o
  · rw [if_pos g3_] at P_
    cases P_
    obtain ⟨h5, m5_, f5_, r5_⟩ := xqo (v1_ := Int32.ofNat o) (v2 := nxt T a_) (v3 := -1) R4.1 (by omega)
    exact ⟨h5, c_, ⟨⟨RX_all R4 m5_ f5_, frD_tr F4 (frD_all m5_ f5_)⟩, fun q_ => by cases q_⟩, fun D_ hD => ld3 D_ (by omega) _ (ld4 D_ (by omega) _ (r5_ D_ (by omega)))⟩
  rw [if_neg g3_] at P_
  by_cases g4 : nxt T a_ = 33
  · rw [if_pos g4] at P_
    have lt_ : a_ < T.length := nxt_lt (fun q_ => by rw [q_] at g4; exact absurd g4 (by decide))
    obtain ⟨h5, m5_, f5_, ld5⟩ := xq33 (v1_ := Int32.ofNat o) (v2 := nxt T a_) (v3 := -1) R4.1 (by omega) g4
    rw [i32s] at ld5
    have R5 := RX_all R4 m5_ f5_
    have F5 := frD_tr F4 (frD_all m5_ f5_)
    -- readDenied
    have dn : ∀ b1 a1_ c1_, prs T u_ f_ 5 (o + 1) (a_ + 1) c_ = some (b1, (a1_, c1_)) → ∃ h9 c9_, ((RX u_ T h9 a1_ c9_ ∧ frD h5 h9) ∧ (b1 = true → c9_ = c1_ ++ [20033])) ∧ ∀ D_, 71 + 10 * (5 - (o + 1)) ≤ D_ → xrun D_ 27 0 [(0, .index 147), (1, .int (Int32.ofNat (o + 1)))] [] h5 (some (.int (bI b1)), h9, []) := by
      intro b1 a1_ c1_ e1_
      obtain ⟨h6, m6_, e6_, f6_, ld6⟩ := xd1 (v1_ := Int32.ofNat (o + 1)) (v300 := Int32.ofNat a_) R5.1 R5.2.2.1
      rw [i32s] at e6_
      obtain ⟨R6, F6⟩ := RX_at R5 m6_ e6_ f6_
      obtain ⟨h7, c7_, ⟨⟨R7, F7⟩, ec7⟩, r7⟩ := Q_ (o + 1) (a_ + 1) c_ b1 a1_ c1_ h6 (by omega) (by omega) (by omega) R6 e1_
      have pb := prs_b T u_ f_ 5 (o + 1) (a_ + 1) c_ b1 a1_ c1_ (Or.inl (by omega)) (by omega) e1_
      have ld7 := ycv (d_ := 70 + 10 * (5 - (o + 1))) (mi := 27) (pc := 12) (cm := 26) (lo_ := [(0, .index 147), (1, .int (Int32.ofNat (o + 1)))]) (st_ := [.int (Int32.ofNat (o + 1)), .index 147]) (as_ := [.int (Int32.ofNat (o + 1))]) (s' := []) rfl rfl (R147 R6) rfl (xcc_l (List.forall_mem_cons.mpr ⟨xidx_i (bcq_lt (bcq_of (n_ := 147) (z_ := (4, 4)) R6.1 rfl)), List.forall_mem_cons.mpr ⟨rfl, fun q_ hq => absurd hq List.not_mem_nil⟩⟩) (fun t_ ht => absurd ht List.not_mem_nil) (Nat.le_of_ble_eq_true rfl)) r7
      obtain ⟨h8, m8_, f8_, ld8⟩ := xd2 (v1_ := Int32.ofNat (o + 1)) (v2 := bI b1) R7.1
      have R8 := RX_all R7 m8_ f8_
      obtain ⟨h9, c9_, r9, ⟨⟨R9, F9⟩, e9_⟩, ld9⟩ := c_ad (y_ := 20033) (mi := 27) (pc := 23) (lo_ := [(2, .int (bI b1)), (0, .index 147), (1, .int (Int32.ofNat (o + 1)))]) (s' := []) rfl (xcc_l (List.forall_mem_cons.mpr ⟨rfl, List.forall_mem_cons.mpr ⟨xidx_i (bcq_lt (bcq_of (n_ := 147) (z_ := (4, 4)) R8.1 rfl)), List.forall_mem_cons.mpr ⟨rfl, fun q_ hq => absurd hq List.not_mem_nil⟩⟩⟩) (fun t_ ht => absurd ht List.not_mem_nil) (Nat.le_of_ble_eq_true rfl)) R8
      have fin_ : ∃ h10, ysm h9 h10 ∧ ((∀ c_ j_, bpat h10 c_ j_ = bpat h9 c_ j_) ∧ ∀ D_, 60 ≤ D_ → xrun D_ 27 26 [(2, .int (bI b1)), (0, .index 147), (1, .int (Int32.ofNat (o + 1)))] [.int r9] h9 (some (.int (bI b1)), h10, [])) := by
        cases b1 with
        | true => exact xd31 (v1_ := Int32.ofNat (o + 1)) (v3 := r9) R9.1
        | false => exact xd30 (v1_ := Int32.ofNat (o + 1)) (v3 := r9) R9.1
      obtain ⟨h10, m10_, f10, r10⟩ := fin_
      refine ⟨h10, c9_, ⟨⟨RX_all R9 m10_ f10, frD_tr F6 (frD_tr F7 (frD_tr (frD_all m8_ f8_) (frD_tr F9 (frD_all m10_ f10))))⟩, fun hb_ => ?_⟩, fun D_ hD => ld6 D_ (by omega) _ (ld7 D_ (by omega) _ (ld8 D_ (by omega) _ (ld9 D_ (by omega) _ (r10 D_ (by omega)))))⟩
      obtain ⟨⟨q1_, q2_⟩, q3_⟩ := pb
      obtain ⟨q4_, q5_, -⟩ := q3_ hb_
      have ec := ec7 hb_
      rw [ec] at e9_
      exact e9_ (by have q4_ := q4_ (by omega); omega)
    rcases thn_s P_ with ⟨⟨a1_, c1_⟩, e1_, e2_⟩ | ⟨e1_, rfl⟩
    · obtain ⟨rfl, rfl, rfl⟩ := inj3 (show some (true, (a1_, c1_ ++ [20033])) = some (b_, (a', c')) from e2_)
      obtain ⟨h6, c6_, ⟨⟨R6, F6⟩, ec6⟩, r6⟩ := dn true a1_ c1_ e1_
      have ld6 := ycv (d_ := 71 + 10 * (5 - (o + 1))) (mi := 26) (pc := 82) (cm := 27) (lo_ := [(3, .int (-1)), (2, .int (nxt T a_)), (0, .index 147), (1, .int (Int32.ofNat o))]) (st_ := [.int (Int32.ofNat (o + 1)), .index 147]) (as_ := [.int (Int32.ofNat (o + 1))]) (s' := []) rfl rfl (R147 R5) rfl (xcc_l (List.forall_mem_cons.mpr ⟨rfl, List.forall_mem_cons.mpr ⟨rfl, List.forall_mem_cons.mpr ⟨xidx_i (bcq_lt (bcq_of (n_ := 147) (z_ := (4, 4)) R5.1 rfl)), List.forall_mem_cons.mpr ⟨rfl, fun q_ hq => absurd hq List.not_mem_nil⟩⟩⟩⟩) (fun t_ ht => absurd ht List.not_mem_nil) (Nat.le_of_ble_eq_true rfl)) r6
      obtain ⟨h7, m7_, f7_, r7⟩ := xq33r1 (v1_ := Int32.ofNat o) (v2 := nxt T a_) (v3 := -1) R6.1
      exact ⟨h7, c6_, ⟨⟨RX_all R6 m7_ f7_, frD_tr F5 (frD_tr F6 (frD_all m7_ f7_))⟩, ec6⟩, fun D_ hD => ld3 D_ (by omega) _ (ld4 D_ (by omega) _ (ld5 D_ (by omega) _ (ld6 D_ (by omega) _ (r7 D_ (by omega)))))⟩
    · obtain ⟨h6, c6_, ⟨⟨R6, F6⟩, ec6⟩, r6⟩ := dn false a' c' e1_
      have ld6 := ycv (d_ := 71 + 10 * (5 - (o + 1))) (mi := 26) (pc := 82) (cm := 27) (lo_ := [(3, .int (-1)), (2, .int (nxt T a_)), (0, .index 147), (1, .int (Int32.ofNat o))]) (st_ := [.int (Int32.ofNat (o + 1)), .index 147]) (as_ := [.int (Int32.ofNat (o + 1))]) (s' := []) rfl rfl (R147 R5) rfl (xcc_l (List.forall_mem_cons.mpr ⟨rfl, List.forall_mem_cons.mpr ⟨rfl, List.forall_mem_cons.mpr ⟨xidx_i (bcq_lt (bcq_of (n_ := 147) (z_ := (4, 4)) R5.1 rfl)), List.forall_mem_cons.mpr ⟨rfl, fun q_ hq => absurd hq List.not_mem_nil⟩⟩⟩⟩) (fun t_ ht => absurd ht List.not_mem_nil) (Nat.le_of_ble_eq_true rfl)) r6
      obtain ⟨h7, m7_, f7_, r7⟩ := xq33r0 (v1_ := Int32.ofNat o) (v2 := nxt T a_) (v3 := -1) R6.1
      exact ⟨h7, c6_, ⟨⟨RX_all R6 m7_ f7_, frD_tr F5 (frD_tr F6 (frD_all m7_ f7_))⟩, fun q_ => by cases q_⟩, fun D_ hD => ld3 D_ (by omega) _ (ld4 D_ (by omega) _ (ld5 D_ (by omega) _ (ld6 D_ (by omega) _ (r7 D_ (by omega)))))⟩
  rw [if_neg g4] at P_
  by_cases g5_ : nxt T a_ = 40
  · rw [if_pos g5_] at P_
    have lt_ : a_ < T.length := nxt_lt (fun q_ => by rw [q_] at g5_; exact absurd g5_ (by decide))
    obtain ⟨h5, m5_, f5_, ld5⟩ := xq40 (v1_ := Int32.ofNat o) (v2 := nxt T a_) (v3 := -1) R4.1 (by omega) g4 g5_
    rw [i32s] at ld5
    have R5 := RX_all R4 m5_ f5_
    have F5 := frD_tr F4 (frD_all m5_ f5_)
    -- readEnclosed
    have dn : ∃ h9 c9_, ((RX u_ T h9 a' c9_ ∧ frD h5 h9) ∧ (b_ = true → c9_ = c')) ∧ ∀ D_, 77 + 10 * (5 - (o + 1)) ≤ D_ → xrun D_ 28 0 [(0, .index 147), (1, .int (Int32.ofNat (o + 1)))] [] h5 (some (.int (bI b_)), h9, []) := by
      obtain ⟨h6, m6_, e6_, f6_, ld6⟩ := xe1 (v1_ := Int32.ofNat (o + 1)) (v300 := Int32.ofNat a_) R5.1 R5.2.2.1
      rw [i32s] at e6_
      obtain ⟨R6, F6⟩ := RX_at R5 m6_ e6_ f6_
      rcases thn_s P_ with ⟨⟨a1_, c1_⟩, e1_, e2_⟩ | ⟨e1_, rfl⟩
      · have e2_ : (if nxt T a1_ = 41 then some (true, (a1_ + 1, c1_)) else some (false, (a1_, c1_))) = some (b_, (a', c')) := e2_
        obtain ⟨h7, c7_, ⟨⟨R7, F7⟩, ec7⟩, r7⟩ := L_ 0 (o + 1) (a_ + 1) c_ true a1_ c1_ h6 (by omega) (by omega) (by omega) (by omega) R6 e1_
        have ec7 := ec7 rfl
        subst ec7
        have pb := (prs_b T u_ f_ 0 (o + 1) (a_ + 1) c_ true a1_ _ (Or.inl (by omega)) (by omega) e1_).1.2
        have ld7 := ycv (d_ := 76 + 10 * (5 - (o + 1)) - 0) (mi := 28) (pc := 13) (cm := 25) (lo_ := [(0, .index 147), (1, .int (Int32.ofNat (o + 1)))]) (st_ := [.int (Int32.ofNat (o + 1)), .int 0, .index 147]) (as_ := [.int 0, .int (Int32.ofNat (o + 1))]) (s' := []) rfl rfl (R147 R6) rfl (xcc_l (List.forall_mem_cons.mpr ⟨xidx_i (bcq_lt (bcq_of (n_ := 147) (z_ := (4, 4)) R6.1 rfl)), List.forall_mem_cons.mpr ⟨rfl, fun q_ hq => absurd hq List.not_mem_nil⟩⟩) (fun t_ ht => absurd ht List.not_mem_nil) (Nat.le_of_ble_eq_true rfl)) r7
        obtain ⟨h8, m8_, f8_, ld8⟩ := xe3 (v1_ := Int32.ofNat (o + 1)) (v2 := bI true) R7.1 (by decide)
        have R8 := RX_all R7 m8_ f8_
        obtain ⟨h9, ⟨R9, F9⟩, ld9⟩ := c_nx (mi := 28) (pc := 20) (lo_ := [(0, .index 147), (1, .int (Int32.ofNat (o + 1)))]) (s' := []) rfl (xcc_l (List.forall_mem_cons.mpr ⟨xidx_i (bcq_lt (bcq_of (n_ := 147) (z_ := (4, 4)) R8.1 rfl)), List.forall_mem_cons.mpr ⟨rfl, fun q_ hq => absurd hq List.not_mem_nil⟩⟩) (fun t_ ht => absurd ht List.not_mem_nil) (Nat.le_of_ble_eq_true rfl)) R8 pb
        have E9 := frD_tr F6 (frD_tr F7 (frD_tr (frD_all m8_ f8_) F9))
        by_cases g6 : nxt T a1_ = 41
        · rw [if_pos g6] at e2_
          obtain ⟨rfl, rfl, rfl⟩ := inj3 e2_
          obtain ⟨h10, m10_, e10_, f10, r10⟩ := xe4 (v1_ := Int32.ofNat (o + 1)) (v2 := nxt T a1_) (v300 := Int32.ofNat a1_) R9.1 R9.2.2.1 g6
          rw [i32s] at e10_
          obtain ⟨R10, F10⟩ := RX_at R9 m10_ e10_ f10
          exact ⟨h10, _, ⟨⟨R10, frD_tr E9 F10⟩, fun _ => rfl⟩, fun D_ hD => ld6 D_ (by omega) _ (ld7 D_ (by omega) _ (ld8 D_ (by omega) _ (ld9 D_ (by omega) _ (r10 D_ (by omega)))))⟩
        · rw [if_neg g6] at e2_
          obtain ⟨rfl, rfl, rfl⟩ := inj3 e2_
          obtain ⟨h10, m10_, f10, r10⟩ := xe5 (v1_ := Int32.ofNat (o + 1)) (v2 := nxt T a1_) R9.1 g6
          exact ⟨h10, _, ⟨⟨RX_all R9 m10_ f10, frD_tr E9 (frD_all m10_ f10)⟩, fun q_ => by cases q_⟩, fun D_ hD => ld6 D_ (by omega) _ (ld7 D_ (by omega) _ (ld8 D_ (by omega) _ (ld9 D_ (by omega) _ (r10 D_ (by omega)))))⟩
      · obtain ⟨h7, c7_, ⟨⟨R7, F7⟩, ec7⟩, r7⟩ := L_ 0 (o + 1) (a_ + 1) c_ false a' c' h6 (by omega) (by omega) (by omega) (by omega) R6 e1_
        have ld7 := ycv (d_ := 76 + 10 * (5 - (o + 1)) - 0) (mi := 28) (pc := 13) (cm := 25) (lo_ := [(0, .index 147), (1, .int (Int32.ofNat (o + 1)))]) (st_ := [.int (Int32.ofNat (o + 1)), .int 0, .index 147]) (as_ := [.int 0, .int (Int32.ofNat (o + 1))]) (s' := []) rfl rfl (R147 R6) rfl (xcc_l (List.forall_mem_cons.mpr ⟨xidx_i (bcq_lt (bcq_of (n_ := 147) (z_ := (4, 4)) R6.1 rfl)), List.forall_mem_cons.mpr ⟨rfl, fun q_ hq => absurd hq List.not_mem_nil⟩⟩) (fun t_ ht => absurd ht List.not_mem_nil) (Nat.le_of_ble_eq_true rfl)) r7
        obtain ⟨h8, m8_, f8_, r8⟩ := xe2 (v1_ := Int32.ofNat (o + 1)) (v2 := bI false) R7.1 rfl
        exact ⟨h8, c7_, ⟨⟨RX_all R7 m8_ f8_, frD_tr F6 (frD_tr F7 (frD_all m8_ f8_))⟩, fun q_ => by cases q_⟩, fun D_ hD => ld6 D_ (by omega) _ (ld7 D_ (by omega) _ (r8 D_ (by omega)))⟩
    obtain ⟨h6, c6_, ⟨⟨R6, F6⟩, ec6⟩, r6⟩ := dn
    have ld6 := ycv (d_ := 77 + 10 * (5 - (o + 1))) (mi := 26) (pc := 98) (cm := 28) (lo_ := [(3, .int (-1)), (2, .int (nxt T a_)), (0, .index 147), (1, .int (Int32.ofNat o))]) (st_ := [.int (Int32.ofNat (o + 1)), .index 147]) (as_ := [.int (Int32.ofNat (o + 1))]) (s' := []) rfl rfl (R147 R5) rfl (xcc_l (List.forall_mem_cons.mpr ⟨rfl, List.forall_mem_cons.mpr ⟨rfl, List.forall_mem_cons.mpr ⟨xidx_i (bcq_lt (bcq_of (n_ := 147) (z_ := (4, 4)) R5.1 rfl)), List.forall_mem_cons.mpr ⟨rfl, fun q_ hq => absurd hq List.not_mem_nil⟩⟩⟩⟩) (fun t_ ht => absurd ht List.not_mem_nil) (Nat.le_of_ble_eq_true rfl)) r6
    cases b_ with
    | true =>
      obtain ⟨h7, m7_, f7_, r7⟩ := xq40t (v1_ := Int32.ofNat o) (v2 := nxt T a_) (v3 := -1) (v4_ := bI true) R6.1 (by decide)
      exact ⟨h7, c6_, ⟨⟨RX_all R6 m7_ f7_, frD_tr F5 (frD_tr F6 (frD_all m7_ f7_))⟩, ec6⟩, fun D_ hD => ld3 D_ (by omega) _ (ld4 D_ (by omega) _ (ld5 D_ (by omega) _ (ld6 D_ (by omega) _ (r7 D_ (by omega)))))⟩
    | false =>
      obtain ⟨h7, m7_, f7_, r7⟩ := xq40f (v1_ := Int32.ofNat o) (v2 := nxt T a_) (v3 := -1) (v4_ := bI false) R6.1 rfl
      exact ⟨h7, c6_, ⟨⟨RX_all R6 m7_ f7_, frD_tr F5 (frD_tr F6 (frD_all m7_ f7_))⟩, ec6⟩, fun D_ hD => ld3 D_ (by omega) _ (ld4 D_ (by omega) _ (ld5 D_ (by omega) _ (ld6 D_ (by omega) _ (r7 D_ (by omega)))))⟩
  rw [if_neg g5_] at P_
  cases P_
  obtain ⟨h5, m5_, f5_, r5_⟩ := xqz (v1_ := Int32.ofNat o) (v2 := nxt T a_) (v3 := -1) R4.1 (by omega) g4 g5_
  exact ⟨h5, c_, ⟨⟨RX_all R4 m5_ f5_, frD_tr F4 (frD_all m5_ f5_)⟩, fun q_ => by cases q_⟩, fun D_ hD => ld3 D_ (by omega) _ (ld4 D_ (by omega) _ (r5_ D_ (by omega)))⟩
theorem rdr (hu : u_ < 2) (hT_ : byts T) : ∀ f_, LXs u_ T f_ ∧ (QXs u_ T f_ ∧ JXs u_ T f_) := by
  intro f_
  induction f_ with
  | zero => exact ⟨fun k_ o a_ c_ b_ a' c' h_ _ _ _ _ _ P_ => (by cases P_), fun o a_ c_ b_ a' c' h_ _ _ _ _ P_ => (by cases P_), fun k_ o m_ i_ a_ c_ b_ a' c' h_ lo_ _ _ _ _ _ _ _ P_ => (by cases P_)⟩
  | succ f_ ih_ =>
    obtain ⟨L_, Q_, J_⟩ := ih_
    have Q'_ := QX_s hu hT_ L_ Q_
    exact ⟨LX_s hT_ L_ J_ Q'_, Q'_, JX_s hT_ L_ J_⟩
end
