-- ===== ways
-- xwyE0: 2 steps, 1 ends, 0 returns
def xwyE0_L : List (Nat × Nat × Nat) := [(1000, 6, 2), (1002, 6, 2)]
def xwyE0_O : yO := []
def xwyE0_A : yA := (yZ xwyE0_L, [], [], [], [])
def xwyE0_C : List xB := []
def xwyE0_ss : List yS := [(2, [(0, .index 0), (1, .index 1000), (2, .index 1002), (3, .int 0)], [.index 1002, .index 1000], [], [], [])]
def xwyE0_rs : List yR := []
theorem xwyE0_w : ywa xwyE0_A xwyE0_ss xwyE0_rs = true := by decide +kernel
theorem xwyE0_k : yis (yev xwyE0_A 3000 60 129 [2] (0, [(0, .index 0), (1, .index 1000), (2, .index 1002), (3, .int 0)], [], xwyE0_O, xwyE0_C, [])) xwyE0_ss xwyE0_rs = true := by decide +kernel
def xwyE0_r (k_ : Nat) : Value := .int 0
def xwyE0_s (a1000 a1002 : Nat) (n_ : Nat) : Nat := bif Nat.beq n_ 1000 then a1000 else (bif Nat.beq n_ 1002 then a1002 else (0))
theorem xwyE0 {h_ : xH} {a1000 a1002 : Nat} (hs : sHp h_) (k1000 : bcq h_ a1000 6 2) (k1002 : bcq h_ a1002 6 2) : ∃ h', ysm h_ h' ∧ (((∀ a_ j_ : Nat, bpat h' a_ j_ = bpat h_ a_ j_) ∧ (bldD 60 129 0 [(0, .index 0), (1, .index a1000), (2, .index a1002), (3, .int (0 : Int32))] [] h_ 2 [(0, .index 0), (1, .index a1000), (2, .index a1002), (3, .int (0 : Int32))] [.index a1002, .index a1000] h'))) := by
  have hA : yas xwyE0_A xwyE0_r (yg (xwyE0_s a1000 a1002)) := ⟨fun q_ hq => absurd hq List.not_mem_nil, fun q_ hq => absurd hq List.not_mem_nil, fun q_ hq => absurd hq List.not_mem_nil, fun n_ hn => yg_lo hn, fun q_ hq => absurd hq List.not_mem_nil⟩
  have Hs : ysh xwyE0_A.1 (yg (xwyE0_s a1000 a1002)) h_ := ysh_of2 hs (List.forall_mem_cons.mpr ⟨⟨by decide, k1000⟩, List.forall_mem_cons.mpr ⟨⟨by decide, k1002⟩, fun q_ hq => absurd hq List.not_mem_nil⟩⟩)
  have Ho : ymem xwyE0_r (yg (xwyE0_s a1000 a1002)) xwyE0_O h_ := fun q_ hq => absurd hq List.not_mem_nil
  have HC : ∀ q_ ∈ xwyE0_C, xhold xwyE0_r q_ := fun q_ hq => absurd hq List.not_mem_nil
  rcases yrun (yis_ok xwyE0_k) hA Hs Ho HC with ⟨q_, hq, h', K_, G_⟩ | ⟨q_, hq, h', K_, G_⟩
  · have e_ := List.mem_singleton.mp hq
    subst e_
    exact ⟨h', yfr_sm K_.2.2.2 hs K_.1 (ywa_s xwyE0_w List.mem_cons_self), ⟨fun a_ j_ => yfr_bp K_.2.2.2 (fun q_ hq => absurd hq List.not_mem_nil), G_⟩⟩
  · cases hq
-- xwyZ0: 7 steps, 0 ends, 1 returns
def xwyZ0_L : List (Nat × Nat × Nat) := [(1000, 6, 2), (1002, 6, 2)]
def xwyZ0_O : yO := []
def xwyZ0_A : yA := (yZ xwyZ0_L, [], [], [], [])
def xwyZ0_C : List xB := []
def xwyZ0_ss : List yS := []
def xwyZ0_rs : List yR := [(some (.int 0), [], [], [])]
theorem xwyZ0_w : ywa xwyZ0_A xwyZ0_ss xwyZ0_rs = true := by decide +kernel
theorem xwyZ0_k : yis (yev xwyZ0_A 3000 60 129 [] (5, [(0, .index 0), (1, .index 1000), (2, .index 1002), (3, .int 0)], [.int 0], xwyZ0_O, xwyZ0_C, [])) xwyZ0_ss xwyZ0_rs = true := by decide +kernel
def xwyZ0_r (k_ : Nat) : Value := .int 0
def xwyZ0_s (a1000 a1002 : Nat) (n_ : Nat) : Nat := bif Nat.beq n_ 1000 then a1000 else (bif Nat.beq n_ 1002 then a1002 else (0))
theorem xwyZ0 {h_ : xH} {a1000 a1002 : Nat} (hs : sHp h_) (k1000 : bcq h_ a1000 6 2) (k1002 : bcq h_ a1002 6 2) : ∃ h', ysm h_ h' ∧ (((∀ a_ j_ : Nat, bpat h' a_ j_ = bpat h_ a_ j_) ∧ (∀ D_, 60 ≤ D_ → xrun D_ 129 5 [(0, .index 0), (1, .index a1000), (2, .index a1002), (3, .int (0 : Int32))] [.int (0 : Int32)] h_ (some (.int (0 : Int32)), h', [])))) := by
  have hA : yas xwyZ0_A xwyZ0_r (yg (xwyZ0_s a1000 a1002)) := ⟨fun q_ hq => absurd hq List.not_mem_nil, fun q_ hq => absurd hq List.not_mem_nil, fun q_ hq => absurd hq List.not_mem_nil, fun n_ hn => yg_lo hn, fun q_ hq => absurd hq List.not_mem_nil⟩
  have Hs : ysh xwyZ0_A.1 (yg (xwyZ0_s a1000 a1002)) h_ := ysh_of2 hs (List.forall_mem_cons.mpr ⟨⟨by decide, k1000⟩, List.forall_mem_cons.mpr ⟨⟨by decide, k1002⟩, fun q_ hq => absurd hq List.not_mem_nil⟩⟩)
  have Ho : ymem xwyZ0_r (yg (xwyZ0_s a1000 a1002)) xwyZ0_O h_ := fun q_ hq => absurd hq List.not_mem_nil
  have HC : ∀ q_ ∈ xwyZ0_C, xhold xwyZ0_r q_ := fun q_ hq => absurd hq List.not_mem_nil
  rcases yrun (yis_ok xwyZ0_k) hA Hs Ho HC with ⟨q_, hq, h', K_, G_⟩ | ⟨q_, hq, h', K_, G_⟩
  · cases hq
  · have e_ := List.mem_singleton.mp hq
    subst e_
    exact ⟨h', yfr_sm K_.2.2.2 hs K_.1 (ywa_r xwyZ0_w List.mem_cons_self), ⟨fun a_ j_ => yfr_bp K_.2.2.2 (fun q_ hq => absurd hq List.not_mem_nil), G_⟩⟩
-- xwyZ1: 8 steps, 0 ends, 1 returns
def xwyZ1_L : List (Nat × Nat × Nat) := [(1000, 6, 2), (1002, 6, 2)]
def xwyZ1_O : yO := []
def xwyZ1_A : yA := (yZ xwyZ1_L, [], [], [], [])
def xwyZ1_C : List xB := []
def xwyZ1_ss : List yS := []
def xwyZ1_rs : List yR := [(some (.int 1), [], [], [])]
theorem xwyZ1_w : ywa xwyZ1_A xwyZ1_ss xwyZ1_rs = true := by decide +kernel
theorem xwyZ1_k : yis (yev xwyZ1_A 3000 60 129 [] (5, [(0, .index 0), (1, .index 1000), (2, .index 1002), (3, .int 0)], [.int 1], xwyZ1_O, xwyZ1_C, [])) xwyZ1_ss xwyZ1_rs = true := by decide +kernel
def xwyZ1_r (k_ : Nat) : Value := .int 0
def xwyZ1_s (a1000 a1002 : Nat) (n_ : Nat) : Nat := bif Nat.beq n_ 1000 then a1000 else (bif Nat.beq n_ 1002 then a1002 else (0))
theorem xwyZ1 {h_ : xH} {a1000 a1002 : Nat} (hs : sHp h_) (k1000 : bcq h_ a1000 6 2) (k1002 : bcq h_ a1002 6 2) : ∃ h', ysm h_ h' ∧ (((∀ a_ j_ : Nat, bpat h' a_ j_ = bpat h_ a_ j_) ∧ (∀ D_, 60 ≤ D_ → xrun D_ 129 5 [(0, .index 0), (1, .index a1000), (2, .index a1002), (3, .int (0 : Int32))] [.int (1 : Int32)] h_ (some (.int (1 : Int32)), h', [])))) := by
  have hA : yas xwyZ1_A xwyZ1_r (yg (xwyZ1_s a1000 a1002)) := ⟨fun q_ hq => absurd hq List.not_mem_nil, fun q_ hq => absurd hq List.not_mem_nil, fun q_ hq => absurd hq List.not_mem_nil, fun n_ hn => yg_lo hn, fun q_ hq => absurd hq List.not_mem_nil⟩
  have Hs : ysh xwyZ1_A.1 (yg (xwyZ1_s a1000 a1002)) h_ := ysh_of2 hs (List.forall_mem_cons.mpr ⟨⟨by decide, k1000⟩, List.forall_mem_cons.mpr ⟨⟨by decide, k1002⟩, fun q_ hq => absurd hq List.not_mem_nil⟩⟩)
  have Ho : ymem xwyZ1_r (yg (xwyZ1_s a1000 a1002)) xwyZ1_O h_ := fun q_ hq => absurd hq List.not_mem_nil
  have HC : ∀ q_ ∈ xwyZ1_C, xhold xwyZ1_r q_ := fun q_ hq => absurd hq List.not_mem_nil
  rcases yrun (yis_ok xwyZ1_k) hA Hs Ho HC with ⟨q_, hq, h', K_, G_⟩ | ⟨q_, hq, h', K_, G_⟩
  · cases hq
  · have e_ := List.mem_singleton.mp hq
    subst e_
    exact ⟨h', yfr_sm K_.2.2.2 hs K_.1 (ywa_r xwyZ1_w List.mem_cons_self), ⟨fun a_ j_ => yfr_bp K_.2.2.2 (fun q_ hq => absurd hq List.not_mem_nil), G_⟩⟩
-- xwyE1: 2 steps, 1 ends, 0 returns
def xwyE1_L : List (Nat × Nat × Nat) := [(1000, 6, 2), (1002, 6, 2)]
def xwyE1_O : yO := []
def xwyE1_A : yA := (yZ xwyE1_L, [], [], [], [])
def xwyE1_C : List xB := []
def xwyE1_ss : List yS := [(2, [(0, .index 0), (1, .index 1000), (2, .index 1002), (3, .int 1)], [.index 1002, .index 1000], [], [], [])]
def xwyE1_rs : List yR := []
theorem xwyE1_w : ywa xwyE1_A xwyE1_ss xwyE1_rs = true := by decide +kernel
theorem xwyE1_k : yis (yev xwyE1_A 3000 60 129 [2] (0, [(0, .index 0), (1, .index 1000), (2, .index 1002), (3, .int 1)], [], xwyE1_O, xwyE1_C, [])) xwyE1_ss xwyE1_rs = true := by decide +kernel
def xwyE1_r (k_ : Nat) : Value := .int 0
def xwyE1_s (a1000 a1002 : Nat) (n_ : Nat) : Nat := bif Nat.beq n_ 1000 then a1000 else (bif Nat.beq n_ 1002 then a1002 else (0))
theorem xwyE1 {h_ : xH} {a1000 a1002 : Nat} (hs : sHp h_) (k1000 : bcq h_ a1000 6 2) (k1002 : bcq h_ a1002 6 2) : ∃ h', ysm h_ h' ∧ (((∀ a_ j_ : Nat, bpat h' a_ j_ = bpat h_ a_ j_) ∧ (bldD 60 129 0 [(0, .index 0), (1, .index a1000), (2, .index a1002), (3, .int (1 : Int32))] [] h_ 2 [(0, .index 0), (1, .index a1000), (2, .index a1002), (3, .int (1 : Int32))] [.index a1002, .index a1000] h'))) := by
  have hA : yas xwyE1_A xwyE1_r (yg (xwyE1_s a1000 a1002)) := ⟨fun q_ hq => absurd hq List.not_mem_nil, fun q_ hq => absurd hq List.not_mem_nil, fun q_ hq => absurd hq List.not_mem_nil, fun n_ hn => yg_lo hn, fun q_ hq => absurd hq List.not_mem_nil⟩
  have Hs : ysh xwyE1_A.1 (yg (xwyE1_s a1000 a1002)) h_ := ysh_of2 hs (List.forall_mem_cons.mpr ⟨⟨by decide, k1000⟩, List.forall_mem_cons.mpr ⟨⟨by decide, k1002⟩, fun q_ hq => absurd hq List.not_mem_nil⟩⟩)
  have Ho : ymem xwyE1_r (yg (xwyE1_s a1000 a1002)) xwyE1_O h_ := fun q_ hq => absurd hq List.not_mem_nil
  have HC : ∀ q_ ∈ xwyE1_C, xhold xwyE1_r q_ := fun q_ hq => absurd hq List.not_mem_nil
  rcases yrun (yis_ok xwyE1_k) hA Hs Ho HC with ⟨q_, hq, h', K_, G_⟩ | ⟨q_, hq, h', K_, G_⟩
  · have e_ := List.mem_singleton.mp hq
    subst e_
    exact ⟨h', yfr_sm K_.2.2.2 hs K_.1 (ywa_s xwyE1_w List.mem_cons_self), ⟨fun a_ j_ => yfr_bp K_.2.2.2 (fun q_ hq => absurd hq List.not_mem_nil), G_⟩⟩
  · cases hq
-- xwyG10: 19 steps, 1 ends, 0 returns
def xwyG10_L : List (Nat × Nat × Nat) := [(1000, 6, 2), (1002, 6, 2)]
def xwyG10_O : yO := [(0, .int 12, .index 322), (322, .int 0, .index 332)]
def xwyG10_A : yA := (yZ xwyG10_L, [], [], [], [])
def xwyG10_C : List xB := []
def xwyG10_ss : List yS := [(44, [(6, .int 0), (5, .index 332), (4, .int 0), (0, .index 0), (1, .index 1000), (2, .index 1002), (3, .int 1)], [], [(0, .int 12, .index 322), (322, .int 0, .index 332)], [], [])]
def xwyG10_rs : List yR := []
theorem xwyG10_w : ywa xwyG10_A xwyG10_ss xwyG10_rs = true := by decide +kernel
theorem xwyG10_k : yis (yev xwyG10_A 3000 60 129 [44] (5, [(0, .index 0), (1, .index 1000), (2, .index 1002), (3, .int 1)], [.int 0], xwyG10_O, xwyG10_C, [])) xwyG10_ss xwyG10_rs = true := by decide +kernel
def xwyG10_r (k_ : Nat) : Value := .int 0
def xwyG10_s (a1000 a1002 : Nat) (n_ : Nat) : Nat := bif Nat.beq n_ 1000 then a1000 else (bif Nat.beq n_ 1002 then a1002 else (0))
theorem xwyG10 {h_ : xH} {a1000 a1002 : Nat} (hs : sHp h_) (k1000 : bcq h_ a1000 6 2) (k1002 : bcq h_ a1002 6 2) : ∃ h', ysm h_ h' ∧ (((∀ a_ j_ : Nat, bpat h' a_ j_ = bpat h_ a_ j_) ∧ (bldD 60 129 5 [(0, .index 0), (1, .index a1000), (2, .index a1002), (3, .int (1 : Int32))] [.int (0 : Int32)] h_ 44 [(6, .int (0 : Int32)), (5, .index 332), (4, .int (0 : Int32)), (0, .index 0), (1, .index a1000), (2, .index a1002), (3, .int (1 : Int32))] [] h'))) := by
  have hA : yas xwyG10_A xwyG10_r (yg (xwyG10_s a1000 a1002)) := ⟨fun q_ hq => absurd hq List.not_mem_nil, fun q_ hq => absurd hq List.not_mem_nil, fun q_ hq => absurd hq List.not_mem_nil, fun n_ hn => yg_lo hn, fun q_ hq => absurd hq List.not_mem_nil⟩
  have Hs : ysh xwyG10_A.1 (yg (xwyG10_s a1000 a1002)) h_ := ysh_of2 hs (List.forall_mem_cons.mpr ⟨⟨by decide, k1000⟩, List.forall_mem_cons.mpr ⟨⟨by decide, k1002⟩, fun q_ hq => absurd hq List.not_mem_nil⟩⟩)
  have Ho : ymem xwyG10_r (yg (xwyG10_s a1000 a1002)) xwyG10_O h_ := List.forall_mem_cons.mpr ⟨bpat_some (fxr_at hs.2 (show fxk fxl 0 12 = some 322 by decide +kernel)), List.forall_mem_cons.mpr ⟨bpat_some (fxr_at hs.2 (show fxk fxl 322 0 = some 332 by decide +kernel)), fun q_ hq => absurd hq List.not_mem_nil⟩⟩
  have HC : ∀ q_ ∈ xwyG10_C, xhold xwyG10_r q_ := fun q_ hq => absurd hq List.not_mem_nil
  rcases yrun (yis_ok xwyG10_k) hA Hs Ho HC with ⟨q_, hq, h', K_, G_⟩ | ⟨q_, hq, h', K_, G_⟩
  · have e_ := List.mem_singleton.mp hq
    subst e_
    exact ⟨h', yfr_sm K_.2.2.2 hs K_.1 (ywa_s xwyG10_w List.mem_cons_self), ⟨fun a_ j_ => yfr_bp K_.2.2.2 (fun q_ hq => absurd hq List.not_mem_nil), G_⟩⟩
  · cases hq
-- xwyG11: 20 steps, 1 ends, 0 returns
def xwyG11_L : List (Nat × Nat × Nat) := [(1000, 6, 2), (1002, 6, 2)]
def xwyG11_O : yO := [(0, .int 12, .index 322), (322, .int 0, .index 332)]
def xwyG11_A : yA := (yZ xwyG11_L, [], [], [], [])
def xwyG11_C : List xB := []
def xwyG11_ss : List yS := [(44, [(6, .int 0), (5, .index 332), (4, .int 1), (0, .index 0), (1, .index 1000), (2, .index 1002), (3, .int 1)], [], [(0, .int 12, .index 322), (322, .int 0, .index 332)], [], [])]
def xwyG11_rs : List yR := []
theorem xwyG11_w : ywa xwyG11_A xwyG11_ss xwyG11_rs = true := by decide +kernel
theorem xwyG11_k : yis (yev xwyG11_A 3000 60 129 [44] (5, [(0, .index 0), (1, .index 1000), (2, .index 1002), (3, .int 1)], [.int 1], xwyG11_O, xwyG11_C, [])) xwyG11_ss xwyG11_rs = true := by decide +kernel
def xwyG11_r (k_ : Nat) : Value := .int 0
def xwyG11_s (a1000 a1002 : Nat) (n_ : Nat) : Nat := bif Nat.beq n_ 1000 then a1000 else (bif Nat.beq n_ 1002 then a1002 else (0))
theorem xwyG11 {h_ : xH} {a1000 a1002 : Nat} (hs : sHp h_) (k1000 : bcq h_ a1000 6 2) (k1002 : bcq h_ a1002 6 2) : ∃ h', ysm h_ h' ∧ (((∀ a_ j_ : Nat, bpat h' a_ j_ = bpat h_ a_ j_) ∧ (bldD 60 129 5 [(0, .index 0), (1, .index a1000), (2, .index a1002), (3, .int (1 : Int32))] [.int (1 : Int32)] h_ 44 [(6, .int (0 : Int32)), (5, .index 332), (4, .int (1 : Int32)), (0, .index 0), (1, .index a1000), (2, .index a1002), (3, .int (1 : Int32))] [] h'))) := by
  have hA : yas xwyG11_A xwyG11_r (yg (xwyG11_s a1000 a1002)) := ⟨fun q_ hq => absurd hq List.not_mem_nil, fun q_ hq => absurd hq List.not_mem_nil, fun q_ hq => absurd hq List.not_mem_nil, fun n_ hn => yg_lo hn, fun q_ hq => absurd hq List.not_mem_nil⟩
  have Hs : ysh xwyG11_A.1 (yg (xwyG11_s a1000 a1002)) h_ := ysh_of2 hs (List.forall_mem_cons.mpr ⟨⟨by decide, k1000⟩, List.forall_mem_cons.mpr ⟨⟨by decide, k1002⟩, fun q_ hq => absurd hq List.not_mem_nil⟩⟩)
  have Ho : ymem xwyG11_r (yg (xwyG11_s a1000 a1002)) xwyG11_O h_ := List.forall_mem_cons.mpr ⟨bpat_some (fxr_at hs.2 (show fxk fxl 0 12 = some 322 by decide +kernel)), List.forall_mem_cons.mpr ⟨bpat_some (fxr_at hs.2 (show fxk fxl 322 0 = some 332 by decide +kernel)), fun q_ hq => absurd hq List.not_mem_nil⟩⟩
  have HC : ∀ q_ ∈ xwyG11_C, xhold xwyG11_r q_ := fun q_ hq => absurd hq List.not_mem_nil
  rcases yrun (yis_ok xwyG11_k) hA Hs Ho HC with ⟨q_, hq, h', K_, G_⟩ | ⟨q_, hq, h', K_, G_⟩
  · have e_ := List.mem_singleton.mp hq
    subst e_
    exact ⟨h', yfr_sm K_.2.2.2 hs K_.1 (ywa_s xwyG11_w List.mem_cons_self), ⟨fun a_ j_ => yfr_bp K_.2.2.2 (fun q_ hq => absurd hq List.not_mem_nil), G_⟩⟩
  · cases hq
-- xwyE2: 2 steps, 1 ends, 0 returns
def xwyE2_L : List (Nat × Nat × Nat) := [(1000, 6, 2), (1002, 6, 2)]
def xwyE2_O : yO := []
def xwyE2_A : yA := (yZ xwyE2_L, [], [], [], [])
def xwyE2_C : List xB := []
def xwyE2_ss : List yS := [(2, [(0, .index 0), (1, .index 1000), (2, .index 1002), (3, .int 2)], [.index 1002, .index 1000], [], [], [])]
def xwyE2_rs : List yR := []
theorem xwyE2_w : ywa xwyE2_A xwyE2_ss xwyE2_rs = true := by decide +kernel
theorem xwyE2_k : yis (yev xwyE2_A 3000 60 129 [2] (0, [(0, .index 0), (1, .index 1000), (2, .index 1002), (3, .int 2)], [], xwyE2_O, xwyE2_C, [])) xwyE2_ss xwyE2_rs = true := by decide +kernel
def xwyE2_r (k_ : Nat) : Value := .int 0
def xwyE2_s (a1000 a1002 : Nat) (n_ : Nat) : Nat := bif Nat.beq n_ 1000 then a1000 else (bif Nat.beq n_ 1002 then a1002 else (0))
theorem xwyE2 {h_ : xH} {a1000 a1002 : Nat} (hs : sHp h_) (k1000 : bcq h_ a1000 6 2) (k1002 : bcq h_ a1002 6 2) : ∃ h', ysm h_ h' ∧ (((∀ a_ j_ : Nat, bpat h' a_ j_ = bpat h_ a_ j_) ∧ (bldD 60 129 0 [(0, .index 0), (1, .index a1000), (2, .index a1002), (3, .int (2 : Int32))] [] h_ 2 [(0, .index 0), (1, .index a1000), (2, .index a1002), (3, .int (2 : Int32))] [.index a1002, .index a1000] h'))) := by
  have hA : yas xwyE2_A xwyE2_r (yg (xwyE2_s a1000 a1002)) := ⟨fun q_ hq => absurd hq List.not_mem_nil, fun q_ hq => absurd hq List.not_mem_nil, fun q_ hq => absurd hq List.not_mem_nil, fun n_ hn => yg_lo hn, fun q_ hq => absurd hq List.not_mem_nil⟩
  have Hs : ysh xwyE2_A.1 (yg (xwyE2_s a1000 a1002)) h_ := ysh_of2 hs (List.forall_mem_cons.mpr ⟨⟨by decide, k1000⟩, List.forall_mem_cons.mpr ⟨⟨by decide, k1002⟩, fun q_ hq => absurd hq List.not_mem_nil⟩⟩)
  have Ho : ymem xwyE2_r (yg (xwyE2_s a1000 a1002)) xwyE2_O h_ := fun q_ hq => absurd hq List.not_mem_nil
  have HC : ∀ q_ ∈ xwyE2_C, xhold xwyE2_r q_ := fun q_ hq => absurd hq List.not_mem_nil
  rcases yrun (yis_ok xwyE2_k) hA Hs Ho HC with ⟨q_, hq, h', K_, G_⟩ | ⟨q_, hq, h', K_, G_⟩
  · have e_ := List.mem_singleton.mp hq
    subst e_
    exact ⟨h', yfr_sm K_.2.2.2 hs K_.1 (ywa_s xwyE2_w List.mem_cons_self), ⟨fun a_ j_ => yfr_bp K_.2.2.2 (fun q_ hq => absurd hq List.not_mem_nil), G_⟩⟩
  · cases hq
-- xwyG20: 19 steps, 1 ends, 0 returns
def xwyG20_L : List (Nat × Nat × Nat) := [(1000, 6, 2), (1002, 6, 2)]
def xwyG20_O : yO := [(0, .int 12, .index 322), (322, .int 1, .index 334)]
def xwyG20_A : yA := (yZ xwyG20_L, [], [], [], [])
def xwyG20_C : List xB := []
def xwyG20_ss : List yS := [(44, [(6, .int 0), (5, .index 334), (4, .int 0), (0, .index 0), (1, .index 1000), (2, .index 1002), (3, .int 2)], [], [(0, .int 12, .index 322), (322, .int 1, .index 334)], [], [])]
def xwyG20_rs : List yR := []
theorem xwyG20_w : ywa xwyG20_A xwyG20_ss xwyG20_rs = true := by decide +kernel
theorem xwyG20_k : yis (yev xwyG20_A 3000 60 129 [44] (5, [(0, .index 0), (1, .index 1000), (2, .index 1002), (3, .int 2)], [.int 0], xwyG20_O, xwyG20_C, [])) xwyG20_ss xwyG20_rs = true := by decide +kernel
def xwyG20_r (k_ : Nat) : Value := .int 0
def xwyG20_s (a1000 a1002 : Nat) (n_ : Nat) : Nat := bif Nat.beq n_ 1000 then a1000 else (bif Nat.beq n_ 1002 then a1002 else (0))
theorem xwyG20 {h_ : xH} {a1000 a1002 : Nat} (hs : sHp h_) (k1000 : bcq h_ a1000 6 2) (k1002 : bcq h_ a1002 6 2) : ∃ h', ysm h_ h' ∧ (((∀ a_ j_ : Nat, bpat h' a_ j_ = bpat h_ a_ j_) ∧ (bldD 60 129 5 [(0, .index 0), (1, .index a1000), (2, .index a1002), (3, .int (2 : Int32))] [.int (0 : Int32)] h_ 44 [(6, .int (0 : Int32)), (5, .index 334), (4, .int (0 : Int32)), (0, .index 0), (1, .index a1000), (2, .index a1002), (3, .int (2 : Int32))] [] h'))) := by
  have hA : yas xwyG20_A xwyG20_r (yg (xwyG20_s a1000 a1002)) := ⟨fun q_ hq => absurd hq List.not_mem_nil, fun q_ hq => absurd hq List.not_mem_nil, fun q_ hq => absurd hq List.not_mem_nil, fun n_ hn => yg_lo hn, fun q_ hq => absurd hq List.not_mem_nil⟩
  have Hs : ysh xwyG20_A.1 (yg (xwyG20_s a1000 a1002)) h_ := ysh_of2 hs (List.forall_mem_cons.mpr ⟨⟨by decide, k1000⟩, List.forall_mem_cons.mpr ⟨⟨by decide, k1002⟩, fun q_ hq => absurd hq List.not_mem_nil⟩⟩)
  have Ho : ymem xwyG20_r (yg (xwyG20_s a1000 a1002)) xwyG20_O h_ := List.forall_mem_cons.mpr ⟨bpat_some (fxr_at hs.2 (show fxk fxl 0 12 = some 322 by decide +kernel)), List.forall_mem_cons.mpr ⟨bpat_some (fxr_at hs.2 (show fxk fxl 322 1 = some 334 by decide +kernel)), fun q_ hq => absurd hq List.not_mem_nil⟩⟩
  have HC : ∀ q_ ∈ xwyG20_C, xhold xwyG20_r q_ := fun q_ hq => absurd hq List.not_mem_nil
  rcases yrun (yis_ok xwyG20_k) hA Hs Ho HC with ⟨q_, hq, h', K_, G_⟩ | ⟨q_, hq, h', K_, G_⟩
  · have e_ := List.mem_singleton.mp hq
    subst e_
    exact ⟨h', yfr_sm K_.2.2.2 hs K_.1 (ywa_s xwyG20_w List.mem_cons_self), ⟨fun a_ j_ => yfr_bp K_.2.2.2 (fun q_ hq => absurd hq List.not_mem_nil), G_⟩⟩
  · cases hq
-- xwyG21: 20 steps, 1 ends, 0 returns
def xwyG21_L : List (Nat × Nat × Nat) := [(1000, 6, 2), (1002, 6, 2)]
def xwyG21_O : yO := [(0, .int 12, .index 322), (322, .int 1, .index 334)]
def xwyG21_A : yA := (yZ xwyG21_L, [], [], [], [])
def xwyG21_C : List xB := []
def xwyG21_ss : List yS := [(44, [(6, .int 0), (5, .index 334), (4, .int 1), (0, .index 0), (1, .index 1000), (2, .index 1002), (3, .int 2)], [], [(0, .int 12, .index 322), (322, .int 1, .index 334)], [], [])]
def xwyG21_rs : List yR := []
theorem xwyG21_w : ywa xwyG21_A xwyG21_ss xwyG21_rs = true := by decide +kernel
theorem xwyG21_k : yis (yev xwyG21_A 3000 60 129 [44] (5, [(0, .index 0), (1, .index 1000), (2, .index 1002), (3, .int 2)], [.int 1], xwyG21_O, xwyG21_C, [])) xwyG21_ss xwyG21_rs = true := by decide +kernel
def xwyG21_r (k_ : Nat) : Value := .int 0
def xwyG21_s (a1000 a1002 : Nat) (n_ : Nat) : Nat := bif Nat.beq n_ 1000 then a1000 else (bif Nat.beq n_ 1002 then a1002 else (0))
theorem xwyG21 {h_ : xH} {a1000 a1002 : Nat} (hs : sHp h_) (k1000 : bcq h_ a1000 6 2) (k1002 : bcq h_ a1002 6 2) : ∃ h', ysm h_ h' ∧ (((∀ a_ j_ : Nat, bpat h' a_ j_ = bpat h_ a_ j_) ∧ (bldD 60 129 5 [(0, .index 0), (1, .index a1000), (2, .index a1002), (3, .int (2 : Int32))] [.int (1 : Int32)] h_ 44 [(6, .int (0 : Int32)), (5, .index 334), (4, .int (1 : Int32)), (0, .index 0), (1, .index a1000), (2, .index a1002), (3, .int (2 : Int32))] [] h'))) := by
  have hA : yas xwyG21_A xwyG21_r (yg (xwyG21_s a1000 a1002)) := ⟨fun q_ hq => absurd hq List.not_mem_nil, fun q_ hq => absurd hq List.not_mem_nil, fun q_ hq => absurd hq List.not_mem_nil, fun n_ hn => yg_lo hn, fun q_ hq => absurd hq List.not_mem_nil⟩
  have Hs : ysh xwyG21_A.1 (yg (xwyG21_s a1000 a1002)) h_ := ysh_of2 hs (List.forall_mem_cons.mpr ⟨⟨by decide, k1000⟩, List.forall_mem_cons.mpr ⟨⟨by decide, k1002⟩, fun q_ hq => absurd hq List.not_mem_nil⟩⟩)
  have Ho : ymem xwyG21_r (yg (xwyG21_s a1000 a1002)) xwyG21_O h_ := List.forall_mem_cons.mpr ⟨bpat_some (fxr_at hs.2 (show fxk fxl 0 12 = some 322 by decide +kernel)), List.forall_mem_cons.mpr ⟨bpat_some (fxr_at hs.2 (show fxk fxl 322 1 = some 334 by decide +kernel)), fun q_ hq => absurd hq List.not_mem_nil⟩⟩
  have HC : ∀ q_ ∈ xwyG21_C, xhold xwyG21_r q_ := fun q_ hq => absurd hq List.not_mem_nil
  rcases yrun (yis_ok xwyG21_k) hA Hs Ho HC with ⟨q_, hq, h', K_, G_⟩ | ⟨q_, hq, h', K_, G_⟩
  · have e_ := List.mem_singleton.mp hq
    subst e_
    exact ⟨h', yfr_sm K_.2.2.2 hs K_.1 (ywa_s xwyG21_w List.mem_cons_self), ⟨fun a_ j_ => yfr_bp K_.2.2.2 (fun q_ hq => absurd hq List.not_mem_nil), G_⟩⟩
  · cases hq
-- xwyE3: 2 steps, 1 ends, 0 returns
def xwyE3_L : List (Nat × Nat × Nat) := [(1000, 6, 2), (1002, 6, 2)]
def xwyE3_O : yO := []
def xwyE3_A : yA := (yZ xwyE3_L, [], [], [], [])
def xwyE3_C : List xB := []
def xwyE3_ss : List yS := [(2, [(0, .index 0), (1, .index 1000), (2, .index 1002), (3, .int 3)], [.index 1002, .index 1000], [], [], [])]
def xwyE3_rs : List yR := []
theorem xwyE3_w : ywa xwyE3_A xwyE3_ss xwyE3_rs = true := by decide +kernel
theorem xwyE3_k : yis (yev xwyE3_A 3000 60 129 [2] (0, [(0, .index 0), (1, .index 1000), (2, .index 1002), (3, .int 3)], [], xwyE3_O, xwyE3_C, [])) xwyE3_ss xwyE3_rs = true := by decide +kernel
def xwyE3_r (k_ : Nat) : Value := .int 0
def xwyE3_s (a1000 a1002 : Nat) (n_ : Nat) : Nat := bif Nat.beq n_ 1000 then a1000 else (bif Nat.beq n_ 1002 then a1002 else (0))
theorem xwyE3 {h_ : xH} {a1000 a1002 : Nat} (hs : sHp h_) (k1000 : bcq h_ a1000 6 2) (k1002 : bcq h_ a1002 6 2) : ∃ h', ysm h_ h' ∧ (((∀ a_ j_ : Nat, bpat h' a_ j_ = bpat h_ a_ j_) ∧ (bldD 60 129 0 [(0, .index 0), (1, .index a1000), (2, .index a1002), (3, .int (3 : Int32))] [] h_ 2 [(0, .index 0), (1, .index a1000), (2, .index a1002), (3, .int (3 : Int32))] [.index a1002, .index a1000] h'))) := by
  have hA : yas xwyE3_A xwyE3_r (yg (xwyE3_s a1000 a1002)) := ⟨fun q_ hq => absurd hq List.not_mem_nil, fun q_ hq => absurd hq List.not_mem_nil, fun q_ hq => absurd hq List.not_mem_nil, fun n_ hn => yg_lo hn, fun q_ hq => absurd hq List.not_mem_nil⟩
  have Hs : ysh xwyE3_A.1 (yg (xwyE3_s a1000 a1002)) h_ := ysh_of2 hs (List.forall_mem_cons.mpr ⟨⟨by decide, k1000⟩, List.forall_mem_cons.mpr ⟨⟨by decide, k1002⟩, fun q_ hq => absurd hq List.not_mem_nil⟩⟩)
  have Ho : ymem xwyE3_r (yg (xwyE3_s a1000 a1002)) xwyE3_O h_ := fun q_ hq => absurd hq List.not_mem_nil
  have HC : ∀ q_ ∈ xwyE3_C, xhold xwyE3_r q_ := fun q_ hq => absurd hq List.not_mem_nil
  rcases yrun (yis_ok xwyE3_k) hA Hs Ho HC with ⟨q_, hq, h', K_, G_⟩ | ⟨q_, hq, h', K_, G_⟩
  · have e_ := List.mem_singleton.mp hq
    subst e_
    exact ⟨h', yfr_sm K_.2.2.2 hs K_.1 (ywa_s xwyE3_w List.mem_cons_self), ⟨fun a_ j_ => yfr_bp K_.2.2.2 (fun q_ hq => absurd hq List.not_mem_nil), G_⟩⟩
  · cases hq
-- xwyG30: 19 steps, 1 ends, 0 returns
def xwyG30_L : List (Nat × Nat × Nat) := [(1000, 6, 2), (1002, 6, 2)]
def xwyG30_O : yO := [(0, .int 12, .index 322), (322, .int 2, .index 336)]
def xwyG30_A : yA := (yZ xwyG30_L, [], [], [], [])
def xwyG30_C : List xB := []
def xwyG30_ss : List yS := [(44, [(6, .int 0), (5, .index 336), (4, .int 0), (0, .index 0), (1, .index 1000), (2, .index 1002), (3, .int 3)], [], [(0, .int 12, .index 322), (322, .int 2, .index 336)], [], [])]
def xwyG30_rs : List yR := []
theorem xwyG30_w : ywa xwyG30_A xwyG30_ss xwyG30_rs = true := by decide +kernel
theorem xwyG30_k : yis (yev xwyG30_A 3000 60 129 [44] (5, [(0, .index 0), (1, .index 1000), (2, .index 1002), (3, .int 3)], [.int 0], xwyG30_O, xwyG30_C, [])) xwyG30_ss xwyG30_rs = true := by decide +kernel
def xwyG30_r (k_ : Nat) : Value := .int 0
def xwyG30_s (a1000 a1002 : Nat) (n_ : Nat) : Nat := bif Nat.beq n_ 1000 then a1000 else (bif Nat.beq n_ 1002 then a1002 else (0))
theorem xwyG30 {h_ : xH} {a1000 a1002 : Nat} (hs : sHp h_) (k1000 : bcq h_ a1000 6 2) (k1002 : bcq h_ a1002 6 2) : ∃ h', ysm h_ h' ∧ (((∀ a_ j_ : Nat, bpat h' a_ j_ = bpat h_ a_ j_) ∧ (bldD 60 129 5 [(0, .index 0), (1, .index a1000), (2, .index a1002), (3, .int (3 : Int32))] [.int (0 : Int32)] h_ 44 [(6, .int (0 : Int32)), (5, .index 336), (4, .int (0 : Int32)), (0, .index 0), (1, .index a1000), (2, .index a1002), (3, .int (3 : Int32))] [] h'))) := by
  have hA : yas xwyG30_A xwyG30_r (yg (xwyG30_s a1000 a1002)) := ⟨fun q_ hq => absurd hq List.not_mem_nil, fun q_ hq => absurd hq List.not_mem_nil, fun q_ hq => absurd hq List.not_mem_nil, fun n_ hn => yg_lo hn, fun q_ hq => absurd hq List.not_mem_nil⟩
  have Hs : ysh xwyG30_A.1 (yg (xwyG30_s a1000 a1002)) h_ := ysh_of2 hs (List.forall_mem_cons.mpr ⟨⟨by decide, k1000⟩, List.forall_mem_cons.mpr ⟨⟨by decide, k1002⟩, fun q_ hq => absurd hq List.not_mem_nil⟩⟩)
  have Ho : ymem xwyG30_r (yg (xwyG30_s a1000 a1002)) xwyG30_O h_ := List.forall_mem_cons.mpr ⟨bpat_some (fxr_at hs.2 (show fxk fxl 0 12 = some 322 by decide +kernel)), List.forall_mem_cons.mpr ⟨bpat_some (fxr_at hs.2 (show fxk fxl 322 2 = some 336 by decide +kernel)), fun q_ hq => absurd hq List.not_mem_nil⟩⟩
  have HC : ∀ q_ ∈ xwyG30_C, xhold xwyG30_r q_ := fun q_ hq => absurd hq List.not_mem_nil
  rcases yrun (yis_ok xwyG30_k) hA Hs Ho HC with ⟨q_, hq, h', K_, G_⟩ | ⟨q_, hq, h', K_, G_⟩
  · have e_ := List.mem_singleton.mp hq
    subst e_
    exact ⟨h', yfr_sm K_.2.2.2 hs K_.1 (ywa_s xwyG30_w List.mem_cons_self), ⟨fun a_ j_ => yfr_bp K_.2.2.2 (fun q_ hq => absurd hq List.not_mem_nil), G_⟩⟩
  · cases hq
-- xwyG31: 20 steps, 1 ends, 0 returns
def xwyG31_L : List (Nat × Nat × Nat) := [(1000, 6, 2), (1002, 6, 2)]
def xwyG31_O : yO := [(0, .int 12, .index 322), (322, .int 2, .index 336)]
def xwyG31_A : yA := (yZ xwyG31_L, [], [], [], [])
def xwyG31_C : List xB := []
def xwyG31_ss : List yS := [(44, [(6, .int 0), (5, .index 336), (4, .int 1), (0, .index 0), (1, .index 1000), (2, .index 1002), (3, .int 3)], [], [(0, .int 12, .index 322), (322, .int 2, .index 336)], [], [])]
def xwyG31_rs : List yR := []
theorem xwyG31_w : ywa xwyG31_A xwyG31_ss xwyG31_rs = true := by decide +kernel
theorem xwyG31_k : yis (yev xwyG31_A 3000 60 129 [44] (5, [(0, .index 0), (1, .index 1000), (2, .index 1002), (3, .int 3)], [.int 1], xwyG31_O, xwyG31_C, [])) xwyG31_ss xwyG31_rs = true := by decide +kernel
def xwyG31_r (k_ : Nat) : Value := .int 0
def xwyG31_s (a1000 a1002 : Nat) (n_ : Nat) : Nat := bif Nat.beq n_ 1000 then a1000 else (bif Nat.beq n_ 1002 then a1002 else (0))
theorem xwyG31 {h_ : xH} {a1000 a1002 : Nat} (hs : sHp h_) (k1000 : bcq h_ a1000 6 2) (k1002 : bcq h_ a1002 6 2) : ∃ h', ysm h_ h' ∧ (((∀ a_ j_ : Nat, bpat h' a_ j_ = bpat h_ a_ j_) ∧ (bldD 60 129 5 [(0, .index 0), (1, .index a1000), (2, .index a1002), (3, .int (3 : Int32))] [.int (1 : Int32)] h_ 44 [(6, .int (0 : Int32)), (5, .index 336), (4, .int (1 : Int32)), (0, .index 0), (1, .index a1000), (2, .index a1002), (3, .int (3 : Int32))] [] h'))) := by
  have hA : yas xwyG31_A xwyG31_r (yg (xwyG31_s a1000 a1002)) := ⟨fun q_ hq => absurd hq List.not_mem_nil, fun q_ hq => absurd hq List.not_mem_nil, fun q_ hq => absurd hq List.not_mem_nil, fun n_ hn => yg_lo hn, fun q_ hq => absurd hq List.not_mem_nil⟩
  have Hs : ysh xwyG31_A.1 (yg (xwyG31_s a1000 a1002)) h_ := ysh_of2 hs (List.forall_mem_cons.mpr ⟨⟨by decide, k1000⟩, List.forall_mem_cons.mpr ⟨⟨by decide, k1002⟩, fun q_ hq => absurd hq List.not_mem_nil⟩⟩)
  have Ho : ymem xwyG31_r (yg (xwyG31_s a1000 a1002)) xwyG31_O h_ := List.forall_mem_cons.mpr ⟨bpat_some (fxr_at hs.2 (show fxk fxl 0 12 = some 322 by decide +kernel)), List.forall_mem_cons.mpr ⟨bpat_some (fxr_at hs.2 (show fxk fxl 322 2 = some 336 by decide +kernel)), fun q_ hq => absurd hq List.not_mem_nil⟩⟩
  have HC : ∀ q_ ∈ xwyG31_C, xhold xwyG31_r q_ := fun q_ hq => absurd hq List.not_mem_nil
  rcases yrun (yis_ok xwyG31_k) hA Hs Ho HC with ⟨q_, hq, h', K_, G_⟩ | ⟨q_, hq, h', K_, G_⟩
  · have e_ := List.mem_singleton.mp hq
    subst e_
    exact ⟨h', yfr_sm K_.2.2.2 hs K_.1 (ywa_s xwyG31_w List.mem_cons_self), ⟨fun a_ j_ => yfr_bp K_.2.2.2 (fun q_ hq => absurd hq List.not_mem_nil), G_⟩⟩
  · cases hq
-- xwyT1A: 7 steps, 1 ends, 0 returns
def xwyT1A_L : List (Nat × Nat × Nat) := [(1000, 6, 2), (1002, 6, 2)]
def xwyT1A_O : yO := [(0, .int 0, .index 1), (1, .int 10, .arg 300)]
def xwyT1A_A : yA := (yZ xwyT1A_L, [], [], [], [])
def xwyT1A_C : List xB := [(.lt, .arg 6, .arg 300, true)]
def xwyT1A_ss : List yS := [(59, [(6, .arg 6), (5, .index 332), (4, .arg 4), (0, .index 0), (1, .index 1000), (2, .index 1002), (3, .int 1)], [.index 1000, .index 332], [(0, .int 0, .index 1), (1, .int 10, .arg 300)], [(.lt, .arg 6, .arg 300, true)], [])]
def xwyT1A_rs : List yR := []
theorem xwyT1A_w : ywa xwyT1A_A xwyT1A_ss xwyT1A_rs = true := by decide +kernel
theorem xwyT1A_k : yis (yev xwyT1A_A 3000 60 129 [59] (44, [(6, .arg 6), (5, .index 332), (4, .arg 4), (0, .index 0), (1, .index 1000), (2, .index 1002), (3, .int 1)], [], xwyT1A_O, xwyT1A_C, [])) xwyT1A_ss xwyT1A_rs = true := by decide +kernel
def xwyT1A_r (v4_ v6 v300 : Int32) (k_ : Nat) : Value := bif Nat.beq k_ 4 then .int v4_ else (bif Nat.beq k_ 6 then .int v6 else (bif Nat.beq k_ 300 then .int v300 else (.int 0)))
def xwyT1A_s (a1000 a1002 : Nat) (n_ : Nat) : Nat := bif Nat.beq n_ 1000 then a1000 else (bif Nat.beq n_ 1002 then a1002 else (0))
theorem xwyT1A {h_ : xH} {a1000 a1002 : Nat} {v4_ v6 v300 : Int32} (hs : sHp h_) (k1000 : bcq h_ a1000 6 2) (k1002 : bcq h_ a1002 6 2) (o0_ : bpat h_ 1 10 = some (.int v300)) (c0_ : v6.toInt < v300.toInt) : ∃ h', ysm h_ h' ∧ (((∀ a_ j_ : Nat, bpat h' a_ j_ = bpat h_ a_ j_) ∧ (bldD 60 129 44 [(6, .int v6), (5, .index 332), (4, .int v4_), (0, .index 0), (1, .index a1000), (2, .index a1002), (3, .int (1 : Int32))] [] h_ 59 [(6, .int v6), (5, .index 332), (4, .int v4_), (0, .index 0), (1, .index a1000), (2, .index a1002), (3, .int (1 : Int32))] [.index a1000, .index 332] h'))) := by
  have hA : yas xwyT1A_A (xwyT1A_r v4_ v6 v300) (yg (xwyT1A_s a1000 a1002)) := ⟨fun q_ hq => absurd hq List.not_mem_nil, fun q_ hq => absurd hq List.not_mem_nil, fun q_ hq => absurd hq List.not_mem_nil, fun n_ hn => yg_lo hn, fun q_ hq => absurd hq List.not_mem_nil⟩
  have Hs : ysh xwyT1A_A.1 (yg (xwyT1A_s a1000 a1002)) h_ := ysh_of2 hs (List.forall_mem_cons.mpr ⟨⟨by decide, k1000⟩, List.forall_mem_cons.mpr ⟨⟨by decide, k1002⟩, fun q_ hq => absurd hq List.not_mem_nil⟩⟩)
  have Ho : ymem (xwyT1A_r v4_ v6 v300) (yg (xwyT1A_s a1000 a1002)) xwyT1A_O h_ := List.forall_mem_cons.mpr ⟨bpat_some (fxr_at hs.2 (show fxk fxl 0 0 = some 1 by decide +kernel)), List.forall_mem_cons.mpr ⟨bpat_some o0_, fun q_ hq => absurd hq List.not_mem_nil⟩⟩
  have HC : ∀ q_ ∈ xwyT1A_C, xhold (xwyT1A_r v4_ v6 v300) q_ := List.forall_mem_cons.mpr ⟨xh_ltT c0_, fun q_ hq => absurd hq List.not_mem_nil⟩
  rcases yrun (yis_ok xwyT1A_k) hA Hs Ho HC with ⟨q_, hq, h', K_, G_⟩ | ⟨q_, hq, h', K_, G_⟩
  · have e_ := List.mem_singleton.mp hq
    subst e_
    exact ⟨h', yfr_sm K_.2.2.2 hs K_.1 (ywa_s xwyT1A_w List.mem_cons_self), ⟨fun a_ j_ => yfr_bp K_.2.2.2 (fun q_ hq => absurd hq List.not_mem_nil), G_⟩⟩
  · cases hq
-- xwyU1A: 8 steps, 1 ends, 0 returns
def xwyU1A_L : List (Nat × Nat × Nat) := [(1000, 6, 2), (1002, 6, 2), (1004, 5, 3)]
def xwyU1A_O : yO := [(0, .int 0, .index 1), (1, .int 1, .index 3), (3, .arg 6, .index 1004)]
def xwyU1A_A : yA := (yZ xwyU1A_L, [(.arg 6, 8)], [], [], [])
def xwyU1A_C : List xB := []
def xwyU1A_ss : List yS := [(78, [(6, .arg 6), (5, .index 332), (4, .arg 4), (0, .index 0), (1, .index 1000), (2, .index 1002), (3, .int 1)], [.index 332, .index 1004, .index 1], [(0, .int 0, .index 1), (1, .int 1, .index 3), (3, .arg 6, .index 1004)], [], [])]
def xwyU1A_rs : List yR := []
theorem xwyU1A_w : ywa xwyU1A_A xwyU1A_ss xwyU1A_rs = true := by decide +kernel
theorem xwyU1A_k : yis (yev xwyU1A_A 3000 60 129 [78] (62, [(6, .arg 6), (5, .index 332), (4, .arg 4), (0, .index 0), (1, .index 1000), (2, .index 1002), (3, .int 1)], [], xwyU1A_O, xwyU1A_C, [])) xwyU1A_ss xwyU1A_rs = true := by decide +kernel
def xwyU1A_r (v4_ v6 : Int32) (k_ : Nat) : Value := bif Nat.beq k_ 4 then .int v4_ else (bif Nat.beq k_ 6 then .int v6 else (.int 0))
def xwyU1A_s (a1000 a1002 a1004 : Nat) (n_ : Nat) : Nat := bif Nat.beq n_ 1000 then a1000 else (bif Nat.beq n_ 1002 then a1002 else (bif Nat.beq n_ 1004 then a1004 else (0)))
theorem xwyU1A {h_ : xH} {a1000 a1002 a1004 : Nat} {v4_ v6 : Int32} (hs : sHp h_) (k1000 : bcq h_ a1000 6 2) (k1002 : bcq h_ a1002 6 2) (k1004 : bcq h_ a1004 5 3) (o0_ : bpat h_ 3 (v6).toInt.toNat = some (.index a1004)) (b0 : 0 ≤ (v6).toInt ∧ (v6).toInt < 8) : ∃ h', ysm h_ h' ∧ (((∀ a_ j_ : Nat, bpat h' a_ j_ = bpat h_ a_ j_) ∧ (bldD 60 129 62 [(6, .int v6), (5, .index 332), (4, .int v4_), (0, .index 0), (1, .index a1000), (2, .index a1002), (3, .int (1 : Int32))] [] h_ 78 [(6, .int v6), (5, .index 332), (4, .int v4_), (0, .index 0), (1, .index a1000), (2, .index a1002), (3, .int (1 : Int32))] [.index 332, .index a1004, .index 1] h'))) := by
  have hA : yas xwyU1A_A (xwyU1A_r v4_ v6) (yg (xwyU1A_s a1000 a1002 a1004)) := ⟨List.forall_mem_cons.mpr ⟨b0, fun q_ hq => absurd hq List.not_mem_nil⟩, fun q_ hq => absurd hq List.not_mem_nil, fun q_ hq => absurd hq List.not_mem_nil, fun n_ hn => yg_lo hn, fun q_ hq => absurd hq List.not_mem_nil⟩
  have Hs : ysh xwyU1A_A.1 (yg (xwyU1A_s a1000 a1002 a1004)) h_ := ysh_of2 hs (List.forall_mem_cons.mpr ⟨⟨by decide, k1000⟩, List.forall_mem_cons.mpr ⟨⟨by decide, k1002⟩, List.forall_mem_cons.mpr ⟨⟨by decide, k1004⟩, fun q_ hq => absurd hq List.not_mem_nil⟩⟩⟩)
  have Ho : ymem (xwyU1A_r v4_ v6) (yg (xwyU1A_s a1000 a1002 a1004)) xwyU1A_O h_ := List.forall_mem_cons.mpr ⟨bpat_some (fxr_at hs.2 (show fxk fxl 0 0 = some 1 by decide +kernel)), List.forall_mem_cons.mpr ⟨bpat_some (fxr_at hs.2 (show fxk fxl 1 1 = some 3 by decide +kernel)), List.forall_mem_cons.mpr ⟨bpat_some o0_, fun q_ hq => absurd hq List.not_mem_nil⟩⟩⟩
  have HC : ∀ q_ ∈ xwyU1A_C, xhold (xwyU1A_r v4_ v6) q_ := fun q_ hq => absurd hq List.not_mem_nil
  rcases yrun (yis_ok xwyU1A_k) hA Hs Ho HC with ⟨q_, hq, h', K_, G_⟩ | ⟨q_, hq, h', K_, G_⟩
  · have e_ := List.mem_singleton.mp hq
    subst e_
    exact ⟨h', yfr_sm K_.2.2.2 hs K_.1 (ywa_s xwyU1A_w List.mem_cons_self), ⟨fun a_ j_ => yfr_bp K_.2.2.2 (fun q_ hq => absurd hq List.not_mem_nil), G_⟩⟩
  · cases hq
-- xwyV1A: 7 steps, 1 ends, 0 returns
def xwyV1A_L : List (Nat × Nat × Nat) := [(1000, 6, 2), (1002, 6, 2)]
def xwyV1A_O : yO := []
def xwyV1A_A : yA := (yZ xwyV1A_L, [], [], [], [])
def xwyV1A_C : List xB := []
def xwyV1A_ss : List yS := [(90, [(6, .arg 6), (5, .index 332), (4, .arg 4), (0, .index 0), (1, .index 1000), (2, .index 1002), (3, .int 1)], [.int 0, .index 1002, .index 332, .index 0, .arg 4], [], [], [])]
def xwyV1A_rs : List yR := []
theorem xwyV1A_w : ywa xwyV1A_A xwyV1A_ss xwyV1A_rs = true := by decide +kernel
theorem xwyV1A_k : yis (yev xwyV1A_A 3000 60 129 [90] (81, [(6, .arg 6), (5, .index 332), (4, .arg 4), (0, .index 0), (1, .index 1000), (2, .index 1002), (3, .int 1)], [], xwyV1A_O, xwyV1A_C, [])) xwyV1A_ss xwyV1A_rs = true := by decide +kernel
def xwyV1A_r (v4_ v6 : Int32) (k_ : Nat) : Value := bif Nat.beq k_ 4 then .int v4_ else (bif Nat.beq k_ 6 then .int v6 else (.int 0))
def xwyV1A_s (a1000 a1002 : Nat) (n_ : Nat) : Nat := bif Nat.beq n_ 1000 then a1000 else (bif Nat.beq n_ 1002 then a1002 else (0))
theorem xwyV1A {h_ : xH} {a1000 a1002 : Nat} {v4_ v6 : Int32} (hs : sHp h_) (k1000 : bcq h_ a1000 6 2) (k1002 : bcq h_ a1002 6 2) : ∃ h', ysm h_ h' ∧ (((∀ a_ j_ : Nat, bpat h' a_ j_ = bpat h_ a_ j_) ∧ (bldD 60 129 81 [(6, .int v6), (5, .index 332), (4, .int v4_), (0, .index 0), (1, .index a1000), (2, .index a1002), (3, .int (1 : Int32))] [] h_ 90 [(6, .int v6), (5, .index 332), (4, .int v4_), (0, .index 0), (1, .index a1000), (2, .index a1002), (3, .int (1 : Int32))] [.int (0 : Int32), .index a1002, .index 332, .index 0, .int v4_] h'))) := by
  have hA : yas xwyV1A_A (xwyV1A_r v4_ v6) (yg (xwyV1A_s a1000 a1002)) := ⟨fun q_ hq => absurd hq List.not_mem_nil, fun q_ hq => absurd hq List.not_mem_nil, fun q_ hq => absurd hq List.not_mem_nil, fun n_ hn => yg_lo hn, fun q_ hq => absurd hq List.not_mem_nil⟩
  have Hs : ysh xwyV1A_A.1 (yg (xwyV1A_s a1000 a1002)) h_ := ysh_of2 hs (List.forall_mem_cons.mpr ⟨⟨by decide, k1000⟩, List.forall_mem_cons.mpr ⟨⟨by decide, k1002⟩, fun q_ hq => absurd hq List.not_mem_nil⟩⟩)
  have Ho : ymem (xwyV1A_r v4_ v6) (yg (xwyV1A_s a1000 a1002)) xwyV1A_O h_ := fun q_ hq => absurd hq List.not_mem_nil
  have HC : ∀ q_ ∈ xwyV1A_C, xhold (xwyV1A_r v4_ v6) q_ := fun q_ hq => absurd hq List.not_mem_nil
  rcases yrun (yis_ok xwyV1A_k) hA Hs Ho HC with ⟨q_, hq, h', K_, G_⟩ | ⟨q_, hq, h', K_, G_⟩
  · have e_ := List.mem_singleton.mp hq
    subst e_
    exact ⟨h', yfr_sm K_.2.2.2 hs K_.1 (ywa_s xwyV1A_w List.mem_cons_self), ⟨fun a_ j_ => yfr_bp K_.2.2.2 (fun q_ hq => absurd hq List.not_mem_nil), G_⟩⟩
  · cases hq
-- xwyW1A: 4 steps, 1 ends, 0 returns
def xwyW1A_L : List (Nat × Nat × Nat) := [(1000, 6, 2), (1002, 6, 2)]
def xwyW1A_O : yO := []
def xwyW1A_A : yA := (yZ xwyW1A_L, [], [], [], [])
def xwyW1A_C : List xB := []
def xwyW1A_ss : List yS := [(44, [(6, .add (.arg 6) (.int 1)), (4, .add (.arg 8) (.arg 7)), (5, .index 332), (0, .index 0), (1, .index 1000), (2, .index 1002), (3, .int 1)], [], [], [], [])]
def xwyW1A_rs : List yR := []
theorem xwyW1A_w : ywa xwyW1A_A xwyW1A_ss xwyW1A_rs = true := by decide +kernel
theorem xwyW1A_k : yis (yev xwyW1A_A 3000 60 129 [44] (93, [(6, .arg 6), (5, .index 332), (4, .arg 4), (0, .index 0), (1, .index 1000), (2, .index 1002), (3, .int 1)], [.arg 7, .arg 8], xwyW1A_O, xwyW1A_C, [])) xwyW1A_ss xwyW1A_rs = true := by decide +kernel
def xwyW1A_r (v4_ v6 v7 v8 : Int32) (k_ : Nat) : Value := bif Nat.beq k_ 4 then .int v4_ else (bif Nat.beq k_ 6 then .int v6 else (bif Nat.beq k_ 7 then .int v7 else (bif Nat.beq k_ 8 then .int v8 else (.int 0))))
def xwyW1A_s (a1000 a1002 : Nat) (n_ : Nat) : Nat := bif Nat.beq n_ 1000 then a1000 else (bif Nat.beq n_ 1002 then a1002 else (0))
theorem xwyW1A {h_ : xH} {a1000 a1002 : Nat} {v4_ v6 v7 v8 : Int32} (hs : sHp h_) (k1000 : bcq h_ a1000 6 2) (k1002 : bcq h_ a1002 6 2) : ∃ h', ysm h_ h' ∧ (((∀ a_ j_ : Nat, bpat h' a_ j_ = bpat h_ a_ j_) ∧ (bldD 60 129 93 [(6, .int v6), (5, .index 332), (4, .int v4_), (0, .index 0), (1, .index a1000), (2, .index a1002), (3, .int (1 : Int32))] [.int v7, .int v8] h_ 44 [(6, .int (v6 + (1 : Int32))), (4, .int (v8 + v7)), (5, .index 332), (0, .index 0), (1, .index a1000), (2, .index a1002), (3, .int (1 : Int32))] [] h'))) := by
  have hA : yas xwyW1A_A (xwyW1A_r v4_ v6 v7 v8) (yg (xwyW1A_s a1000 a1002)) := ⟨fun q_ hq => absurd hq List.not_mem_nil, fun q_ hq => absurd hq List.not_mem_nil, fun q_ hq => absurd hq List.not_mem_nil, fun n_ hn => yg_lo hn, fun q_ hq => absurd hq List.not_mem_nil⟩
  have Hs : ysh xwyW1A_A.1 (yg (xwyW1A_s a1000 a1002)) h_ := ysh_of2 hs (List.forall_mem_cons.mpr ⟨⟨by decide, k1000⟩, List.forall_mem_cons.mpr ⟨⟨by decide, k1002⟩, fun q_ hq => absurd hq List.not_mem_nil⟩⟩)
  have Ho : ymem (xwyW1A_r v4_ v6 v7 v8) (yg (xwyW1A_s a1000 a1002)) xwyW1A_O h_ := fun q_ hq => absurd hq List.not_mem_nil
  have HC : ∀ q_ ∈ xwyW1A_C, xhold (xwyW1A_r v4_ v6 v7 v8) q_ := fun q_ hq => absurd hq List.not_mem_nil
  rcases yrun (yis_ok xwyW1A_k) hA Hs Ho HC with ⟨q_, hq, h', K_, G_⟩ | ⟨q_, hq, h', K_, G_⟩
  · have e_ := List.mem_singleton.mp hq
    subst e_
    exact ⟨h', yfr_sm K_.2.2.2 hs K_.1 (ywa_s xwyW1A_w List.mem_cons_self), ⟨fun a_ j_ => yfr_bp K_.2.2.2 (fun q_ hq => absurd hq List.not_mem_nil), G_⟩⟩
  · cases hq
-- xwyX1A: 7 steps, 0 ends, 1 returns
def xwyX1A_L : List (Nat × Nat × Nat) := [(1000, 6, 2), (1002, 6, 2)]
def xwyX1A_O : yO := [(0, .int 0, .index 1), (1, .int 10, .arg 300)]
def xwyX1A_A : yA := (yZ xwyX1A_L, [], [], [], [])
def xwyX1A_C : List xB := [(.lt, .arg 6, .arg 300, false)]
def xwyX1A_ss : List yS := []
def xwyX1A_rs : List yR := [(some (.arg 4), [(0, .int 0, .index 1), (1, .int 10, .arg 300)], [(.lt, .arg 6, .arg 300, false)], [])]
theorem xwyX1A_w : ywa xwyX1A_A xwyX1A_ss xwyX1A_rs = true := by decide +kernel
theorem xwyX1A_k : yis (yev xwyX1A_A 3000 60 129 [] (44, [(6, .arg 6), (5, .index 332), (4, .arg 4), (0, .index 0), (1, .index 1000), (2, .index 1002), (3, .int 1)], [], xwyX1A_O, xwyX1A_C, [])) xwyX1A_ss xwyX1A_rs = true := by decide +kernel
def xwyX1A_r (v4_ v6 v300 : Int32) (k_ : Nat) : Value := bif Nat.beq k_ 4 then .int v4_ else (bif Nat.beq k_ 6 then .int v6 else (bif Nat.beq k_ 300 then .int v300 else (.int 0)))
def xwyX1A_s (a1000 a1002 : Nat) (n_ : Nat) : Nat := bif Nat.beq n_ 1000 then a1000 else (bif Nat.beq n_ 1002 then a1002 else (0))
theorem xwyX1A {h_ : xH} {a1000 a1002 : Nat} {v4_ v6 v300 : Int32} (hs : sHp h_) (k1000 : bcq h_ a1000 6 2) (k1002 : bcq h_ a1002 6 2) (o0_ : bpat h_ 1 10 = some (.int v300)) (c0_ : v300.toInt ≤ v6.toInt) : ∃ h', ysm h_ h' ∧ (((∀ a_ j_ : Nat, bpat h' a_ j_ = bpat h_ a_ j_) ∧ (∀ D_, 60 ≤ D_ → xrun D_ 129 44 [(6, .int v6), (5, .index 332), (4, .int v4_), (0, .index 0), (1, .index a1000), (2, .index a1002), (3, .int (1 : Int32))] [] h_ (some (.int v4_), h', [])))) := by
  have hA : yas xwyX1A_A (xwyX1A_r v4_ v6 v300) (yg (xwyX1A_s a1000 a1002)) := ⟨fun q_ hq => absurd hq List.not_mem_nil, fun q_ hq => absurd hq List.not_mem_nil, fun q_ hq => absurd hq List.not_mem_nil, fun n_ hn => yg_lo hn, fun q_ hq => absurd hq List.not_mem_nil⟩
  have Hs : ysh xwyX1A_A.1 (yg (xwyX1A_s a1000 a1002)) h_ := ysh_of2 hs (List.forall_mem_cons.mpr ⟨⟨by decide, k1000⟩, List.forall_mem_cons.mpr ⟨⟨by decide, k1002⟩, fun q_ hq => absurd hq List.not_mem_nil⟩⟩)
  have Ho : ymem (xwyX1A_r v4_ v6 v300) (yg (xwyX1A_s a1000 a1002)) xwyX1A_O h_ := List.forall_mem_cons.mpr ⟨bpat_some (fxr_at hs.2 (show fxk fxl 0 0 = some 1 by decide +kernel)), List.forall_mem_cons.mpr ⟨bpat_some o0_, fun q_ hq => absurd hq List.not_mem_nil⟩⟩
  have HC : ∀ q_ ∈ xwyX1A_C, xhold (xwyX1A_r v4_ v6 v300) q_ := List.forall_mem_cons.mpr ⟨xh_ltF c0_, fun q_ hq => absurd hq List.not_mem_nil⟩
  rcases yrun (yis_ok xwyX1A_k) hA Hs Ho HC with ⟨q_, hq, h', K_, G_⟩ | ⟨q_, hq, h', K_, G_⟩
  · cases hq
  · have e_ := List.mem_singleton.mp hq
    subst e_
    exact ⟨h', yfr_sm K_.2.2.2 hs K_.1 (ywa_r xwyX1A_w List.mem_cons_self), ⟨fun a_ j_ => yfr_bp K_.2.2.2 (fun q_ hq => absurd hq List.not_mem_nil), G_⟩⟩
-- xwyT1B: 7 steps, 1 ends, 0 returns
def xwyT1B_L : List (Nat × Nat × Nat) := [(1000, 6, 2), (1002, 6, 2)]
def xwyT1B_O : yO := [(0, .int 0, .index 1), (1, .int 10, .arg 300)]
def xwyT1B_A : yA := (yZ xwyT1B_L, [], [], [], [])
def xwyT1B_C : List xB := [(.lt, .arg 6, .arg 300, true)]
def xwyT1B_ss : List yS := [(59, [(6, .arg 6), (4, .arg 4), (5, .index 332), (0, .index 0), (1, .index 1000), (2, .index 1002), (3, .int 1)], [.index 1000, .index 332], [(0, .int 0, .index 1), (1, .int 10, .arg 300)], [(.lt, .arg 6, .arg 300, true)], [])]
def xwyT1B_rs : List yR := []
theorem xwyT1B_w : ywa xwyT1B_A xwyT1B_ss xwyT1B_rs = true := by decide +kernel
theorem xwyT1B_k : yis (yev xwyT1B_A 3000 60 129 [59] (44, [(6, .arg 6), (4, .arg 4), (5, .index 332), (0, .index 0), (1, .index 1000), (2, .index 1002), (3, .int 1)], [], xwyT1B_O, xwyT1B_C, [])) xwyT1B_ss xwyT1B_rs = true := by decide +kernel
def xwyT1B_r (v4_ v6 v300 : Int32) (k_ : Nat) : Value := bif Nat.beq k_ 4 then .int v4_ else (bif Nat.beq k_ 6 then .int v6 else (bif Nat.beq k_ 300 then .int v300 else (.int 0)))
def xwyT1B_s (a1000 a1002 : Nat) (n_ : Nat) : Nat := bif Nat.beq n_ 1000 then a1000 else (bif Nat.beq n_ 1002 then a1002 else (0))
theorem xwyT1B {h_ : xH} {a1000 a1002 : Nat} {v4_ v6 v300 : Int32} (hs : sHp h_) (k1000 : bcq h_ a1000 6 2) (k1002 : bcq h_ a1002 6 2) (o0_ : bpat h_ 1 10 = some (.int v300)) (c0_ : v6.toInt < v300.toInt) : ∃ h', ysm h_ h' ∧ (((∀ a_ j_ : Nat, bpat h' a_ j_ = bpat h_ a_ j_) ∧ (bldD 60 129 44 [(6, .int v6), (4, .int v4_), (5, .index 332), (0, .index 0), (1, .index a1000), (2, .index a1002), (3, .int (1 : Int32))] [] h_ 59 [(6, .int v6), (4, .int v4_), (5, .index 332), (0, .index 0), (1, .index a1000), (2, .index a1002), (3, .int (1 : Int32))] [.index a1000, .index 332] h'))) := by
  have hA : yas xwyT1B_A (xwyT1B_r v4_ v6 v300) (yg (xwyT1B_s a1000 a1002)) := ⟨fun q_ hq => absurd hq List.not_mem_nil, fun q_ hq => absurd hq List.not_mem_nil, fun q_ hq => absurd hq List.not_mem_nil, fun n_ hn => yg_lo hn, fun q_ hq => absurd hq List.not_mem_nil⟩
  have Hs : ysh xwyT1B_A.1 (yg (xwyT1B_s a1000 a1002)) h_ := ysh_of2 hs (List.forall_mem_cons.mpr ⟨⟨by decide, k1000⟩, List.forall_mem_cons.mpr ⟨⟨by decide, k1002⟩, fun q_ hq => absurd hq List.not_mem_nil⟩⟩)
  have Ho : ymem (xwyT1B_r v4_ v6 v300) (yg (xwyT1B_s a1000 a1002)) xwyT1B_O h_ := List.forall_mem_cons.mpr ⟨bpat_some (fxr_at hs.2 (show fxk fxl 0 0 = some 1 by decide +kernel)), List.forall_mem_cons.mpr ⟨bpat_some o0_, fun q_ hq => absurd hq List.not_mem_nil⟩⟩
  have HC : ∀ q_ ∈ xwyT1B_C, xhold (xwyT1B_r v4_ v6 v300) q_ := List.forall_mem_cons.mpr ⟨xh_ltT c0_, fun q_ hq => absurd hq List.not_mem_nil⟩
  rcases yrun (yis_ok xwyT1B_k) hA Hs Ho HC with ⟨q_, hq, h', K_, G_⟩ | ⟨q_, hq, h', K_, G_⟩
  · have e_ := List.mem_singleton.mp hq
    subst e_
    exact ⟨h', yfr_sm K_.2.2.2 hs K_.1 (ywa_s xwyT1B_w List.mem_cons_self), ⟨fun a_ j_ => yfr_bp K_.2.2.2 (fun q_ hq => absurd hq List.not_mem_nil), G_⟩⟩
  · cases hq
-- xwyU1B: 8 steps, 1 ends, 0 returns
def xwyU1B_L : List (Nat × Nat × Nat) := [(1000, 6, 2), (1002, 6, 2), (1004, 5, 3)]
def xwyU1B_O : yO := [(0, .int 0, .index 1), (1, .int 1, .index 3), (3, .arg 6, .index 1004)]
def xwyU1B_A : yA := (yZ xwyU1B_L, [(.arg 6, 8)], [], [], [])
def xwyU1B_C : List xB := []
def xwyU1B_ss : List yS := [(78, [(6, .arg 6), (4, .arg 4), (5, .index 332), (0, .index 0), (1, .index 1000), (2, .index 1002), (3, .int 1)], [.index 332, .index 1004, .index 1], [(0, .int 0, .index 1), (1, .int 1, .index 3), (3, .arg 6, .index 1004)], [], [])]
def xwyU1B_rs : List yR := []
theorem xwyU1B_w : ywa xwyU1B_A xwyU1B_ss xwyU1B_rs = true := by decide +kernel
theorem xwyU1B_k : yis (yev xwyU1B_A 3000 60 129 [78] (62, [(6, .arg 6), (4, .arg 4), (5, .index 332), (0, .index 0), (1, .index 1000), (2, .index 1002), (3, .int 1)], [], xwyU1B_O, xwyU1B_C, [])) xwyU1B_ss xwyU1B_rs = true := by decide +kernel
def xwyU1B_r (v4_ v6 : Int32) (k_ : Nat) : Value := bif Nat.beq k_ 4 then .int v4_ else (bif Nat.beq k_ 6 then .int v6 else (.int 0))
def xwyU1B_s (a1000 a1002 a1004 : Nat) (n_ : Nat) : Nat := bif Nat.beq n_ 1000 then a1000 else (bif Nat.beq n_ 1002 then a1002 else (bif Nat.beq n_ 1004 then a1004 else (0)))
theorem xwyU1B {h_ : xH} {a1000 a1002 a1004 : Nat} {v4_ v6 : Int32} (hs : sHp h_) (k1000 : bcq h_ a1000 6 2) (k1002 : bcq h_ a1002 6 2) (k1004 : bcq h_ a1004 5 3) (o0_ : bpat h_ 3 (v6).toInt.toNat = some (.index a1004)) (b0 : 0 ≤ (v6).toInt ∧ (v6).toInt < 8) : ∃ h', ysm h_ h' ∧ (((∀ a_ j_ : Nat, bpat h' a_ j_ = bpat h_ a_ j_) ∧ (bldD 60 129 62 [(6, .int v6), (4, .int v4_), (5, .index 332), (0, .index 0), (1, .index a1000), (2, .index a1002), (3, .int (1 : Int32))] [] h_ 78 [(6, .int v6), (4, .int v4_), (5, .index 332), (0, .index 0), (1, .index a1000), (2, .index a1002), (3, .int (1 : Int32))] [.index 332, .index a1004, .index 1] h'))) := by
  have hA : yas xwyU1B_A (xwyU1B_r v4_ v6) (yg (xwyU1B_s a1000 a1002 a1004)) := ⟨List.forall_mem_cons.mpr ⟨b0, fun q_ hq => absurd hq List.not_mem_nil⟩, fun q_ hq => absurd hq List.not_mem_nil, fun q_ hq => absurd hq List.not_mem_nil, fun n_ hn => yg_lo hn, fun q_ hq => absurd hq List.not_mem_nil⟩
  have Hs : ysh xwyU1B_A.1 (yg (xwyU1B_s a1000 a1002 a1004)) h_ := ysh_of2 hs (List.forall_mem_cons.mpr ⟨⟨by decide, k1000⟩, List.forall_mem_cons.mpr ⟨⟨by decide, k1002⟩, List.forall_mem_cons.mpr ⟨⟨by decide, k1004⟩, fun q_ hq => absurd hq List.not_mem_nil⟩⟩⟩)
  have Ho : ymem (xwyU1B_r v4_ v6) (yg (xwyU1B_s a1000 a1002 a1004)) xwyU1B_O h_ := List.forall_mem_cons.mpr ⟨bpat_some (fxr_at hs.2 (show fxk fxl 0 0 = some 1 by decide +kernel)), List.forall_mem_cons.mpr ⟨bpat_some (fxr_at hs.2 (show fxk fxl 1 1 = some 3 by decide +kernel)), List.forall_mem_cons.mpr ⟨bpat_some o0_, fun q_ hq => absurd hq List.not_mem_nil⟩⟩⟩
  have HC : ∀ q_ ∈ xwyU1B_C, xhold (xwyU1B_r v4_ v6) q_ := fun q_ hq => absurd hq List.not_mem_nil
  rcases yrun (yis_ok xwyU1B_k) hA Hs Ho HC with ⟨q_, hq, h', K_, G_⟩ | ⟨q_, hq, h', K_, G_⟩
  · have e_ := List.mem_singleton.mp hq
    subst e_
    exact ⟨h', yfr_sm K_.2.2.2 hs K_.1 (ywa_s xwyU1B_w List.mem_cons_self), ⟨fun a_ j_ => yfr_bp K_.2.2.2 (fun q_ hq => absurd hq List.not_mem_nil), G_⟩⟩
  · cases hq
-- xwyV1B: 7 steps, 1 ends, 0 returns
def xwyV1B_L : List (Nat × Nat × Nat) := [(1000, 6, 2), (1002, 6, 2)]
def xwyV1B_O : yO := []
def xwyV1B_A : yA := (yZ xwyV1B_L, [], [], [], [])
def xwyV1B_C : List xB := []
def xwyV1B_ss : List yS := [(90, [(6, .arg 6), (4, .arg 4), (5, .index 332), (0, .index 0), (1, .index 1000), (2, .index 1002), (3, .int 1)], [.int 0, .index 1002, .index 332, .index 0, .arg 4], [], [], [])]
def xwyV1B_rs : List yR := []
theorem xwyV1B_w : ywa xwyV1B_A xwyV1B_ss xwyV1B_rs = true := by decide +kernel
theorem xwyV1B_k : yis (yev xwyV1B_A 3000 60 129 [90] (81, [(6, .arg 6), (4, .arg 4), (5, .index 332), (0, .index 0), (1, .index 1000), (2, .index 1002), (3, .int 1)], [], xwyV1B_O, xwyV1B_C, [])) xwyV1B_ss xwyV1B_rs = true := by decide +kernel
def xwyV1B_r (v4_ v6 : Int32) (k_ : Nat) : Value := bif Nat.beq k_ 4 then .int v4_ else (bif Nat.beq k_ 6 then .int v6 else (.int 0))
def xwyV1B_s (a1000 a1002 : Nat) (n_ : Nat) : Nat := bif Nat.beq n_ 1000 then a1000 else (bif Nat.beq n_ 1002 then a1002 else (0))
theorem xwyV1B {h_ : xH} {a1000 a1002 : Nat} {v4_ v6 : Int32} (hs : sHp h_) (k1000 : bcq h_ a1000 6 2) (k1002 : bcq h_ a1002 6 2) : ∃ h', ysm h_ h' ∧ (((∀ a_ j_ : Nat, bpat h' a_ j_ = bpat h_ a_ j_) ∧ (bldD 60 129 81 [(6, .int v6), (4, .int v4_), (5, .index 332), (0, .index 0), (1, .index a1000), (2, .index a1002), (3, .int (1 : Int32))] [] h_ 90 [(6, .int v6), (4, .int v4_), (5, .index 332), (0, .index 0), (1, .index a1000), (2, .index a1002), (3, .int (1 : Int32))] [.int (0 : Int32), .index a1002, .index 332, .index 0, .int v4_] h'))) := by
  have hA : yas xwyV1B_A (xwyV1B_r v4_ v6) (yg (xwyV1B_s a1000 a1002)) := ⟨fun q_ hq => absurd hq List.not_mem_nil, fun q_ hq => absurd hq List.not_mem_nil, fun q_ hq => absurd hq List.not_mem_nil, fun n_ hn => yg_lo hn, fun q_ hq => absurd hq List.not_mem_nil⟩
  have Hs : ysh xwyV1B_A.1 (yg (xwyV1B_s a1000 a1002)) h_ := ysh_of2 hs (List.forall_mem_cons.mpr ⟨⟨by decide, k1000⟩, List.forall_mem_cons.mpr ⟨⟨by decide, k1002⟩, fun q_ hq => absurd hq List.not_mem_nil⟩⟩)
  have Ho : ymem (xwyV1B_r v4_ v6) (yg (xwyV1B_s a1000 a1002)) xwyV1B_O h_ := fun q_ hq => absurd hq List.not_mem_nil
  have HC : ∀ q_ ∈ xwyV1B_C, xhold (xwyV1B_r v4_ v6) q_ := fun q_ hq => absurd hq List.not_mem_nil
  rcases yrun (yis_ok xwyV1B_k) hA Hs Ho HC with ⟨q_, hq, h', K_, G_⟩ | ⟨q_, hq, h', K_, G_⟩
  · have e_ := List.mem_singleton.mp hq
    subst e_
    exact ⟨h', yfr_sm K_.2.2.2 hs K_.1 (ywa_s xwyV1B_w List.mem_cons_self), ⟨fun a_ j_ => yfr_bp K_.2.2.2 (fun q_ hq => absurd hq List.not_mem_nil), G_⟩⟩
  · cases hq
-- xwyW1B: 4 steps, 1 ends, 0 returns
def xwyW1B_L : List (Nat × Nat × Nat) := [(1000, 6, 2), (1002, 6, 2)]
def xwyW1B_O : yO := []
def xwyW1B_A : yA := (yZ xwyW1B_L, [], [], [], [])
def xwyW1B_C : List xB := []
def xwyW1B_ss : List yS := [(44, [(6, .add (.arg 6) (.int 1)), (4, .add (.arg 8) (.arg 7)), (5, .index 332), (0, .index 0), (1, .index 1000), (2, .index 1002), (3, .int 1)], [], [], [], [])]
def xwyW1B_rs : List yR := []
theorem xwyW1B_w : ywa xwyW1B_A xwyW1B_ss xwyW1B_rs = true := by decide +kernel
theorem xwyW1B_k : yis (yev xwyW1B_A 3000 60 129 [44] (93, [(6, .arg 6), (4, .arg 4), (5, .index 332), (0, .index 0), (1, .index 1000), (2, .index 1002), (3, .int 1)], [.arg 7, .arg 8], xwyW1B_O, xwyW1B_C, [])) xwyW1B_ss xwyW1B_rs = true := by decide +kernel
def xwyW1B_r (v4_ v6 v7 v8 : Int32) (k_ : Nat) : Value := bif Nat.beq k_ 4 then .int v4_ else (bif Nat.beq k_ 6 then .int v6 else (bif Nat.beq k_ 7 then .int v7 else (bif Nat.beq k_ 8 then .int v8 else (.int 0))))
def xwyW1B_s (a1000 a1002 : Nat) (n_ : Nat) : Nat := bif Nat.beq n_ 1000 then a1000 else (bif Nat.beq n_ 1002 then a1002 else (0))
theorem xwyW1B {h_ : xH} {a1000 a1002 : Nat} {v4_ v6 v7 v8 : Int32} (hs : sHp h_) (k1000 : bcq h_ a1000 6 2) (k1002 : bcq h_ a1002 6 2) : ∃ h', ysm h_ h' ∧ (((∀ a_ j_ : Nat, bpat h' a_ j_ = bpat h_ a_ j_) ∧ (bldD 60 129 93 [(6, .int v6), (4, .int v4_), (5, .index 332), (0, .index 0), (1, .index a1000), (2, .index a1002), (3, .int (1 : Int32))] [.int v7, .int v8] h_ 44 [(6, .int (v6 + (1 : Int32))), (4, .int (v8 + v7)), (5, .index 332), (0, .index 0), (1, .index a1000), (2, .index a1002), (3, .int (1 : Int32))] [] h'))) := by
  have hA : yas xwyW1B_A (xwyW1B_r v4_ v6 v7 v8) (yg (xwyW1B_s a1000 a1002)) := ⟨fun q_ hq => absurd hq List.not_mem_nil, fun q_ hq => absurd hq List.not_mem_nil, fun q_ hq => absurd hq List.not_mem_nil, fun n_ hn => yg_lo hn, fun q_ hq => absurd hq List.not_mem_nil⟩
  have Hs : ysh xwyW1B_A.1 (yg (xwyW1B_s a1000 a1002)) h_ := ysh_of2 hs (List.forall_mem_cons.mpr ⟨⟨by decide, k1000⟩, List.forall_mem_cons.mpr ⟨⟨by decide, k1002⟩, fun q_ hq => absurd hq List.not_mem_nil⟩⟩)
  have Ho : ymem (xwyW1B_r v4_ v6 v7 v8) (yg (xwyW1B_s a1000 a1002)) xwyW1B_O h_ := fun q_ hq => absurd hq List.not_mem_nil
  have HC : ∀ q_ ∈ xwyW1B_C, xhold (xwyW1B_r v4_ v6 v7 v8) q_ := fun q_ hq => absurd hq List.not_mem_nil
  rcases yrun (yis_ok xwyW1B_k) hA Hs Ho HC with ⟨q_, hq, h', K_, G_⟩ | ⟨q_, hq, h', K_, G_⟩
  · have e_ := List.mem_singleton.mp hq
    subst e_
    exact ⟨h', yfr_sm K_.2.2.2 hs K_.1 (ywa_s xwyW1B_w List.mem_cons_self), ⟨fun a_ j_ => yfr_bp K_.2.2.2 (fun q_ hq => absurd hq List.not_mem_nil), G_⟩⟩
  · cases hq
-- xwyX1B: 7 steps, 0 ends, 1 returns
def xwyX1B_L : List (Nat × Nat × Nat) := [(1000, 6, 2), (1002, 6, 2)]
def xwyX1B_O : yO := [(0, .int 0, .index 1), (1, .int 10, .arg 300)]
def xwyX1B_A : yA := (yZ xwyX1B_L, [], [], [], [])
def xwyX1B_C : List xB := [(.lt, .arg 6, .arg 300, false)]
def xwyX1B_ss : List yS := []
def xwyX1B_rs : List yR := [(some (.arg 4), [(0, .int 0, .index 1), (1, .int 10, .arg 300)], [(.lt, .arg 6, .arg 300, false)], [])]
theorem xwyX1B_w : ywa xwyX1B_A xwyX1B_ss xwyX1B_rs = true := by decide +kernel
theorem xwyX1B_k : yis (yev xwyX1B_A 3000 60 129 [] (44, [(6, .arg 6), (4, .arg 4), (5, .index 332), (0, .index 0), (1, .index 1000), (2, .index 1002), (3, .int 1)], [], xwyX1B_O, xwyX1B_C, [])) xwyX1B_ss xwyX1B_rs = true := by decide +kernel
def xwyX1B_r (v4_ v6 v300 : Int32) (k_ : Nat) : Value := bif Nat.beq k_ 4 then .int v4_ else (bif Nat.beq k_ 6 then .int v6 else (bif Nat.beq k_ 300 then .int v300 else (.int 0)))
def xwyX1B_s (a1000 a1002 : Nat) (n_ : Nat) : Nat := bif Nat.beq n_ 1000 then a1000 else (bif Nat.beq n_ 1002 then a1002 else (0))
theorem xwyX1B {h_ : xH} {a1000 a1002 : Nat} {v4_ v6 v300 : Int32} (hs : sHp h_) (k1000 : bcq h_ a1000 6 2) (k1002 : bcq h_ a1002 6 2) (o0_ : bpat h_ 1 10 = some (.int v300)) (c0_ : v300.toInt ≤ v6.toInt) : ∃ h', ysm h_ h' ∧ (((∀ a_ j_ : Nat, bpat h' a_ j_ = bpat h_ a_ j_) ∧ (∀ D_, 60 ≤ D_ → xrun D_ 129 44 [(6, .int v6), (4, .int v4_), (5, .index 332), (0, .index 0), (1, .index a1000), (2, .index a1002), (3, .int (1 : Int32))] [] h_ (some (.int v4_), h', [])))) := by
  have hA : yas xwyX1B_A (xwyX1B_r v4_ v6 v300) (yg (xwyX1B_s a1000 a1002)) := ⟨fun q_ hq => absurd hq List.not_mem_nil, fun q_ hq => absurd hq List.not_mem_nil, fun q_ hq => absurd hq List.not_mem_nil, fun n_ hn => yg_lo hn, fun q_ hq => absurd hq List.not_mem_nil⟩
  have Hs : ysh xwyX1B_A.1 (yg (xwyX1B_s a1000 a1002)) h_ := ysh_of2 hs (List.forall_mem_cons.mpr ⟨⟨by decide, k1000⟩, List.forall_mem_cons.mpr ⟨⟨by decide, k1002⟩, fun q_ hq => absurd hq List.not_mem_nil⟩⟩)
  have Ho : ymem (xwyX1B_r v4_ v6 v300) (yg (xwyX1B_s a1000 a1002)) xwyX1B_O h_ := List.forall_mem_cons.mpr ⟨bpat_some (fxr_at hs.2 (show fxk fxl 0 0 = some 1 by decide +kernel)), List.forall_mem_cons.mpr ⟨bpat_some o0_, fun q_ hq => absurd hq List.not_mem_nil⟩⟩
  have HC : ∀ q_ ∈ xwyX1B_C, xhold (xwyX1B_r v4_ v6 v300) q_ := List.forall_mem_cons.mpr ⟨xh_ltF c0_, fun q_ hq => absurd hq List.not_mem_nil⟩
  rcases yrun (yis_ok xwyX1B_k) hA Hs Ho HC with ⟨q_, hq, h', K_, G_⟩ | ⟨q_, hq, h', K_, G_⟩
  · cases hq
  · have e_ := List.mem_singleton.mp hq
    subst e_
    exact ⟨h', yfr_sm K_.2.2.2 hs K_.1 (ywa_r xwyX1B_w List.mem_cons_self), ⟨fun a_ j_ => yfr_bp K_.2.2.2 (fun q_ hq => absurd hq List.not_mem_nil), G_⟩⟩
-- xwyT2A: 7 steps, 1 ends, 0 returns
def xwyT2A_L : List (Nat × Nat × Nat) := [(1000, 6, 2), (1002, 6, 2)]
def xwyT2A_O : yO := [(0, .int 0, .index 1), (1, .int 10, .arg 300)]
def xwyT2A_A : yA := (yZ xwyT2A_L, [], [], [], [])
def xwyT2A_C : List xB := [(.lt, .arg 6, .arg 300, true)]
def xwyT2A_ss : List yS := [(59, [(6, .arg 6), (5, .index 334), (4, .arg 4), (0, .index 0), (1, .index 1000), (2, .index 1002), (3, .int 2)], [.index 1000, .index 334], [(0, .int 0, .index 1), (1, .int 10, .arg 300)], [(.lt, .arg 6, .arg 300, true)], [])]
def xwyT2A_rs : List yR := []
theorem xwyT2A_w : ywa xwyT2A_A xwyT2A_ss xwyT2A_rs = true := by decide +kernel
theorem xwyT2A_k : yis (yev xwyT2A_A 3000 60 129 [59] (44, [(6, .arg 6), (5, .index 334), (4, .arg 4), (0, .index 0), (1, .index 1000), (2, .index 1002), (3, .int 2)], [], xwyT2A_O, xwyT2A_C, [])) xwyT2A_ss xwyT2A_rs = true := by decide +kernel
def xwyT2A_r (v4_ v6 v300 : Int32) (k_ : Nat) : Value := bif Nat.beq k_ 4 then .int v4_ else (bif Nat.beq k_ 6 then .int v6 else (bif Nat.beq k_ 300 then .int v300 else (.int 0)))
def xwyT2A_s (a1000 a1002 : Nat) (n_ : Nat) : Nat := bif Nat.beq n_ 1000 then a1000 else (bif Nat.beq n_ 1002 then a1002 else (0))
theorem xwyT2A {h_ : xH} {a1000 a1002 : Nat} {v4_ v6 v300 : Int32} (hs : sHp h_) (k1000 : bcq h_ a1000 6 2) (k1002 : bcq h_ a1002 6 2) (o0_ : bpat h_ 1 10 = some (.int v300)) (c0_ : v6.toInt < v300.toInt) : ∃ h', ysm h_ h' ∧ (((∀ a_ j_ : Nat, bpat h' a_ j_ = bpat h_ a_ j_) ∧ (bldD 60 129 44 [(6, .int v6), (5, .index 334), (4, .int v4_), (0, .index 0), (1, .index a1000), (2, .index a1002), (3, .int (2 : Int32))] [] h_ 59 [(6, .int v6), (5, .index 334), (4, .int v4_), (0, .index 0), (1, .index a1000), (2, .index a1002), (3, .int (2 : Int32))] [.index a1000, .index 334] h'))) := by
  have hA : yas xwyT2A_A (xwyT2A_r v4_ v6 v300) (yg (xwyT2A_s a1000 a1002)) := ⟨fun q_ hq => absurd hq List.not_mem_nil, fun q_ hq => absurd hq List.not_mem_nil, fun q_ hq => absurd hq List.not_mem_nil, fun n_ hn => yg_lo hn, fun q_ hq => absurd hq List.not_mem_nil⟩
  have Hs : ysh xwyT2A_A.1 (yg (xwyT2A_s a1000 a1002)) h_ := ysh_of2 hs (List.forall_mem_cons.mpr ⟨⟨by decide, k1000⟩, List.forall_mem_cons.mpr ⟨⟨by decide, k1002⟩, fun q_ hq => absurd hq List.not_mem_nil⟩⟩)
  have Ho : ymem (xwyT2A_r v4_ v6 v300) (yg (xwyT2A_s a1000 a1002)) xwyT2A_O h_ := List.forall_mem_cons.mpr ⟨bpat_some (fxr_at hs.2 (show fxk fxl 0 0 = some 1 by decide +kernel)), List.forall_mem_cons.mpr ⟨bpat_some o0_, fun q_ hq => absurd hq List.not_mem_nil⟩⟩
  have HC : ∀ q_ ∈ xwyT2A_C, xhold (xwyT2A_r v4_ v6 v300) q_ := List.forall_mem_cons.mpr ⟨xh_ltT c0_, fun q_ hq => absurd hq List.not_mem_nil⟩
  rcases yrun (yis_ok xwyT2A_k) hA Hs Ho HC with ⟨q_, hq, h', K_, G_⟩ | ⟨q_, hq, h', K_, G_⟩
  · have e_ := List.mem_singleton.mp hq
    subst e_
    exact ⟨h', yfr_sm K_.2.2.2 hs K_.1 (ywa_s xwyT2A_w List.mem_cons_self), ⟨fun a_ j_ => yfr_bp K_.2.2.2 (fun q_ hq => absurd hq List.not_mem_nil), G_⟩⟩
  · cases hq
-- xwyU2A: 8 steps, 1 ends, 0 returns
def xwyU2A_L : List (Nat × Nat × Nat) := [(1000, 6, 2), (1002, 6, 2), (1004, 5, 3)]
def xwyU2A_O : yO := [(0, .int 0, .index 1), (1, .int 1, .index 3), (3, .arg 6, .index 1004)]
def xwyU2A_A : yA := (yZ xwyU2A_L, [(.arg 6, 8)], [], [], [])
def xwyU2A_C : List xB := []
def xwyU2A_ss : List yS := [(78, [(6, .arg 6), (5, .index 334), (4, .arg 4), (0, .index 0), (1, .index 1000), (2, .index 1002), (3, .int 2)], [.index 334, .index 1004, .index 1], [(0, .int 0, .index 1), (1, .int 1, .index 3), (3, .arg 6, .index 1004)], [], [])]
def xwyU2A_rs : List yR := []
theorem xwyU2A_w : ywa xwyU2A_A xwyU2A_ss xwyU2A_rs = true := by decide +kernel
theorem xwyU2A_k : yis (yev xwyU2A_A 3000 60 129 [78] (62, [(6, .arg 6), (5, .index 334), (4, .arg 4), (0, .index 0), (1, .index 1000), (2, .index 1002), (3, .int 2)], [], xwyU2A_O, xwyU2A_C, [])) xwyU2A_ss xwyU2A_rs = true := by decide +kernel
def xwyU2A_r (v4_ v6 : Int32) (k_ : Nat) : Value := bif Nat.beq k_ 4 then .int v4_ else (bif Nat.beq k_ 6 then .int v6 else (.int 0))
def xwyU2A_s (a1000 a1002 a1004 : Nat) (n_ : Nat) : Nat := bif Nat.beq n_ 1000 then a1000 else (bif Nat.beq n_ 1002 then a1002 else (bif Nat.beq n_ 1004 then a1004 else (0)))
theorem xwyU2A {h_ : xH} {a1000 a1002 a1004 : Nat} {v4_ v6 : Int32} (hs : sHp h_) (k1000 : bcq h_ a1000 6 2) (k1002 : bcq h_ a1002 6 2) (k1004 : bcq h_ a1004 5 3) (o0_ : bpat h_ 3 (v6).toInt.toNat = some (.index a1004)) (b0 : 0 ≤ (v6).toInt ∧ (v6).toInt < 8) : ∃ h', ysm h_ h' ∧ (((∀ a_ j_ : Nat, bpat h' a_ j_ = bpat h_ a_ j_) ∧ (bldD 60 129 62 [(6, .int v6), (5, .index 334), (4, .int v4_), (0, .index 0), (1, .index a1000), (2, .index a1002), (3, .int (2 : Int32))] [] h_ 78 [(6, .int v6), (5, .index 334), (4, .int v4_), (0, .index 0), (1, .index a1000), (2, .index a1002), (3, .int (2 : Int32))] [.index 334, .index a1004, .index 1] h'))) := by
  have hA : yas xwyU2A_A (xwyU2A_r v4_ v6) (yg (xwyU2A_s a1000 a1002 a1004)) := ⟨List.forall_mem_cons.mpr ⟨b0, fun q_ hq => absurd hq List.not_mem_nil⟩, fun q_ hq => absurd hq List.not_mem_nil, fun q_ hq => absurd hq List.not_mem_nil, fun n_ hn => yg_lo hn, fun q_ hq => absurd hq List.not_mem_nil⟩
  have Hs : ysh xwyU2A_A.1 (yg (xwyU2A_s a1000 a1002 a1004)) h_ := ysh_of2 hs (List.forall_mem_cons.mpr ⟨⟨by decide, k1000⟩, List.forall_mem_cons.mpr ⟨⟨by decide, k1002⟩, List.forall_mem_cons.mpr ⟨⟨by decide, k1004⟩, fun q_ hq => absurd hq List.not_mem_nil⟩⟩⟩)
  have Ho : ymem (xwyU2A_r v4_ v6) (yg (xwyU2A_s a1000 a1002 a1004)) xwyU2A_O h_ := List.forall_mem_cons.mpr ⟨bpat_some (fxr_at hs.2 (show fxk fxl 0 0 = some 1 by decide +kernel)), List.forall_mem_cons.mpr ⟨bpat_some (fxr_at hs.2 (show fxk fxl 1 1 = some 3 by decide +kernel)), List.forall_mem_cons.mpr ⟨bpat_some o0_, fun q_ hq => absurd hq List.not_mem_nil⟩⟩⟩
  have HC : ∀ q_ ∈ xwyU2A_C, xhold (xwyU2A_r v4_ v6) q_ := fun q_ hq => absurd hq List.not_mem_nil
  rcases yrun (yis_ok xwyU2A_k) hA Hs Ho HC with ⟨q_, hq, h', K_, G_⟩ | ⟨q_, hq, h', K_, G_⟩
  · have e_ := List.mem_singleton.mp hq
    subst e_
    exact ⟨h', yfr_sm K_.2.2.2 hs K_.1 (ywa_s xwyU2A_w List.mem_cons_self), ⟨fun a_ j_ => yfr_bp K_.2.2.2 (fun q_ hq => absurd hq List.not_mem_nil), G_⟩⟩
  · cases hq
-- xwyV2A: 7 steps, 1 ends, 0 returns
def xwyV2A_L : List (Nat × Nat × Nat) := [(1000, 6, 2), (1002, 6, 2)]
def xwyV2A_O : yO := []
def xwyV2A_A : yA := (yZ xwyV2A_L, [], [], [], [])
def xwyV2A_C : List xB := []
def xwyV2A_ss : List yS := [(90, [(6, .arg 6), (5, .index 334), (4, .arg 4), (0, .index 0), (1, .index 1000), (2, .index 1002), (3, .int 2)], [.int 1, .index 1002, .index 334, .index 0, .arg 4], [], [], [])]
def xwyV2A_rs : List yR := []
theorem xwyV2A_w : ywa xwyV2A_A xwyV2A_ss xwyV2A_rs = true := by decide +kernel
theorem xwyV2A_k : yis (yev xwyV2A_A 3000 60 129 [90] (81, [(6, .arg 6), (5, .index 334), (4, .arg 4), (0, .index 0), (1, .index 1000), (2, .index 1002), (3, .int 2)], [], xwyV2A_O, xwyV2A_C, [])) xwyV2A_ss xwyV2A_rs = true := by decide +kernel
def xwyV2A_r (v4_ v6 : Int32) (k_ : Nat) : Value := bif Nat.beq k_ 4 then .int v4_ else (bif Nat.beq k_ 6 then .int v6 else (.int 0))
def xwyV2A_s (a1000 a1002 : Nat) (n_ : Nat) : Nat := bif Nat.beq n_ 1000 then a1000 else (bif Nat.beq n_ 1002 then a1002 else (0))
theorem xwyV2A {h_ : xH} {a1000 a1002 : Nat} {v4_ v6 : Int32} (hs : sHp h_) (k1000 : bcq h_ a1000 6 2) (k1002 : bcq h_ a1002 6 2) : ∃ h', ysm h_ h' ∧ (((∀ a_ j_ : Nat, bpat h' a_ j_ = bpat h_ a_ j_) ∧ (bldD 60 129 81 [(6, .int v6), (5, .index 334), (4, .int v4_), (0, .index 0), (1, .index a1000), (2, .index a1002), (3, .int (2 : Int32))] [] h_ 90 [(6, .int v6), (5, .index 334), (4, .int v4_), (0, .index 0), (1, .index a1000), (2, .index a1002), (3, .int (2 : Int32))] [.int (1 : Int32), .index a1002, .index 334, .index 0, .int v4_] h'))) := by
  have hA : yas xwyV2A_A (xwyV2A_r v4_ v6) (yg (xwyV2A_s a1000 a1002)) := ⟨fun q_ hq => absurd hq List.not_mem_nil, fun q_ hq => absurd hq List.not_mem_nil, fun q_ hq => absurd hq List.not_mem_nil, fun n_ hn => yg_lo hn, fun q_ hq => absurd hq List.not_mem_nil⟩
  have Hs : ysh xwyV2A_A.1 (yg (xwyV2A_s a1000 a1002)) h_ := ysh_of2 hs (List.forall_mem_cons.mpr ⟨⟨by decide, k1000⟩, List.forall_mem_cons.mpr ⟨⟨by decide, k1002⟩, fun q_ hq => absurd hq List.not_mem_nil⟩⟩)
  have Ho : ymem (xwyV2A_r v4_ v6) (yg (xwyV2A_s a1000 a1002)) xwyV2A_O h_ := fun q_ hq => absurd hq List.not_mem_nil
  have HC : ∀ q_ ∈ xwyV2A_C, xhold (xwyV2A_r v4_ v6) q_ := fun q_ hq => absurd hq List.not_mem_nil
  rcases yrun (yis_ok xwyV2A_k) hA Hs Ho HC with ⟨q_, hq, h', K_, G_⟩ | ⟨q_, hq, h', K_, G_⟩
  · have e_ := List.mem_singleton.mp hq
    subst e_
    exact ⟨h', yfr_sm K_.2.2.2 hs K_.1 (ywa_s xwyV2A_w List.mem_cons_self), ⟨fun a_ j_ => yfr_bp K_.2.2.2 (fun q_ hq => absurd hq List.not_mem_nil), G_⟩⟩
  · cases hq
-- xwyW2A: 4 steps, 1 ends, 0 returns
def xwyW2A_L : List (Nat × Nat × Nat) := [(1000, 6, 2), (1002, 6, 2)]
def xwyW2A_O : yO := []
def xwyW2A_A : yA := (yZ xwyW2A_L, [], [], [], [])
def xwyW2A_C : List xB := []
def xwyW2A_ss : List yS := [(44, [(6, .add (.arg 6) (.int 1)), (4, .add (.arg 8) (.arg 7)), (5, .index 334), (0, .index 0), (1, .index 1000), (2, .index 1002), (3, .int 2)], [], [], [], [])]
def xwyW2A_rs : List yR := []
theorem xwyW2A_w : ywa xwyW2A_A xwyW2A_ss xwyW2A_rs = true := by decide +kernel
theorem xwyW2A_k : yis (yev xwyW2A_A 3000 60 129 [44] (93, [(6, .arg 6), (5, .index 334), (4, .arg 4), (0, .index 0), (1, .index 1000), (2, .index 1002), (3, .int 2)], [.arg 7, .arg 8], xwyW2A_O, xwyW2A_C, [])) xwyW2A_ss xwyW2A_rs = true := by decide +kernel
def xwyW2A_r (v4_ v6 v7 v8 : Int32) (k_ : Nat) : Value := bif Nat.beq k_ 4 then .int v4_ else (bif Nat.beq k_ 6 then .int v6 else (bif Nat.beq k_ 7 then .int v7 else (bif Nat.beq k_ 8 then .int v8 else (.int 0))))
def xwyW2A_s (a1000 a1002 : Nat) (n_ : Nat) : Nat := bif Nat.beq n_ 1000 then a1000 else (bif Nat.beq n_ 1002 then a1002 else (0))
theorem xwyW2A {h_ : xH} {a1000 a1002 : Nat} {v4_ v6 v7 v8 : Int32} (hs : sHp h_) (k1000 : bcq h_ a1000 6 2) (k1002 : bcq h_ a1002 6 2) : ∃ h', ysm h_ h' ∧ (((∀ a_ j_ : Nat, bpat h' a_ j_ = bpat h_ a_ j_) ∧ (bldD 60 129 93 [(6, .int v6), (5, .index 334), (4, .int v4_), (0, .index 0), (1, .index a1000), (2, .index a1002), (3, .int (2 : Int32))] [.int v7, .int v8] h_ 44 [(6, .int (v6 + (1 : Int32))), (4, .int (v8 + v7)), (5, .index 334), (0, .index 0), (1, .index a1000), (2, .index a1002), (3, .int (2 : Int32))] [] h'))) := by
  have hA : yas xwyW2A_A (xwyW2A_r v4_ v6 v7 v8) (yg (xwyW2A_s a1000 a1002)) := ⟨fun q_ hq => absurd hq List.not_mem_nil, fun q_ hq => absurd hq List.not_mem_nil, fun q_ hq => absurd hq List.not_mem_nil, fun n_ hn => yg_lo hn, fun q_ hq => absurd hq List.not_mem_nil⟩
  have Hs : ysh xwyW2A_A.1 (yg (xwyW2A_s a1000 a1002)) h_ := ysh_of2 hs (List.forall_mem_cons.mpr ⟨⟨by decide, k1000⟩, List.forall_mem_cons.mpr ⟨⟨by decide, k1002⟩, fun q_ hq => absurd hq List.not_mem_nil⟩⟩)
  have Ho : ymem (xwyW2A_r v4_ v6 v7 v8) (yg (xwyW2A_s a1000 a1002)) xwyW2A_O h_ := fun q_ hq => absurd hq List.not_mem_nil
  have HC : ∀ q_ ∈ xwyW2A_C, xhold (xwyW2A_r v4_ v6 v7 v8) q_ := fun q_ hq => absurd hq List.not_mem_nil
  rcases yrun (yis_ok xwyW2A_k) hA Hs Ho HC with ⟨q_, hq, h', K_, G_⟩ | ⟨q_, hq, h', K_, G_⟩
  · have e_ := List.mem_singleton.mp hq
    subst e_
    exact ⟨h', yfr_sm K_.2.2.2 hs K_.1 (ywa_s xwyW2A_w List.mem_cons_self), ⟨fun a_ j_ => yfr_bp K_.2.2.2 (fun q_ hq => absurd hq List.not_mem_nil), G_⟩⟩
  · cases hq
-- xwyX2A: 7 steps, 0 ends, 1 returns
def xwyX2A_L : List (Nat × Nat × Nat) := [(1000, 6, 2), (1002, 6, 2)]
def xwyX2A_O : yO := [(0, .int 0, .index 1), (1, .int 10, .arg 300)]
def xwyX2A_A : yA := (yZ xwyX2A_L, [], [], [], [])
def xwyX2A_C : List xB := [(.lt, .arg 6, .arg 300, false)]
def xwyX2A_ss : List yS := []
def xwyX2A_rs : List yR := [(some (.arg 4), [(0, .int 0, .index 1), (1, .int 10, .arg 300)], [(.lt, .arg 6, .arg 300, false)], [])]
theorem xwyX2A_w : ywa xwyX2A_A xwyX2A_ss xwyX2A_rs = true := by decide +kernel
theorem xwyX2A_k : yis (yev xwyX2A_A 3000 60 129 [] (44, [(6, .arg 6), (5, .index 334), (4, .arg 4), (0, .index 0), (1, .index 1000), (2, .index 1002), (3, .int 2)], [], xwyX2A_O, xwyX2A_C, [])) xwyX2A_ss xwyX2A_rs = true := by decide +kernel
def xwyX2A_r (v4_ v6 v300 : Int32) (k_ : Nat) : Value := bif Nat.beq k_ 4 then .int v4_ else (bif Nat.beq k_ 6 then .int v6 else (bif Nat.beq k_ 300 then .int v300 else (.int 0)))
def xwyX2A_s (a1000 a1002 : Nat) (n_ : Nat) : Nat := bif Nat.beq n_ 1000 then a1000 else (bif Nat.beq n_ 1002 then a1002 else (0))
theorem xwyX2A {h_ : xH} {a1000 a1002 : Nat} {v4_ v6 v300 : Int32} (hs : sHp h_) (k1000 : bcq h_ a1000 6 2) (k1002 : bcq h_ a1002 6 2) (o0_ : bpat h_ 1 10 = some (.int v300)) (c0_ : v300.toInt ≤ v6.toInt) : ∃ h', ysm h_ h' ∧ (((∀ a_ j_ : Nat, bpat h' a_ j_ = bpat h_ a_ j_) ∧ (∀ D_, 60 ≤ D_ → xrun D_ 129 44 [(6, .int v6), (5, .index 334), (4, .int v4_), (0, .index 0), (1, .index a1000), (2, .index a1002), (3, .int (2 : Int32))] [] h_ (some (.int v4_), h', [])))) := by
  have hA : yas xwyX2A_A (xwyX2A_r v4_ v6 v300) (yg (xwyX2A_s a1000 a1002)) := ⟨fun q_ hq => absurd hq List.not_mem_nil, fun q_ hq => absurd hq List.not_mem_nil, fun q_ hq => absurd hq List.not_mem_nil, fun n_ hn => yg_lo hn, fun q_ hq => absurd hq List.not_mem_nil⟩
  have Hs : ysh xwyX2A_A.1 (yg (xwyX2A_s a1000 a1002)) h_ := ysh_of2 hs (List.forall_mem_cons.mpr ⟨⟨by decide, k1000⟩, List.forall_mem_cons.mpr ⟨⟨by decide, k1002⟩, fun q_ hq => absurd hq List.not_mem_nil⟩⟩)
  have Ho : ymem (xwyX2A_r v4_ v6 v300) (yg (xwyX2A_s a1000 a1002)) xwyX2A_O h_ := List.forall_mem_cons.mpr ⟨bpat_some (fxr_at hs.2 (show fxk fxl 0 0 = some 1 by decide +kernel)), List.forall_mem_cons.mpr ⟨bpat_some o0_, fun q_ hq => absurd hq List.not_mem_nil⟩⟩
  have HC : ∀ q_ ∈ xwyX2A_C, xhold (xwyX2A_r v4_ v6 v300) q_ := List.forall_mem_cons.mpr ⟨xh_ltF c0_, fun q_ hq => absurd hq List.not_mem_nil⟩
  rcases yrun (yis_ok xwyX2A_k) hA Hs Ho HC with ⟨q_, hq, h', K_, G_⟩ | ⟨q_, hq, h', K_, G_⟩
  · cases hq
  · have e_ := List.mem_singleton.mp hq
    subst e_
    exact ⟨h', yfr_sm K_.2.2.2 hs K_.1 (ywa_r xwyX2A_w List.mem_cons_self), ⟨fun a_ j_ => yfr_bp K_.2.2.2 (fun q_ hq => absurd hq List.not_mem_nil), G_⟩⟩
-- xwyT2B: 7 steps, 1 ends, 0 returns
def xwyT2B_L : List (Nat × Nat × Nat) := [(1000, 6, 2), (1002, 6, 2)]
def xwyT2B_O : yO := [(0, .int 0, .index 1), (1, .int 10, .arg 300)]
def xwyT2B_A : yA := (yZ xwyT2B_L, [], [], [], [])
def xwyT2B_C : List xB := [(.lt, .arg 6, .arg 300, true)]
def xwyT2B_ss : List yS := [(59, [(6, .arg 6), (4, .arg 4), (5, .index 334), (0, .index 0), (1, .index 1000), (2, .index 1002), (3, .int 2)], [.index 1000, .index 334], [(0, .int 0, .index 1), (1, .int 10, .arg 300)], [(.lt, .arg 6, .arg 300, true)], [])]
def xwyT2B_rs : List yR := []
theorem xwyT2B_w : ywa xwyT2B_A xwyT2B_ss xwyT2B_rs = true := by decide +kernel
theorem xwyT2B_k : yis (yev xwyT2B_A 3000 60 129 [59] (44, [(6, .arg 6), (4, .arg 4), (5, .index 334), (0, .index 0), (1, .index 1000), (2, .index 1002), (3, .int 2)], [], xwyT2B_O, xwyT2B_C, [])) xwyT2B_ss xwyT2B_rs = true := by decide +kernel
def xwyT2B_r (v4_ v6 v300 : Int32) (k_ : Nat) : Value := bif Nat.beq k_ 4 then .int v4_ else (bif Nat.beq k_ 6 then .int v6 else (bif Nat.beq k_ 300 then .int v300 else (.int 0)))
def xwyT2B_s (a1000 a1002 : Nat) (n_ : Nat) : Nat := bif Nat.beq n_ 1000 then a1000 else (bif Nat.beq n_ 1002 then a1002 else (0))
theorem xwyT2B {h_ : xH} {a1000 a1002 : Nat} {v4_ v6 v300 : Int32} (hs : sHp h_) (k1000 : bcq h_ a1000 6 2) (k1002 : bcq h_ a1002 6 2) (o0_ : bpat h_ 1 10 = some (.int v300)) (c0_ : v6.toInt < v300.toInt) : ∃ h', ysm h_ h' ∧ (((∀ a_ j_ : Nat, bpat h' a_ j_ = bpat h_ a_ j_) ∧ (bldD 60 129 44 [(6, .int v6), (4, .int v4_), (5, .index 334), (0, .index 0), (1, .index a1000), (2, .index a1002), (3, .int (2 : Int32))] [] h_ 59 [(6, .int v6), (4, .int v4_), (5, .index 334), (0, .index 0), (1, .index a1000), (2, .index a1002), (3, .int (2 : Int32))] [.index a1000, .index 334] h'))) := by
  have hA : yas xwyT2B_A (xwyT2B_r v4_ v6 v300) (yg (xwyT2B_s a1000 a1002)) := ⟨fun q_ hq => absurd hq List.not_mem_nil, fun q_ hq => absurd hq List.not_mem_nil, fun q_ hq => absurd hq List.not_mem_nil, fun n_ hn => yg_lo hn, fun q_ hq => absurd hq List.not_mem_nil⟩
  have Hs : ysh xwyT2B_A.1 (yg (xwyT2B_s a1000 a1002)) h_ := ysh_of2 hs (List.forall_mem_cons.mpr ⟨⟨by decide, k1000⟩, List.forall_mem_cons.mpr ⟨⟨by decide, k1002⟩, fun q_ hq => absurd hq List.not_mem_nil⟩⟩)
  have Ho : ymem (xwyT2B_r v4_ v6 v300) (yg (xwyT2B_s a1000 a1002)) xwyT2B_O h_ := List.forall_mem_cons.mpr ⟨bpat_some (fxr_at hs.2 (show fxk fxl 0 0 = some 1 by decide +kernel)), List.forall_mem_cons.mpr ⟨bpat_some o0_, fun q_ hq => absurd hq List.not_mem_nil⟩⟩
  have HC : ∀ q_ ∈ xwyT2B_C, xhold (xwyT2B_r v4_ v6 v300) q_ := List.forall_mem_cons.mpr ⟨xh_ltT c0_, fun q_ hq => absurd hq List.not_mem_nil⟩
  rcases yrun (yis_ok xwyT2B_k) hA Hs Ho HC with ⟨q_, hq, h', K_, G_⟩ | ⟨q_, hq, h', K_, G_⟩
  · have e_ := List.mem_singleton.mp hq
    subst e_
    exact ⟨h', yfr_sm K_.2.2.2 hs K_.1 (ywa_s xwyT2B_w List.mem_cons_self), ⟨fun a_ j_ => yfr_bp K_.2.2.2 (fun q_ hq => absurd hq List.not_mem_nil), G_⟩⟩
  · cases hq
-- xwyU2B: 8 steps, 1 ends, 0 returns
def xwyU2B_L : List (Nat × Nat × Nat) := [(1000, 6, 2), (1002, 6, 2), (1004, 5, 3)]
def xwyU2B_O : yO := [(0, .int 0, .index 1), (1, .int 1, .index 3), (3, .arg 6, .index 1004)]
def xwyU2B_A : yA := (yZ xwyU2B_L, [(.arg 6, 8)], [], [], [])
def xwyU2B_C : List xB := []
def xwyU2B_ss : List yS := [(78, [(6, .arg 6), (4, .arg 4), (5, .index 334), (0, .index 0), (1, .index 1000), (2, .index 1002), (3, .int 2)], [.index 334, .index 1004, .index 1], [(0, .int 0, .index 1), (1, .int 1, .index 3), (3, .arg 6, .index 1004)], [], [])]
def xwyU2B_rs : List yR := []
theorem xwyU2B_w : ywa xwyU2B_A xwyU2B_ss xwyU2B_rs = true := by decide +kernel
theorem xwyU2B_k : yis (yev xwyU2B_A 3000 60 129 [78] (62, [(6, .arg 6), (4, .arg 4), (5, .index 334), (0, .index 0), (1, .index 1000), (2, .index 1002), (3, .int 2)], [], xwyU2B_O, xwyU2B_C, [])) xwyU2B_ss xwyU2B_rs = true := by decide +kernel
def xwyU2B_r (v4_ v6 : Int32) (k_ : Nat) : Value := bif Nat.beq k_ 4 then .int v4_ else (bif Nat.beq k_ 6 then .int v6 else (.int 0))
def xwyU2B_s (a1000 a1002 a1004 : Nat) (n_ : Nat) : Nat := bif Nat.beq n_ 1000 then a1000 else (bif Nat.beq n_ 1002 then a1002 else (bif Nat.beq n_ 1004 then a1004 else (0)))
theorem xwyU2B {h_ : xH} {a1000 a1002 a1004 : Nat} {v4_ v6 : Int32} (hs : sHp h_) (k1000 : bcq h_ a1000 6 2) (k1002 : bcq h_ a1002 6 2) (k1004 : bcq h_ a1004 5 3) (o0_ : bpat h_ 3 (v6).toInt.toNat = some (.index a1004)) (b0 : 0 ≤ (v6).toInt ∧ (v6).toInt < 8) : ∃ h', ysm h_ h' ∧ (((∀ a_ j_ : Nat, bpat h' a_ j_ = bpat h_ a_ j_) ∧ (bldD 60 129 62 [(6, .int v6), (4, .int v4_), (5, .index 334), (0, .index 0), (1, .index a1000), (2, .index a1002), (3, .int (2 : Int32))] [] h_ 78 [(6, .int v6), (4, .int v4_), (5, .index 334), (0, .index 0), (1, .index a1000), (2, .index a1002), (3, .int (2 : Int32))] [.index 334, .index a1004, .index 1] h'))) := by
  have hA : yas xwyU2B_A (xwyU2B_r v4_ v6) (yg (xwyU2B_s a1000 a1002 a1004)) := ⟨List.forall_mem_cons.mpr ⟨b0, fun q_ hq => absurd hq List.not_mem_nil⟩, fun q_ hq => absurd hq List.not_mem_nil, fun q_ hq => absurd hq List.not_mem_nil, fun n_ hn => yg_lo hn, fun q_ hq => absurd hq List.not_mem_nil⟩
  have Hs : ysh xwyU2B_A.1 (yg (xwyU2B_s a1000 a1002 a1004)) h_ := ysh_of2 hs (List.forall_mem_cons.mpr ⟨⟨by decide, k1000⟩, List.forall_mem_cons.mpr ⟨⟨by decide, k1002⟩, List.forall_mem_cons.mpr ⟨⟨by decide, k1004⟩, fun q_ hq => absurd hq List.not_mem_nil⟩⟩⟩)
  have Ho : ymem (xwyU2B_r v4_ v6) (yg (xwyU2B_s a1000 a1002 a1004)) xwyU2B_O h_ := List.forall_mem_cons.mpr ⟨bpat_some (fxr_at hs.2 (show fxk fxl 0 0 = some 1 by decide +kernel)), List.forall_mem_cons.mpr ⟨bpat_some (fxr_at hs.2 (show fxk fxl 1 1 = some 3 by decide +kernel)), List.forall_mem_cons.mpr ⟨bpat_some o0_, fun q_ hq => absurd hq List.not_mem_nil⟩⟩⟩
  have HC : ∀ q_ ∈ xwyU2B_C, xhold (xwyU2B_r v4_ v6) q_ := fun q_ hq => absurd hq List.not_mem_nil
  rcases yrun (yis_ok xwyU2B_k) hA Hs Ho HC with ⟨q_, hq, h', K_, G_⟩ | ⟨q_, hq, h', K_, G_⟩
  · have e_ := List.mem_singleton.mp hq
    subst e_
    exact ⟨h', yfr_sm K_.2.2.2 hs K_.1 (ywa_s xwyU2B_w List.mem_cons_self), ⟨fun a_ j_ => yfr_bp K_.2.2.2 (fun q_ hq => absurd hq List.not_mem_nil), G_⟩⟩
  · cases hq
-- xwyV2B: 7 steps, 1 ends, 0 returns
def xwyV2B_L : List (Nat × Nat × Nat) := [(1000, 6, 2), (1002, 6, 2)]
def xwyV2B_O : yO := []
def xwyV2B_A : yA := (yZ xwyV2B_L, [], [], [], [])
def xwyV2B_C : List xB := []
def xwyV2B_ss : List yS := [(90, [(6, .arg 6), (4, .arg 4), (5, .index 334), (0, .index 0), (1, .index 1000), (2, .index 1002), (3, .int 2)], [.int 1, .index 1002, .index 334, .index 0, .arg 4], [], [], [])]
def xwyV2B_rs : List yR := []
theorem xwyV2B_w : ywa xwyV2B_A xwyV2B_ss xwyV2B_rs = true := by decide +kernel
theorem xwyV2B_k : yis (yev xwyV2B_A 3000 60 129 [90] (81, [(6, .arg 6), (4, .arg 4), (5, .index 334), (0, .index 0), (1, .index 1000), (2, .index 1002), (3, .int 2)], [], xwyV2B_O, xwyV2B_C, [])) xwyV2B_ss xwyV2B_rs = true := by decide +kernel
def xwyV2B_r (v4_ v6 : Int32) (k_ : Nat) : Value := bif Nat.beq k_ 4 then .int v4_ else (bif Nat.beq k_ 6 then .int v6 else (.int 0))
def xwyV2B_s (a1000 a1002 : Nat) (n_ : Nat) : Nat := bif Nat.beq n_ 1000 then a1000 else (bif Nat.beq n_ 1002 then a1002 else (0))
theorem xwyV2B {h_ : xH} {a1000 a1002 : Nat} {v4_ v6 : Int32} (hs : sHp h_) (k1000 : bcq h_ a1000 6 2) (k1002 : bcq h_ a1002 6 2) : ∃ h', ysm h_ h' ∧ (((∀ a_ j_ : Nat, bpat h' a_ j_ = bpat h_ a_ j_) ∧ (bldD 60 129 81 [(6, .int v6), (4, .int v4_), (5, .index 334), (0, .index 0), (1, .index a1000), (2, .index a1002), (3, .int (2 : Int32))] [] h_ 90 [(6, .int v6), (4, .int v4_), (5, .index 334), (0, .index 0), (1, .index a1000), (2, .index a1002), (3, .int (2 : Int32))] [.int (1 : Int32), .index a1002, .index 334, .index 0, .int v4_] h'))) := by
  have hA : yas xwyV2B_A (xwyV2B_r v4_ v6) (yg (xwyV2B_s a1000 a1002)) := ⟨fun q_ hq => absurd hq List.not_mem_nil, fun q_ hq => absurd hq List.not_mem_nil, fun q_ hq => absurd hq List.not_mem_nil, fun n_ hn => yg_lo hn, fun q_ hq => absurd hq List.not_mem_nil⟩
  have Hs : ysh xwyV2B_A.1 (yg (xwyV2B_s a1000 a1002)) h_ := ysh_of2 hs (List.forall_mem_cons.mpr ⟨⟨by decide, k1000⟩, List.forall_mem_cons.mpr ⟨⟨by decide, k1002⟩, fun q_ hq => absurd hq List.not_mem_nil⟩⟩)
  have Ho : ymem (xwyV2B_r v4_ v6) (yg (xwyV2B_s a1000 a1002)) xwyV2B_O h_ := fun q_ hq => absurd hq List.not_mem_nil
  have HC : ∀ q_ ∈ xwyV2B_C, xhold (xwyV2B_r v4_ v6) q_ := fun q_ hq => absurd hq List.not_mem_nil
  rcases yrun (yis_ok xwyV2B_k) hA Hs Ho HC with ⟨q_, hq, h', K_, G_⟩ | ⟨q_, hq, h', K_, G_⟩
  · have e_ := List.mem_singleton.mp hq
    subst e_
    exact ⟨h', yfr_sm K_.2.2.2 hs K_.1 (ywa_s xwyV2B_w List.mem_cons_self), ⟨fun a_ j_ => yfr_bp K_.2.2.2 (fun q_ hq => absurd hq List.not_mem_nil), G_⟩⟩
  · cases hq
-- xwyW2B: 4 steps, 1 ends, 0 returns
def xwyW2B_L : List (Nat × Nat × Nat) := [(1000, 6, 2), (1002, 6, 2)]
def xwyW2B_O : yO := []
def xwyW2B_A : yA := (yZ xwyW2B_L, [], [], [], [])
def xwyW2B_C : List xB := []
def xwyW2B_ss : List yS := [(44, [(6, .add (.arg 6) (.int 1)), (4, .add (.arg 8) (.arg 7)), (5, .index 334), (0, .index 0), (1, .index 1000), (2, .index 1002), (3, .int 2)], [], [], [], [])]
def xwyW2B_rs : List yR := []
theorem xwyW2B_w : ywa xwyW2B_A xwyW2B_ss xwyW2B_rs = true := by decide +kernel
theorem xwyW2B_k : yis (yev xwyW2B_A 3000 60 129 [44] (93, [(6, .arg 6), (4, .arg 4), (5, .index 334), (0, .index 0), (1, .index 1000), (2, .index 1002), (3, .int 2)], [.arg 7, .arg 8], xwyW2B_O, xwyW2B_C, [])) xwyW2B_ss xwyW2B_rs = true := by decide +kernel
def xwyW2B_r (v4_ v6 v7 v8 : Int32) (k_ : Nat) : Value := bif Nat.beq k_ 4 then .int v4_ else (bif Nat.beq k_ 6 then .int v6 else (bif Nat.beq k_ 7 then .int v7 else (bif Nat.beq k_ 8 then .int v8 else (.int 0))))
def xwyW2B_s (a1000 a1002 : Nat) (n_ : Nat) : Nat := bif Nat.beq n_ 1000 then a1000 else (bif Nat.beq n_ 1002 then a1002 else (0))
theorem xwyW2B {h_ : xH} {a1000 a1002 : Nat} {v4_ v6 v7 v8 : Int32} (hs : sHp h_) (k1000 : bcq h_ a1000 6 2) (k1002 : bcq h_ a1002 6 2) : ∃ h', ysm h_ h' ∧ (((∀ a_ j_ : Nat, bpat h' a_ j_ = bpat h_ a_ j_) ∧ (bldD 60 129 93 [(6, .int v6), (4, .int v4_), (5, .index 334), (0, .index 0), (1, .index a1000), (2, .index a1002), (3, .int (2 : Int32))] [.int v7, .int v8] h_ 44 [(6, .int (v6 + (1 : Int32))), (4, .int (v8 + v7)), (5, .index 334), (0, .index 0), (1, .index a1000), (2, .index a1002), (3, .int (2 : Int32))] [] h'))) := by
  have hA : yas xwyW2B_A (xwyW2B_r v4_ v6 v7 v8) (yg (xwyW2B_s a1000 a1002)) := ⟨fun q_ hq => absurd hq List.not_mem_nil, fun q_ hq => absurd hq List.not_mem_nil, fun q_ hq => absurd hq List.not_mem_nil, fun n_ hn => yg_lo hn, fun q_ hq => absurd hq List.not_mem_nil⟩
  have Hs : ysh xwyW2B_A.1 (yg (xwyW2B_s a1000 a1002)) h_ := ysh_of2 hs (List.forall_mem_cons.mpr ⟨⟨by decide, k1000⟩, List.forall_mem_cons.mpr ⟨⟨by decide, k1002⟩, fun q_ hq => absurd hq List.not_mem_nil⟩⟩)
  have Ho : ymem (xwyW2B_r v4_ v6 v7 v8) (yg (xwyW2B_s a1000 a1002)) xwyW2B_O h_ := fun q_ hq => absurd hq List.not_mem_nil
  have HC : ∀ q_ ∈ xwyW2B_C, xhold (xwyW2B_r v4_ v6 v7 v8) q_ := fun q_ hq => absurd hq List.not_mem_nil
  rcases yrun (yis_ok xwyW2B_k) hA Hs Ho HC with ⟨q_, hq, h', K_, G_⟩ | ⟨q_, hq, h', K_, G_⟩
  · have e_ := List.mem_singleton.mp hq
    subst e_
    exact ⟨h', yfr_sm K_.2.2.2 hs K_.1 (ywa_s xwyW2B_w List.mem_cons_self), ⟨fun a_ j_ => yfr_bp K_.2.2.2 (fun q_ hq => absurd hq List.not_mem_nil), G_⟩⟩
  · cases hq
-- xwyX2B: 7 steps, 0 ends, 1 returns
def xwyX2B_L : List (Nat × Nat × Nat) := [(1000, 6, 2), (1002, 6, 2)]
def xwyX2B_O : yO := [(0, .int 0, .index 1), (1, .int 10, .arg 300)]
def xwyX2B_A : yA := (yZ xwyX2B_L, [], [], [], [])
def xwyX2B_C : List xB := [(.lt, .arg 6, .arg 300, false)]
def xwyX2B_ss : List yS := []
def xwyX2B_rs : List yR := [(some (.arg 4), [(0, .int 0, .index 1), (1, .int 10, .arg 300)], [(.lt, .arg 6, .arg 300, false)], [])]
theorem xwyX2B_w : ywa xwyX2B_A xwyX2B_ss xwyX2B_rs = true := by decide +kernel
theorem xwyX2B_k : yis (yev xwyX2B_A 3000 60 129 [] (44, [(6, .arg 6), (4, .arg 4), (5, .index 334), (0, .index 0), (1, .index 1000), (2, .index 1002), (3, .int 2)], [], xwyX2B_O, xwyX2B_C, [])) xwyX2B_ss xwyX2B_rs = true := by decide +kernel
def xwyX2B_r (v4_ v6 v300 : Int32) (k_ : Nat) : Value := bif Nat.beq k_ 4 then .int v4_ else (bif Nat.beq k_ 6 then .int v6 else (bif Nat.beq k_ 300 then .int v300 else (.int 0)))
def xwyX2B_s (a1000 a1002 : Nat) (n_ : Nat) : Nat := bif Nat.beq n_ 1000 then a1000 else (bif Nat.beq n_ 1002 then a1002 else (0))
theorem xwyX2B {h_ : xH} {a1000 a1002 : Nat} {v4_ v6 v300 : Int32} (hs : sHp h_) (k1000 : bcq h_ a1000 6 2) (k1002 : bcq h_ a1002 6 2) (o0_ : bpat h_ 1 10 = some (.int v300)) (c0_ : v300.toInt ≤ v6.toInt) : ∃ h', ysm h_ h' ∧ (((∀ a_ j_ : Nat, bpat h' a_ j_ = bpat h_ a_ j_) ∧ (∀ D_, 60 ≤ D_ → xrun D_ 129 44 [(6, .int v6), (4, .int v4_), (5, .index 334), (0, .index 0), (1, .index a1000), (2, .index a1002), (3, .int (2 : Int32))] [] h_ (some (.int v4_), h', [])))) := by
  have hA : yas xwyX2B_A (xwyX2B_r v4_ v6 v300) (yg (xwyX2B_s a1000 a1002)) := ⟨fun q_ hq => absurd hq List.not_mem_nil, fun q_ hq => absurd hq List.not_mem_nil, fun q_ hq => absurd hq List.not_mem_nil, fun n_ hn => yg_lo hn, fun q_ hq => absurd hq List.not_mem_nil⟩
  have Hs : ysh xwyX2B_A.1 (yg (xwyX2B_s a1000 a1002)) h_ := ysh_of2 hs (List.forall_mem_cons.mpr ⟨⟨by decide, k1000⟩, List.forall_mem_cons.mpr ⟨⟨by decide, k1002⟩, fun q_ hq => absurd hq List.not_mem_nil⟩⟩)
  have Ho : ymem (xwyX2B_r v4_ v6 v300) (yg (xwyX2B_s a1000 a1002)) xwyX2B_O h_ := List.forall_mem_cons.mpr ⟨bpat_some (fxr_at hs.2 (show fxk fxl 0 0 = some 1 by decide +kernel)), List.forall_mem_cons.mpr ⟨bpat_some o0_, fun q_ hq => absurd hq List.not_mem_nil⟩⟩
  have HC : ∀ q_ ∈ xwyX2B_C, xhold (xwyX2B_r v4_ v6 v300) q_ := List.forall_mem_cons.mpr ⟨xh_ltF c0_, fun q_ hq => absurd hq List.not_mem_nil⟩
  rcases yrun (yis_ok xwyX2B_k) hA Hs Ho HC with ⟨q_, hq, h', K_, G_⟩ | ⟨q_, hq, h', K_, G_⟩
  · cases hq
  · have e_ := List.mem_singleton.mp hq
    subst e_
    exact ⟨h', yfr_sm K_.2.2.2 hs K_.1 (ywa_r xwyX2B_w List.mem_cons_self), ⟨fun a_ j_ => yfr_bp K_.2.2.2 (fun q_ hq => absurd hq List.not_mem_nil), G_⟩⟩
-- xwyT3A: 7 steps, 1 ends, 0 returns
def xwyT3A_L : List (Nat × Nat × Nat) := [(1000, 6, 2), (1002, 6, 2)]
def xwyT3A_O : yO := [(0, .int 0, .index 1), (1, .int 10, .arg 300)]
def xwyT3A_A : yA := (yZ xwyT3A_L, [], [], [], [])
def xwyT3A_C : List xB := [(.lt, .arg 6, .arg 300, true)]
def xwyT3A_ss : List yS := [(59, [(6, .arg 6), (5, .index 336), (4, .arg 4), (0, .index 0), (1, .index 1000), (2, .index 1002), (3, .int 3)], [.index 1000, .index 336], [(0, .int 0, .index 1), (1, .int 10, .arg 300)], [(.lt, .arg 6, .arg 300, true)], [])]
def xwyT3A_rs : List yR := []
theorem xwyT3A_w : ywa xwyT3A_A xwyT3A_ss xwyT3A_rs = true := by decide +kernel
theorem xwyT3A_k : yis (yev xwyT3A_A 3000 60 129 [59] (44, [(6, .arg 6), (5, .index 336), (4, .arg 4), (0, .index 0), (1, .index 1000), (2, .index 1002), (3, .int 3)], [], xwyT3A_O, xwyT3A_C, [])) xwyT3A_ss xwyT3A_rs = true := by decide +kernel
def xwyT3A_r (v4_ v6 v300 : Int32) (k_ : Nat) : Value := bif Nat.beq k_ 4 then .int v4_ else (bif Nat.beq k_ 6 then .int v6 else (bif Nat.beq k_ 300 then .int v300 else (.int 0)))
def xwyT3A_s (a1000 a1002 : Nat) (n_ : Nat) : Nat := bif Nat.beq n_ 1000 then a1000 else (bif Nat.beq n_ 1002 then a1002 else (0))
theorem xwyT3A {h_ : xH} {a1000 a1002 : Nat} {v4_ v6 v300 : Int32} (hs : sHp h_) (k1000 : bcq h_ a1000 6 2) (k1002 : bcq h_ a1002 6 2) (o0_ : bpat h_ 1 10 = some (.int v300)) (c0_ : v6.toInt < v300.toInt) : ∃ h', ysm h_ h' ∧ (((∀ a_ j_ : Nat, bpat h' a_ j_ = bpat h_ a_ j_) ∧ (bldD 60 129 44 [(6, .int v6), (5, .index 336), (4, .int v4_), (0, .index 0), (1, .index a1000), (2, .index a1002), (3, .int (3 : Int32))] [] h_ 59 [(6, .int v6), (5, .index 336), (4, .int v4_), (0, .index 0), (1, .index a1000), (2, .index a1002), (3, .int (3 : Int32))] [.index a1000, .index 336] h'))) := by
  have hA : yas xwyT3A_A (xwyT3A_r v4_ v6 v300) (yg (xwyT3A_s a1000 a1002)) := ⟨fun q_ hq => absurd hq List.not_mem_nil, fun q_ hq => absurd hq List.not_mem_nil, fun q_ hq => absurd hq List.not_mem_nil, fun n_ hn => yg_lo hn, fun q_ hq => absurd hq List.not_mem_nil⟩
  have Hs : ysh xwyT3A_A.1 (yg (xwyT3A_s a1000 a1002)) h_ := ysh_of2 hs (List.forall_mem_cons.mpr ⟨⟨by decide, k1000⟩, List.forall_mem_cons.mpr ⟨⟨by decide, k1002⟩, fun q_ hq => absurd hq List.not_mem_nil⟩⟩)
  have Ho : ymem (xwyT3A_r v4_ v6 v300) (yg (xwyT3A_s a1000 a1002)) xwyT3A_O h_ := List.forall_mem_cons.mpr ⟨bpat_some (fxr_at hs.2 (show fxk fxl 0 0 = some 1 by decide +kernel)), List.forall_mem_cons.mpr ⟨bpat_some o0_, fun q_ hq => absurd hq List.not_mem_nil⟩⟩
  have HC : ∀ q_ ∈ xwyT3A_C, xhold (xwyT3A_r v4_ v6 v300) q_ := List.forall_mem_cons.mpr ⟨xh_ltT c0_, fun q_ hq => absurd hq List.not_mem_nil⟩
  rcases yrun (yis_ok xwyT3A_k) hA Hs Ho HC with ⟨q_, hq, h', K_, G_⟩ | ⟨q_, hq, h', K_, G_⟩
  · have e_ := List.mem_singleton.mp hq
    subst e_
    exact ⟨h', yfr_sm K_.2.2.2 hs K_.1 (ywa_s xwyT3A_w List.mem_cons_self), ⟨fun a_ j_ => yfr_bp K_.2.2.2 (fun q_ hq => absurd hq List.not_mem_nil), G_⟩⟩
  · cases hq
-- xwyU3A: 8 steps, 1 ends, 0 returns
def xwyU3A_L : List (Nat × Nat × Nat) := [(1000, 6, 2), (1002, 6, 2), (1004, 5, 3)]
def xwyU3A_O : yO := [(0, .int 0, .index 1), (1, .int 1, .index 3), (3, .arg 6, .index 1004)]
def xwyU3A_A : yA := (yZ xwyU3A_L, [(.arg 6, 8)], [], [], [])
def xwyU3A_C : List xB := []
def xwyU3A_ss : List yS := [(78, [(6, .arg 6), (5, .index 336), (4, .arg 4), (0, .index 0), (1, .index 1000), (2, .index 1002), (3, .int 3)], [.index 336, .index 1004, .index 1], [(0, .int 0, .index 1), (1, .int 1, .index 3), (3, .arg 6, .index 1004)], [], [])]
def xwyU3A_rs : List yR := []
theorem xwyU3A_w : ywa xwyU3A_A xwyU3A_ss xwyU3A_rs = true := by decide +kernel
theorem xwyU3A_k : yis (yev xwyU3A_A 3000 60 129 [78] (62, [(6, .arg 6), (5, .index 336), (4, .arg 4), (0, .index 0), (1, .index 1000), (2, .index 1002), (3, .int 3)], [], xwyU3A_O, xwyU3A_C, [])) xwyU3A_ss xwyU3A_rs = true := by decide +kernel
def xwyU3A_r (v4_ v6 : Int32) (k_ : Nat) : Value := bif Nat.beq k_ 4 then .int v4_ else (bif Nat.beq k_ 6 then .int v6 else (.int 0))
def xwyU3A_s (a1000 a1002 a1004 : Nat) (n_ : Nat) : Nat := bif Nat.beq n_ 1000 then a1000 else (bif Nat.beq n_ 1002 then a1002 else (bif Nat.beq n_ 1004 then a1004 else (0)))
theorem xwyU3A {h_ : xH} {a1000 a1002 a1004 : Nat} {v4_ v6 : Int32} (hs : sHp h_) (k1000 : bcq h_ a1000 6 2) (k1002 : bcq h_ a1002 6 2) (k1004 : bcq h_ a1004 5 3) (o0_ : bpat h_ 3 (v6).toInt.toNat = some (.index a1004)) (b0 : 0 ≤ (v6).toInt ∧ (v6).toInt < 8) : ∃ h', ysm h_ h' ∧ (((∀ a_ j_ : Nat, bpat h' a_ j_ = bpat h_ a_ j_) ∧ (bldD 60 129 62 [(6, .int v6), (5, .index 336), (4, .int v4_), (0, .index 0), (1, .index a1000), (2, .index a1002), (3, .int (3 : Int32))] [] h_ 78 [(6, .int v6), (5, .index 336), (4, .int v4_), (0, .index 0), (1, .index a1000), (2, .index a1002), (3, .int (3 : Int32))] [.index 336, .index a1004, .index 1] h'))) := by
  have hA : yas xwyU3A_A (xwyU3A_r v4_ v6) (yg (xwyU3A_s a1000 a1002 a1004)) := ⟨List.forall_mem_cons.mpr ⟨b0, fun q_ hq => absurd hq List.not_mem_nil⟩, fun q_ hq => absurd hq List.not_mem_nil, fun q_ hq => absurd hq List.not_mem_nil, fun n_ hn => yg_lo hn, fun q_ hq => absurd hq List.not_mem_nil⟩
  have Hs : ysh xwyU3A_A.1 (yg (xwyU3A_s a1000 a1002 a1004)) h_ := ysh_of2 hs (List.forall_mem_cons.mpr ⟨⟨by decide, k1000⟩, List.forall_mem_cons.mpr ⟨⟨by decide, k1002⟩, List.forall_mem_cons.mpr ⟨⟨by decide, k1004⟩, fun q_ hq => absurd hq List.not_mem_nil⟩⟩⟩)
  have Ho : ymem (xwyU3A_r v4_ v6) (yg (xwyU3A_s a1000 a1002 a1004)) xwyU3A_O h_ := List.forall_mem_cons.mpr ⟨bpat_some (fxr_at hs.2 (show fxk fxl 0 0 = some 1 by decide +kernel)), List.forall_mem_cons.mpr ⟨bpat_some (fxr_at hs.2 (show fxk fxl 1 1 = some 3 by decide +kernel)), List.forall_mem_cons.mpr ⟨bpat_some o0_, fun q_ hq => absurd hq List.not_mem_nil⟩⟩⟩
  have HC : ∀ q_ ∈ xwyU3A_C, xhold (xwyU3A_r v4_ v6) q_ := fun q_ hq => absurd hq List.not_mem_nil
  rcases yrun (yis_ok xwyU3A_k) hA Hs Ho HC with ⟨q_, hq, h', K_, G_⟩ | ⟨q_, hq, h', K_, G_⟩
  · have e_ := List.mem_singleton.mp hq
    subst e_
    exact ⟨h', yfr_sm K_.2.2.2 hs K_.1 (ywa_s xwyU3A_w List.mem_cons_self), ⟨fun a_ j_ => yfr_bp K_.2.2.2 (fun q_ hq => absurd hq List.not_mem_nil), G_⟩⟩
  · cases hq
-- xwyV3A: 7 steps, 1 ends, 0 returns
def xwyV3A_L : List (Nat × Nat × Nat) := [(1000, 6, 2), (1002, 6, 2)]
def xwyV3A_O : yO := []
def xwyV3A_A : yA := (yZ xwyV3A_L, [], [], [], [])
def xwyV3A_C : List xB := []
def xwyV3A_ss : List yS := [(90, [(6, .arg 6), (5, .index 336), (4, .arg 4), (0, .index 0), (1, .index 1000), (2, .index 1002), (3, .int 3)], [.int 2, .index 1002, .index 336, .index 0, .arg 4], [], [], [])]
def xwyV3A_rs : List yR := []
theorem xwyV3A_w : ywa xwyV3A_A xwyV3A_ss xwyV3A_rs = true := by decide +kernel
theorem xwyV3A_k : yis (yev xwyV3A_A 3000 60 129 [90] (81, [(6, .arg 6), (5, .index 336), (4, .arg 4), (0, .index 0), (1, .index 1000), (2, .index 1002), (3, .int 3)], [], xwyV3A_O, xwyV3A_C, [])) xwyV3A_ss xwyV3A_rs = true := by decide +kernel
def xwyV3A_r (v4_ v6 : Int32) (k_ : Nat) : Value := bif Nat.beq k_ 4 then .int v4_ else (bif Nat.beq k_ 6 then .int v6 else (.int 0))
def xwyV3A_s (a1000 a1002 : Nat) (n_ : Nat) : Nat := bif Nat.beq n_ 1000 then a1000 else (bif Nat.beq n_ 1002 then a1002 else (0))
theorem xwyV3A {h_ : xH} {a1000 a1002 : Nat} {v4_ v6 : Int32} (hs : sHp h_) (k1000 : bcq h_ a1000 6 2) (k1002 : bcq h_ a1002 6 2) : ∃ h', ysm h_ h' ∧ (((∀ a_ j_ : Nat, bpat h' a_ j_ = bpat h_ a_ j_) ∧ (bldD 60 129 81 [(6, .int v6), (5, .index 336), (4, .int v4_), (0, .index 0), (1, .index a1000), (2, .index a1002), (3, .int (3 : Int32))] [] h_ 90 [(6, .int v6), (5, .index 336), (4, .int v4_), (0, .index 0), (1, .index a1000), (2, .index a1002), (3, .int (3 : Int32))] [.int (2 : Int32), .index a1002, .index 336, .index 0, .int v4_] h'))) := by
  have hA : yas xwyV3A_A (xwyV3A_r v4_ v6) (yg (xwyV3A_s a1000 a1002)) := ⟨fun q_ hq => absurd hq List.not_mem_nil, fun q_ hq => absurd hq List.not_mem_nil, fun q_ hq => absurd hq List.not_mem_nil, fun n_ hn => yg_lo hn, fun q_ hq => absurd hq List.not_mem_nil⟩
  have Hs : ysh xwyV3A_A.1 (yg (xwyV3A_s a1000 a1002)) h_ := ysh_of2 hs (List.forall_mem_cons.mpr ⟨⟨by decide, k1000⟩, List.forall_mem_cons.mpr ⟨⟨by decide, k1002⟩, fun q_ hq => absurd hq List.not_mem_nil⟩⟩)
  have Ho : ymem (xwyV3A_r v4_ v6) (yg (xwyV3A_s a1000 a1002)) xwyV3A_O h_ := fun q_ hq => absurd hq List.not_mem_nil
  have HC : ∀ q_ ∈ xwyV3A_C, xhold (xwyV3A_r v4_ v6) q_ := fun q_ hq => absurd hq List.not_mem_nil
  rcases yrun (yis_ok xwyV3A_k) hA Hs Ho HC with ⟨q_, hq, h', K_, G_⟩ | ⟨q_, hq, h', K_, G_⟩
  · have e_ := List.mem_singleton.mp hq
    subst e_
    exact ⟨h', yfr_sm K_.2.2.2 hs K_.1 (ywa_s xwyV3A_w List.mem_cons_self), ⟨fun a_ j_ => yfr_bp K_.2.2.2 (fun q_ hq => absurd hq List.not_mem_nil), G_⟩⟩
  · cases hq
-- xwyW3A: 4 steps, 1 ends, 0 returns
def xwyW3A_L : List (Nat × Nat × Nat) := [(1000, 6, 2), (1002, 6, 2)]
def xwyW3A_O : yO := []
def xwyW3A_A : yA := (yZ xwyW3A_L, [], [], [], [])
def xwyW3A_C : List xB := []
def xwyW3A_ss : List yS := [(44, [(6, .add (.arg 6) (.int 1)), (4, .add (.arg 8) (.arg 7)), (5, .index 336), (0, .index 0), (1, .index 1000), (2, .index 1002), (3, .int 3)], [], [], [], [])]
def xwyW3A_rs : List yR := []
theorem xwyW3A_w : ywa xwyW3A_A xwyW3A_ss xwyW3A_rs = true := by decide +kernel
theorem xwyW3A_k : yis (yev xwyW3A_A 3000 60 129 [44] (93, [(6, .arg 6), (5, .index 336), (4, .arg 4), (0, .index 0), (1, .index 1000), (2, .index 1002), (3, .int 3)], [.arg 7, .arg 8], xwyW3A_O, xwyW3A_C, [])) xwyW3A_ss xwyW3A_rs = true := by decide +kernel
def xwyW3A_r (v4_ v6 v7 v8 : Int32) (k_ : Nat) : Value := bif Nat.beq k_ 4 then .int v4_ else (bif Nat.beq k_ 6 then .int v6 else (bif Nat.beq k_ 7 then .int v7 else (bif Nat.beq k_ 8 then .int v8 else (.int 0))))
def xwyW3A_s (a1000 a1002 : Nat) (n_ : Nat) : Nat := bif Nat.beq n_ 1000 then a1000 else (bif Nat.beq n_ 1002 then a1002 else (0))
theorem xwyW3A {h_ : xH} {a1000 a1002 : Nat} {v4_ v6 v7 v8 : Int32} (hs : sHp h_) (k1000 : bcq h_ a1000 6 2) (k1002 : bcq h_ a1002 6 2) : ∃ h', ysm h_ h' ∧ (((∀ a_ j_ : Nat, bpat h' a_ j_ = bpat h_ a_ j_) ∧ (bldD 60 129 93 [(6, .int v6), (5, .index 336), (4, .int v4_), (0, .index 0), (1, .index a1000), (2, .index a1002), (3, .int (3 : Int32))] [.int v7, .int v8] h_ 44 [(6, .int (v6 + (1 : Int32))), (4, .int (v8 + v7)), (5, .index 336), (0, .index 0), (1, .index a1000), (2, .index a1002), (3, .int (3 : Int32))] [] h'))) := by
  have hA : yas xwyW3A_A (xwyW3A_r v4_ v6 v7 v8) (yg (xwyW3A_s a1000 a1002)) := ⟨fun q_ hq => absurd hq List.not_mem_nil, fun q_ hq => absurd hq List.not_mem_nil, fun q_ hq => absurd hq List.not_mem_nil, fun n_ hn => yg_lo hn, fun q_ hq => absurd hq List.not_mem_nil⟩
  have Hs : ysh xwyW3A_A.1 (yg (xwyW3A_s a1000 a1002)) h_ := ysh_of2 hs (List.forall_mem_cons.mpr ⟨⟨by decide, k1000⟩, List.forall_mem_cons.mpr ⟨⟨by decide, k1002⟩, fun q_ hq => absurd hq List.not_mem_nil⟩⟩)
  have Ho : ymem (xwyW3A_r v4_ v6 v7 v8) (yg (xwyW3A_s a1000 a1002)) xwyW3A_O h_ := fun q_ hq => absurd hq List.not_mem_nil
  have HC : ∀ q_ ∈ xwyW3A_C, xhold (xwyW3A_r v4_ v6 v7 v8) q_ := fun q_ hq => absurd hq List.not_mem_nil
  rcases yrun (yis_ok xwyW3A_k) hA Hs Ho HC with ⟨q_, hq, h', K_, G_⟩ | ⟨q_, hq, h', K_, G_⟩
  · have e_ := List.mem_singleton.mp hq
    subst e_
    exact ⟨h', yfr_sm K_.2.2.2 hs K_.1 (ywa_s xwyW3A_w List.mem_cons_self), ⟨fun a_ j_ => yfr_bp K_.2.2.2 (fun q_ hq => absurd hq List.not_mem_nil), G_⟩⟩
  · cases hq
-- xwyX3A: 7 steps, 0 ends, 1 returns
def xwyX3A_L : List (Nat × Nat × Nat) := [(1000, 6, 2), (1002, 6, 2)]
def xwyX3A_O : yO := [(0, .int 0, .index 1), (1, .int 10, .arg 300)]
def xwyX3A_A : yA := (yZ xwyX3A_L, [], [], [], [])
def xwyX3A_C : List xB := [(.lt, .arg 6, .arg 300, false)]
def xwyX3A_ss : List yS := []
def xwyX3A_rs : List yR := [(some (.arg 4), [(0, .int 0, .index 1), (1, .int 10, .arg 300)], [(.lt, .arg 6, .arg 300, false)], [])]
theorem xwyX3A_w : ywa xwyX3A_A xwyX3A_ss xwyX3A_rs = true := by decide +kernel
theorem xwyX3A_k : yis (yev xwyX3A_A 3000 60 129 [] (44, [(6, .arg 6), (5, .index 336), (4, .arg 4), (0, .index 0), (1, .index 1000), (2, .index 1002), (3, .int 3)], [], xwyX3A_O, xwyX3A_C, [])) xwyX3A_ss xwyX3A_rs = true := by decide +kernel
def xwyX3A_r (v4_ v6 v300 : Int32) (k_ : Nat) : Value := bif Nat.beq k_ 4 then .int v4_ else (bif Nat.beq k_ 6 then .int v6 else (bif Nat.beq k_ 300 then .int v300 else (.int 0)))
def xwyX3A_s (a1000 a1002 : Nat) (n_ : Nat) : Nat := bif Nat.beq n_ 1000 then a1000 else (bif Nat.beq n_ 1002 then a1002 else (0))
theorem xwyX3A {h_ : xH} {a1000 a1002 : Nat} {v4_ v6 v300 : Int32} (hs : sHp h_) (k1000 : bcq h_ a1000 6 2) (k1002 : bcq h_ a1002 6 2) (o0_ : bpat h_ 1 10 = some (.int v300)) (c0_ : v300.toInt ≤ v6.toInt) : ∃ h', ysm h_ h' ∧ (((∀ a_ j_ : Nat, bpat h' a_ j_ = bpat h_ a_ j_) ∧ (∀ D_, 60 ≤ D_ → xrun D_ 129 44 [(6, .int v6), (5, .index 336), (4, .int v4_), (0, .index 0), (1, .index a1000), (2, .index a1002), (3, .int (3 : Int32))] [] h_ (some (.int v4_), h', [])))) := by
  have hA : yas xwyX3A_A (xwyX3A_r v4_ v6 v300) (yg (xwyX3A_s a1000 a1002)) := ⟨fun q_ hq => absurd hq List.not_mem_nil, fun q_ hq => absurd hq List.not_mem_nil, fun q_ hq => absurd hq List.not_mem_nil, fun n_ hn => yg_lo hn, fun q_ hq => absurd hq List.not_mem_nil⟩
  have Hs : ysh xwyX3A_A.1 (yg (xwyX3A_s a1000 a1002)) h_ := ysh_of2 hs (List.forall_mem_cons.mpr ⟨⟨by decide, k1000⟩, List.forall_mem_cons.mpr ⟨⟨by decide, k1002⟩, fun q_ hq => absurd hq List.not_mem_nil⟩⟩)
  have Ho : ymem (xwyX3A_r v4_ v6 v300) (yg (xwyX3A_s a1000 a1002)) xwyX3A_O h_ := List.forall_mem_cons.mpr ⟨bpat_some (fxr_at hs.2 (show fxk fxl 0 0 = some 1 by decide +kernel)), List.forall_mem_cons.mpr ⟨bpat_some o0_, fun q_ hq => absurd hq List.not_mem_nil⟩⟩
  have HC : ∀ q_ ∈ xwyX3A_C, xhold (xwyX3A_r v4_ v6 v300) q_ := List.forall_mem_cons.mpr ⟨xh_ltF c0_, fun q_ hq => absurd hq List.not_mem_nil⟩
  rcases yrun (yis_ok xwyX3A_k) hA Hs Ho HC with ⟨q_, hq, h', K_, G_⟩ | ⟨q_, hq, h', K_, G_⟩
  · cases hq
  · have e_ := List.mem_singleton.mp hq
    subst e_
    exact ⟨h', yfr_sm K_.2.2.2 hs K_.1 (ywa_r xwyX3A_w List.mem_cons_self), ⟨fun a_ j_ => yfr_bp K_.2.2.2 (fun q_ hq => absurd hq List.not_mem_nil), G_⟩⟩
-- xwyT3B: 7 steps, 1 ends, 0 returns
def xwyT3B_L : List (Nat × Nat × Nat) := [(1000, 6, 2), (1002, 6, 2)]
def xwyT3B_O : yO := [(0, .int 0, .index 1), (1, .int 10, .arg 300)]
def xwyT3B_A : yA := (yZ xwyT3B_L, [], [], [], [])
def xwyT3B_C : List xB := [(.lt, .arg 6, .arg 300, true)]
def xwyT3B_ss : List yS := [(59, [(6, .arg 6), (4, .arg 4), (5, .index 336), (0, .index 0), (1, .index 1000), (2, .index 1002), (3, .int 3)], [.index 1000, .index 336], [(0, .int 0, .index 1), (1, .int 10, .arg 300)], [(.lt, .arg 6, .arg 300, true)], [])]
def xwyT3B_rs : List yR := []
theorem xwyT3B_w : ywa xwyT3B_A xwyT3B_ss xwyT3B_rs = true := by decide +kernel
theorem xwyT3B_k : yis (yev xwyT3B_A 3000 60 129 [59] (44, [(6, .arg 6), (4, .arg 4), (5, .index 336), (0, .index 0), (1, .index 1000), (2, .index 1002), (3, .int 3)], [], xwyT3B_O, xwyT3B_C, [])) xwyT3B_ss xwyT3B_rs = true := by decide +kernel
def xwyT3B_r (v4_ v6 v300 : Int32) (k_ : Nat) : Value := bif Nat.beq k_ 4 then .int v4_ else (bif Nat.beq k_ 6 then .int v6 else (bif Nat.beq k_ 300 then .int v300 else (.int 0)))
def xwyT3B_s (a1000 a1002 : Nat) (n_ : Nat) : Nat := bif Nat.beq n_ 1000 then a1000 else (bif Nat.beq n_ 1002 then a1002 else (0))
theorem xwyT3B {h_ : xH} {a1000 a1002 : Nat} {v4_ v6 v300 : Int32} (hs : sHp h_) (k1000 : bcq h_ a1000 6 2) (k1002 : bcq h_ a1002 6 2) (o0_ : bpat h_ 1 10 = some (.int v300)) (c0_ : v6.toInt < v300.toInt) : ∃ h', ysm h_ h' ∧ (((∀ a_ j_ : Nat, bpat h' a_ j_ = bpat h_ a_ j_) ∧ (bldD 60 129 44 [(6, .int v6), (4, .int v4_), (5, .index 336), (0, .index 0), (1, .index a1000), (2, .index a1002), (3, .int (3 : Int32))] [] h_ 59 [(6, .int v6), (4, .int v4_), (5, .index 336), (0, .index 0), (1, .index a1000), (2, .index a1002), (3, .int (3 : Int32))] [.index a1000, .index 336] h'))) := by
  have hA : yas xwyT3B_A (xwyT3B_r v4_ v6 v300) (yg (xwyT3B_s a1000 a1002)) := ⟨fun q_ hq => absurd hq List.not_mem_nil, fun q_ hq => absurd hq List.not_mem_nil, fun q_ hq => absurd hq List.not_mem_nil, fun n_ hn => yg_lo hn, fun q_ hq => absurd hq List.not_mem_nil⟩
  have Hs : ysh xwyT3B_A.1 (yg (xwyT3B_s a1000 a1002)) h_ := ysh_of2 hs (List.forall_mem_cons.mpr ⟨⟨by decide, k1000⟩, List.forall_mem_cons.mpr ⟨⟨by decide, k1002⟩, fun q_ hq => absurd hq List.not_mem_nil⟩⟩)
  have Ho : ymem (xwyT3B_r v4_ v6 v300) (yg (xwyT3B_s a1000 a1002)) xwyT3B_O h_ := List.forall_mem_cons.mpr ⟨bpat_some (fxr_at hs.2 (show fxk fxl 0 0 = some 1 by decide +kernel)), List.forall_mem_cons.mpr ⟨bpat_some o0_, fun q_ hq => absurd hq List.not_mem_nil⟩⟩
  have HC : ∀ q_ ∈ xwyT3B_C, xhold (xwyT3B_r v4_ v6 v300) q_ := List.forall_mem_cons.mpr ⟨xh_ltT c0_, fun q_ hq => absurd hq List.not_mem_nil⟩
  rcases yrun (yis_ok xwyT3B_k) hA Hs Ho HC with ⟨q_, hq, h', K_, G_⟩ | ⟨q_, hq, h', K_, G_⟩
  · have e_ := List.mem_singleton.mp hq
    subst e_
    exact ⟨h', yfr_sm K_.2.2.2 hs K_.1 (ywa_s xwyT3B_w List.mem_cons_self), ⟨fun a_ j_ => yfr_bp K_.2.2.2 (fun q_ hq => absurd hq List.not_mem_nil), G_⟩⟩
  · cases hq
-- xwyU3B: 8 steps, 1 ends, 0 returns
def xwyU3B_L : List (Nat × Nat × Nat) := [(1000, 6, 2), (1002, 6, 2), (1004, 5, 3)]
def xwyU3B_O : yO := [(0, .int 0, .index 1), (1, .int 1, .index 3), (3, .arg 6, .index 1004)]
def xwyU3B_A : yA := (yZ xwyU3B_L, [(.arg 6, 8)], [], [], [])
def xwyU3B_C : List xB := []
def xwyU3B_ss : List yS := [(78, [(6, .arg 6), (4, .arg 4), (5, .index 336), (0, .index 0), (1, .index 1000), (2, .index 1002), (3, .int 3)], [.index 336, .index 1004, .index 1], [(0, .int 0, .index 1), (1, .int 1, .index 3), (3, .arg 6, .index 1004)], [], [])]
def xwyU3B_rs : List yR := []
theorem xwyU3B_w : ywa xwyU3B_A xwyU3B_ss xwyU3B_rs = true := by decide +kernel
theorem xwyU3B_k : yis (yev xwyU3B_A 3000 60 129 [78] (62, [(6, .arg 6), (4, .arg 4), (5, .index 336), (0, .index 0), (1, .index 1000), (2, .index 1002), (3, .int 3)], [], xwyU3B_O, xwyU3B_C, [])) xwyU3B_ss xwyU3B_rs = true := by decide +kernel
def xwyU3B_r (v4_ v6 : Int32) (k_ : Nat) : Value := bif Nat.beq k_ 4 then .int v4_ else (bif Nat.beq k_ 6 then .int v6 else (.int 0))
def xwyU3B_s (a1000 a1002 a1004 : Nat) (n_ : Nat) : Nat := bif Nat.beq n_ 1000 then a1000 else (bif Nat.beq n_ 1002 then a1002 else (bif Nat.beq n_ 1004 then a1004 else (0)))
theorem xwyU3B {h_ : xH} {a1000 a1002 a1004 : Nat} {v4_ v6 : Int32} (hs : sHp h_) (k1000 : bcq h_ a1000 6 2) (k1002 : bcq h_ a1002 6 2) (k1004 : bcq h_ a1004 5 3) (o0_ : bpat h_ 3 (v6).toInt.toNat = some (.index a1004)) (b0 : 0 ≤ (v6).toInt ∧ (v6).toInt < 8) : ∃ h', ysm h_ h' ∧ (((∀ a_ j_ : Nat, bpat h' a_ j_ = bpat h_ a_ j_) ∧ (bldD 60 129 62 [(6, .int v6), (4, .int v4_), (5, .index 336), (0, .index 0), (1, .index a1000), (2, .index a1002), (3, .int (3 : Int32))] [] h_ 78 [(6, .int v6), (4, .int v4_), (5, .index 336), (0, .index 0), (1, .index a1000), (2, .index a1002), (3, .int (3 : Int32))] [.index 336, .index a1004, .index 1] h'))) := by
  have hA : yas xwyU3B_A (xwyU3B_r v4_ v6) (yg (xwyU3B_s a1000 a1002 a1004)) := ⟨List.forall_mem_cons.mpr ⟨b0, fun q_ hq => absurd hq List.not_mem_nil⟩, fun q_ hq => absurd hq List.not_mem_nil, fun q_ hq => absurd hq List.not_mem_nil, fun n_ hn => yg_lo hn, fun q_ hq => absurd hq List.not_mem_nil⟩
  have Hs : ysh xwyU3B_A.1 (yg (xwyU3B_s a1000 a1002 a1004)) h_ := ysh_of2 hs (List.forall_mem_cons.mpr ⟨⟨by decide, k1000⟩, List.forall_mem_cons.mpr ⟨⟨by decide, k1002⟩, List.forall_mem_cons.mpr ⟨⟨by decide, k1004⟩, fun q_ hq => absurd hq List.not_mem_nil⟩⟩⟩)
  have Ho : ymem (xwyU3B_r v4_ v6) (yg (xwyU3B_s a1000 a1002 a1004)) xwyU3B_O h_ := List.forall_mem_cons.mpr ⟨bpat_some (fxr_at hs.2 (show fxk fxl 0 0 = some 1 by decide +kernel)), List.forall_mem_cons.mpr ⟨bpat_some (fxr_at hs.2 (show fxk fxl 1 1 = some 3 by decide +kernel)), List.forall_mem_cons.mpr ⟨bpat_some o0_, fun q_ hq => absurd hq List.not_mem_nil⟩⟩⟩
  have HC : ∀ q_ ∈ xwyU3B_C, xhold (xwyU3B_r v4_ v6) q_ := fun q_ hq => absurd hq List.not_mem_nil
  rcases yrun (yis_ok xwyU3B_k) hA Hs Ho HC with ⟨q_, hq, h', K_, G_⟩ | ⟨q_, hq, h', K_, G_⟩
  · have e_ := List.mem_singleton.mp hq
    subst e_
    exact ⟨h', yfr_sm K_.2.2.2 hs K_.1 (ywa_s xwyU3B_w List.mem_cons_self), ⟨fun a_ j_ => yfr_bp K_.2.2.2 (fun q_ hq => absurd hq List.not_mem_nil), G_⟩⟩
  · cases hq
-- xwyV3B: 7 steps, 1 ends, 0 returns
def xwyV3B_L : List (Nat × Nat × Nat) := [(1000, 6, 2), (1002, 6, 2)]
def xwyV3B_O : yO := []
def xwyV3B_A : yA := (yZ xwyV3B_L, [], [], [], [])
def xwyV3B_C : List xB := []
def xwyV3B_ss : List yS := [(90, [(6, .arg 6), (4, .arg 4), (5, .index 336), (0, .index 0), (1, .index 1000), (2, .index 1002), (3, .int 3)], [.int 2, .index 1002, .index 336, .index 0, .arg 4], [], [], [])]
def xwyV3B_rs : List yR := []
theorem xwyV3B_w : ywa xwyV3B_A xwyV3B_ss xwyV3B_rs = true := by decide +kernel
theorem xwyV3B_k : yis (yev xwyV3B_A 3000 60 129 [90] (81, [(6, .arg 6), (4, .arg 4), (5, .index 336), (0, .index 0), (1, .index 1000), (2, .index 1002), (3, .int 3)], [], xwyV3B_O, xwyV3B_C, [])) xwyV3B_ss xwyV3B_rs = true := by decide +kernel
def xwyV3B_r (v4_ v6 : Int32) (k_ : Nat) : Value := bif Nat.beq k_ 4 then .int v4_ else (bif Nat.beq k_ 6 then .int v6 else (.int 0))
def xwyV3B_s (a1000 a1002 : Nat) (n_ : Nat) : Nat := bif Nat.beq n_ 1000 then a1000 else (bif Nat.beq n_ 1002 then a1002 else (0))
theorem xwyV3B {h_ : xH} {a1000 a1002 : Nat} {v4_ v6 : Int32} (hs : sHp h_) (k1000 : bcq h_ a1000 6 2) (k1002 : bcq h_ a1002 6 2) : ∃ h', ysm h_ h' ∧ (((∀ a_ j_ : Nat, bpat h' a_ j_ = bpat h_ a_ j_) ∧ (bldD 60 129 81 [(6, .int v6), (4, .int v4_), (5, .index 336), (0, .index 0), (1, .index a1000), (2, .index a1002), (3, .int (3 : Int32))] [] h_ 90 [(6, .int v6), (4, .int v4_), (5, .index 336), (0, .index 0), (1, .index a1000), (2, .index a1002), (3, .int (3 : Int32))] [.int (2 : Int32), .index a1002, .index 336, .index 0, .int v4_] h'))) := by
  have hA : yas xwyV3B_A (xwyV3B_r v4_ v6) (yg (xwyV3B_s a1000 a1002)) := ⟨fun q_ hq => absurd hq List.not_mem_nil, fun q_ hq => absurd hq List.not_mem_nil, fun q_ hq => absurd hq List.not_mem_nil, fun n_ hn => yg_lo hn, fun q_ hq => absurd hq List.not_mem_nil⟩
  have Hs : ysh xwyV3B_A.1 (yg (xwyV3B_s a1000 a1002)) h_ := ysh_of2 hs (List.forall_mem_cons.mpr ⟨⟨by decide, k1000⟩, List.forall_mem_cons.mpr ⟨⟨by decide, k1002⟩, fun q_ hq => absurd hq List.not_mem_nil⟩⟩)
  have Ho : ymem (xwyV3B_r v4_ v6) (yg (xwyV3B_s a1000 a1002)) xwyV3B_O h_ := fun q_ hq => absurd hq List.not_mem_nil
  have HC : ∀ q_ ∈ xwyV3B_C, xhold (xwyV3B_r v4_ v6) q_ := fun q_ hq => absurd hq List.not_mem_nil
  rcases yrun (yis_ok xwyV3B_k) hA Hs Ho HC with ⟨q_, hq, h', K_, G_⟩ | ⟨q_, hq, h', K_, G_⟩
  · have e_ := List.mem_singleton.mp hq
    subst e_
    exact ⟨h', yfr_sm K_.2.2.2 hs K_.1 (ywa_s xwyV3B_w List.mem_cons_self), ⟨fun a_ j_ => yfr_bp K_.2.2.2 (fun q_ hq => absurd hq List.not_mem_nil), G_⟩⟩
  · cases hq
-- xwyW3B: 4 steps, 1 ends, 0 returns
def xwyW3B_L : List (Nat × Nat × Nat) := [(1000, 6, 2), (1002, 6, 2)]
def xwyW3B_O : yO := []
def xwyW3B_A : yA := (yZ xwyW3B_L, [], [], [], [])
def xwyW3B_C : List xB := []
def xwyW3B_ss : List yS := [(44, [(6, .add (.arg 6) (.int 1)), (4, .add (.arg 8) (.arg 7)), (5, .index 336), (0, .index 0), (1, .index 1000), (2, .index 1002), (3, .int 3)], [], [], [], [])]
def xwyW3B_rs : List yR := []
theorem xwyW3B_w : ywa xwyW3B_A xwyW3B_ss xwyW3B_rs = true := by decide +kernel
theorem xwyW3B_k : yis (yev xwyW3B_A 3000 60 129 [44] (93, [(6, .arg 6), (4, .arg 4), (5, .index 336), (0, .index 0), (1, .index 1000), (2, .index 1002), (3, .int 3)], [.arg 7, .arg 8], xwyW3B_O, xwyW3B_C, [])) xwyW3B_ss xwyW3B_rs = true := by decide +kernel
def xwyW3B_r (v4_ v6 v7 v8 : Int32) (k_ : Nat) : Value := bif Nat.beq k_ 4 then .int v4_ else (bif Nat.beq k_ 6 then .int v6 else (bif Nat.beq k_ 7 then .int v7 else (bif Nat.beq k_ 8 then .int v8 else (.int 0))))
def xwyW3B_s (a1000 a1002 : Nat) (n_ : Nat) : Nat := bif Nat.beq n_ 1000 then a1000 else (bif Nat.beq n_ 1002 then a1002 else (0))
theorem xwyW3B {h_ : xH} {a1000 a1002 : Nat} {v4_ v6 v7 v8 : Int32} (hs : sHp h_) (k1000 : bcq h_ a1000 6 2) (k1002 : bcq h_ a1002 6 2) : ∃ h', ysm h_ h' ∧ (((∀ a_ j_ : Nat, bpat h' a_ j_ = bpat h_ a_ j_) ∧ (bldD 60 129 93 [(6, .int v6), (4, .int v4_), (5, .index 336), (0, .index 0), (1, .index a1000), (2, .index a1002), (3, .int (3 : Int32))] [.int v7, .int v8] h_ 44 [(6, .int (v6 + (1 : Int32))), (4, .int (v8 + v7)), (5, .index 336), (0, .index 0), (1, .index a1000), (2, .index a1002), (3, .int (3 : Int32))] [] h'))) := by
  have hA : yas xwyW3B_A (xwyW3B_r v4_ v6 v7 v8) (yg (xwyW3B_s a1000 a1002)) := ⟨fun q_ hq => absurd hq List.not_mem_nil, fun q_ hq => absurd hq List.not_mem_nil, fun q_ hq => absurd hq List.not_mem_nil, fun n_ hn => yg_lo hn, fun q_ hq => absurd hq List.not_mem_nil⟩
  have Hs : ysh xwyW3B_A.1 (yg (xwyW3B_s a1000 a1002)) h_ := ysh_of2 hs (List.forall_mem_cons.mpr ⟨⟨by decide, k1000⟩, List.forall_mem_cons.mpr ⟨⟨by decide, k1002⟩, fun q_ hq => absurd hq List.not_mem_nil⟩⟩)
  have Ho : ymem (xwyW3B_r v4_ v6 v7 v8) (yg (xwyW3B_s a1000 a1002)) xwyW3B_O h_ := fun q_ hq => absurd hq List.not_mem_nil
  have HC : ∀ q_ ∈ xwyW3B_C, xhold (xwyW3B_r v4_ v6 v7 v8) q_ := fun q_ hq => absurd hq List.not_mem_nil
  rcases yrun (yis_ok xwyW3B_k) hA Hs Ho HC with ⟨q_, hq, h', K_, G_⟩ | ⟨q_, hq, h', K_, G_⟩
  · have e_ := List.mem_singleton.mp hq
    subst e_
    exact ⟨h', yfr_sm K_.2.2.2 hs K_.1 (ywa_s xwyW3B_w List.mem_cons_self), ⟨fun a_ j_ => yfr_bp K_.2.2.2 (fun q_ hq => absurd hq List.not_mem_nil), G_⟩⟩
  · cases hq
-- xwyX3B: 7 steps, 0 ends, 1 returns
def xwyX3B_L : List (Nat × Nat × Nat) := [(1000, 6, 2), (1002, 6, 2)]
def xwyX3B_O : yO := [(0, .int 0, .index 1), (1, .int 10, .arg 300)]
def xwyX3B_A : yA := (yZ xwyX3B_L, [], [], [], [])
def xwyX3B_C : List xB := [(.lt, .arg 6, .arg 300, false)]
def xwyX3B_ss : List yS := []
def xwyX3B_rs : List yR := [(some (.arg 4), [(0, .int 0, .index 1), (1, .int 10, .arg 300)], [(.lt, .arg 6, .arg 300, false)], [])]
theorem xwyX3B_w : ywa xwyX3B_A xwyX3B_ss xwyX3B_rs = true := by decide +kernel
theorem xwyX3B_k : yis (yev xwyX3B_A 3000 60 129 [] (44, [(6, .arg 6), (4, .arg 4), (5, .index 336), (0, .index 0), (1, .index 1000), (2, .index 1002), (3, .int 3)], [], xwyX3B_O, xwyX3B_C, [])) xwyX3B_ss xwyX3B_rs = true := by decide +kernel
def xwyX3B_r (v4_ v6 v300 : Int32) (k_ : Nat) : Value := bif Nat.beq k_ 4 then .int v4_ else (bif Nat.beq k_ 6 then .int v6 else (bif Nat.beq k_ 300 then .int v300 else (.int 0)))
def xwyX3B_s (a1000 a1002 : Nat) (n_ : Nat) : Nat := bif Nat.beq n_ 1000 then a1000 else (bif Nat.beq n_ 1002 then a1002 else (0))
theorem xwyX3B {h_ : xH} {a1000 a1002 : Nat} {v4_ v6 v300 : Int32} (hs : sHp h_) (k1000 : bcq h_ a1000 6 2) (k1002 : bcq h_ a1002 6 2) (o0_ : bpat h_ 1 10 = some (.int v300)) (c0_ : v300.toInt ≤ v6.toInt) : ∃ h', ysm h_ h' ∧ (((∀ a_ j_ : Nat, bpat h' a_ j_ = bpat h_ a_ j_) ∧ (∀ D_, 60 ≤ D_ → xrun D_ 129 44 [(6, .int v6), (4, .int v4_), (5, .index 336), (0, .index 0), (1, .index a1000), (2, .index a1002), (3, .int (3 : Int32))] [] h_ (some (.int v4_), h', [])))) := by
  have hA : yas xwyX3B_A (xwyX3B_r v4_ v6 v300) (yg (xwyX3B_s a1000 a1002)) := ⟨fun q_ hq => absurd hq List.not_mem_nil, fun q_ hq => absurd hq List.not_mem_nil, fun q_ hq => absurd hq List.not_mem_nil, fun n_ hn => yg_lo hn, fun q_ hq => absurd hq List.not_mem_nil⟩
  have Hs : ysh xwyX3B_A.1 (yg (xwyX3B_s a1000 a1002)) h_ := ysh_of2 hs (List.forall_mem_cons.mpr ⟨⟨by decide, k1000⟩, List.forall_mem_cons.mpr ⟨⟨by decide, k1002⟩, fun q_ hq => absurd hq List.not_mem_nil⟩⟩)
  have Ho : ymem (xwyX3B_r v4_ v6 v300) (yg (xwyX3B_s a1000 a1002)) xwyX3B_O h_ := List.forall_mem_cons.mpr ⟨bpat_some (fxr_at hs.2 (show fxk fxl 0 0 = some 1 by decide +kernel)), List.forall_mem_cons.mpr ⟨bpat_some o0_, fun q_ hq => absurd hq List.not_mem_nil⟩⟩
  have HC : ∀ q_ ∈ xwyX3B_C, xhold (xwyX3B_r v4_ v6 v300) q_ := List.forall_mem_cons.mpr ⟨xh_ltF c0_, fun q_ hq => absurd hq List.not_mem_nil⟩
  rcases yrun (yis_ok xwyX3B_k) hA Hs Ho HC with ⟨q_, hq, h', K_, G_⟩ | ⟨q_, hq, h', K_, G_⟩
  · cases hq
  · have e_ := List.mem_singleton.mp hq
    subst e_
    exact ⟨h', yfr_sm K_.2.2.2 hs K_.1 (ywa_r xwyX3B_w List.mem_cons_self), ⟨fun a_ j_ => yfr_bp K_.2.2.2 (fun q_ hq => absurd hq List.not_mem_nil), G_⟩⟩
-- xwaE: 141 steps, 1 ends, 6 returns
def xwaE_L : List (Nat × Nat × Nat) := []
def xwaE_O : yO := [(0, .int 0, .index 1), (1, .int 9, .arg 310), (0, .int 13, .index 323), (323, .int 1, .arg 400)]
def xwaE_A : yA := (yZ xwaE_L, [], [], [], [])
def xwaE_C : List xB := []
def xwaE_ss : List yS := [(31, [(0, .index 0), (1, .arg 1), (2, .arg 2), (3, .arg 3)], [], [(0, .int 0, .index 1), (1, .int 9, .arg 310), (0, .int 13, .index 323), (323, .int 1, .arg 400)], [(.le, .arg 3, .int 3, true), (.lt, .arg 3, .int 0, false), (.lt, .arg 2, .arg 310, true), (.lt, .arg 2, .int 0, false), (.lt, .arg 1, .arg 310, true), (.lt, .arg 1, .int 0, false)], [])]
def xwaE_rs : List yR := [(some (.int (Int32.ofInt (-1000001))), [(323, .int 1, .add (.arg 400) (.int 1)), (0, .int 0, .index 1), (1, .int 9, .arg 310), (0, .int 13, .index 323)], [(.lt, .arg 1, .int 0, true)], [(323, .int 1)]),
  (some (.int (Int32.ofInt (-1000001))), [(323, .int 1, .add (.arg 400) (.int 1)), (0, .int 0, .index 1), (1, .int 9, .arg 310), (0, .int 13, .index 323)], [(.lt, .arg 1, .arg 310, false), (.lt, .arg 1, .int 0, false)], [(323, .int 1)]),
  (some (.int (Int32.ofInt (-1000001))), [(323, .int 1, .add (.arg 400) (.int 1)), (0, .int 0, .index 1), (1, .int 9, .arg 310), (0, .int 13, .index 323)], [(.lt, .arg 2, .int 0, true), (.lt, .arg 1, .arg 310, true), (.lt, .arg 1, .int 0, false)], [(323, .int 1)]),
  (some (.int (Int32.ofInt (-1000001))), [(323, .int 1, .add (.arg 400) (.int 1)), (0, .int 0, .index 1), (1, .int 9, .arg 310), (0, .int 13, .index 323)], [(.lt, .arg 2, .arg 310, false), (.lt, .arg 2, .int 0, false), (.lt, .arg 1, .arg 310, true), (.lt, .arg 1, .int 0, false)], [(323, .int 1)]),
  (some (.int (Int32.ofInt (-1000001))), [(323, .int 1, .add (.arg 400) (.int 1)), (0, .int 0, .index 1), (1, .int 9, .arg 310), (0, .int 13, .index 323)], [(.lt, .arg 3, .int 0, true), (.lt, .arg 2, .arg 310, true), (.lt, .arg 2, .int 0, false), (.lt, .arg 1, .arg 310, true), (.lt, .arg 1, .int 0, false)], [(323, .int 1)]),
  (some (.int (Int32.ofInt (-1000001))), [(323, .int 1, .add (.arg 400) (.int 1)), (0, .int 0, .index 1), (1, .int 9, .arg 310), (0, .int 13, .index 323)], [(.le, .arg 3, .int 3, false), (.lt, .arg 3, .int 0, false), (.lt, .arg 2, .arg 310, true), (.lt, .arg 2, .int 0, false), (.lt, .arg 1, .arg 310, true), (.lt, .arg 1, .int 0, false)], [(323, .int 1)])]
theorem xwaE_w : ywa xwaE_A xwaE_ss xwaE_rs = true := by decide +kernel
theorem xwaE_k : yis (yev xwaE_A 3000 60 92 [31] (0, [(0, .index 0), (1, .arg 1), (2, .arg 2), (3, .arg 3)], [], xwaE_O, xwaE_C, [])) xwaE_ss xwaE_rs = true := by decide +kernel
def xwaE_r (v1_ v2 v3 v310 v400 : Int32) (k_ : Nat) : Value := bif Nat.beq k_ 1 then .int v1_ else (bif Nat.beq k_ 2 then .int v2 else (bif Nat.beq k_ 3 then .int v3 else (bif Nat.beq k_ 310 then .int v310 else (bif Nat.beq k_ 400 then .int v400 else (.int 0)))))
def xwaE_s (n_ : Nat) : Nat := 0
theorem xwaE {h_ : xH} {v1_ v2 v3 v310 v400 : Int32} (hs : sHp h_) (o0_ : bpat h_ 1 9 = some (.int v310)) (o1 : bpat h_ 323 1 = some (.int v400)) : ∃ h', ysm h_ h' ∧ (((v3.toInt ≤ (3 : Int32).toInt) ∧ ((0 : Int32).toInt ≤ v3.toInt) ∧ (v2.toInt < v310.toInt) ∧ ((0 : Int32).toInt ≤ v2.toInt) ∧ (v1_.toInt < v310.toInt) ∧ ((0 : Int32).toInt ≤ v1_.toInt) ∧ (∀ a_ j_ : Nat, bpat h' a_ j_ = bpat h_ a_ j_) ∧ (bldD 60 92 0 [(0, .index 0), (1, .int v1_), (2, .int v2), (3, .int v3)] [] h_ 31 [(0, .index 0), (1, .int v1_), (2, .int v2), (3, .int v3)] [] h'))
  ∨ ((v1_.toInt < (0 : Int32).toInt) ∧ (bpat h' 323 1 = some (.int (v400 + (1 : Int32)))) ∧ (∀ a_ j_ : Nat, ¬ (a_ = 323 ∧ j_ = 1) → bpat h' a_ j_ = bpat h_ a_ j_) ∧ (∀ D_, 60 ≤ D_ → xrun D_ 92 0 [(0, .index 0), (1, .int v1_), (2, .int v2), (3, .int v3)] [] h_ (some (.int (Int32.ofInt (-1000001))), h', [])))
  ∨ ((v310.toInt ≤ v1_.toInt) ∧ ((0 : Int32).toInt ≤ v1_.toInt) ∧ (bpat h' 323 1 = some (.int (v400 + (1 : Int32)))) ∧ (∀ a_ j_ : Nat, ¬ (a_ = 323 ∧ j_ = 1) → bpat h' a_ j_ = bpat h_ a_ j_) ∧ (∀ D_, 60 ≤ D_ → xrun D_ 92 0 [(0, .index 0), (1, .int v1_), (2, .int v2), (3, .int v3)] [] h_ (some (.int (Int32.ofInt (-1000001))), h', [])))
  ∨ ((v2.toInt < (0 : Int32).toInt) ∧ (v1_.toInt < v310.toInt) ∧ ((0 : Int32).toInt ≤ v1_.toInt) ∧ (bpat h' 323 1 = some (.int (v400 + (1 : Int32)))) ∧ (∀ a_ j_ : Nat, ¬ (a_ = 323 ∧ j_ = 1) → bpat h' a_ j_ = bpat h_ a_ j_) ∧ (∀ D_, 60 ≤ D_ → xrun D_ 92 0 [(0, .index 0), (1, .int v1_), (2, .int v2), (3, .int v3)] [] h_ (some (.int (Int32.ofInt (-1000001))), h', [])))
  ∨ ((v310.toInt ≤ v2.toInt) ∧ ((0 : Int32).toInt ≤ v2.toInt) ∧ (v1_.toInt < v310.toInt) ∧ ((0 : Int32).toInt ≤ v1_.toInt) ∧ (bpat h' 323 1 = some (.int (v400 + (1 : Int32)))) ∧ (∀ a_ j_ : Nat, ¬ (a_ = 323 ∧ j_ = 1) → bpat h' a_ j_ = bpat h_ a_ j_) ∧ (∀ D_, 60 ≤ D_ → xrun D_ 92 0 [(0, .index 0), (1, .int v1_), (2, .int v2), (3, .int v3)] [] h_ (some (.int (Int32.ofInt (-1000001))), h', [])))
  ∨ ((v3.toInt < (0 : Int32).toInt) ∧ (v2.toInt < v310.toInt) ∧ ((0 : Int32).toInt ≤ v2.toInt) ∧ (v1_.toInt < v310.toInt) ∧ ((0 : Int32).toInt ≤ v1_.toInt) ∧ (bpat h' 323 1 = some (.int (v400 + (1 : Int32)))) ∧ (∀ a_ j_ : Nat, ¬ (a_ = 323 ∧ j_ = 1) → bpat h' a_ j_ = bpat h_ a_ j_) ∧ (∀ D_, 60 ≤ D_ → xrun D_ 92 0 [(0, .index 0), (1, .int v1_), (2, .int v2), (3, .int v3)] [] h_ (some (.int (Int32.ofInt (-1000001))), h', [])))
  ∨ (((3 : Int32).toInt < v3.toInt) ∧ ((0 : Int32).toInt ≤ v3.toInt) ∧ (v2.toInt < v310.toInt) ∧ ((0 : Int32).toInt ≤ v2.toInt) ∧ (v1_.toInt < v310.toInt) ∧ ((0 : Int32).toInt ≤ v1_.toInt) ∧ (bpat h' 323 1 = some (.int (v400 + (1 : Int32)))) ∧ (∀ a_ j_ : Nat, ¬ (a_ = 323 ∧ j_ = 1) → bpat h' a_ j_ = bpat h_ a_ j_) ∧ (∀ D_, 60 ≤ D_ → xrun D_ 92 0 [(0, .index 0), (1, .int v1_), (2, .int v2), (3, .int v3)] [] h_ (some (.int (Int32.ofInt (-1000001))), h', [])))) := by
  have hA : yas xwaE_A (xwaE_r v1_ v2 v3 v310 v400) (yg xwaE_s) := ⟨fun q_ hq => absurd hq List.not_mem_nil, fun q_ hq => absurd hq List.not_mem_nil, fun q_ hq => absurd hq List.not_mem_nil, fun n_ hn => yg_lo hn, fun q_ hq => absurd hq List.not_mem_nil⟩
  have Hs : ysh xwaE_A.1 (yg xwaE_s) h_ := ysh_of2 hs (fun q_ hq => absurd hq List.not_mem_nil)
  have Ho : ymem (xwaE_r v1_ v2 v3 v310 v400) (yg xwaE_s) xwaE_O h_ := List.forall_mem_cons.mpr ⟨bpat_some (fxr_at hs.2 (show fxk fxl 0 0 = some 1 by decide +kernel)), List.forall_mem_cons.mpr ⟨bpat_some o0_, List.forall_mem_cons.mpr ⟨bpat_some (fxr_at hs.2 (show fxk fxl 0 13 = some 323 by decide +kernel)), List.forall_mem_cons.mpr ⟨bpat_some o1, fun q_ hq => absurd hq List.not_mem_nil⟩⟩⟩⟩
  have HC : ∀ q_ ∈ xwaE_C, xhold (xwaE_r v1_ v2 v3 v310 v400) q_ := fun q_ hq => absurd hq List.not_mem_nil
  rcases yrun (yis_ok xwaE_k) hA Hs Ho HC with ⟨q_, hq, h', K_, G_⟩ | ⟨q_, hq, h', K_, G_⟩
  · have e_ := List.mem_singleton.mp hq
    subst e_
    exact ⟨h', yfr_sm K_.2.2.2 hs K_.1 (ywa_s xwaE_w List.mem_cons_self), Or.inl (⟨xq_leT rfl rfl (K_.2.2.1 _ List.mem_cons_self), xq_ltF rfl rfl (K_.2.2.1 _ (List.mem_cons_of_mem _ List.mem_cons_self)), xq_ltT rfl rfl (K_.2.2.1 _ (List.mem_cons_of_mem _ (List.mem_cons_of_mem _ List.mem_cons_self))), xq_ltF rfl rfl (K_.2.2.1 _ (List.mem_cons_of_mem _ (List.mem_cons_of_mem _ (List.mem_cons_of_mem _ List.mem_cons_self)))), xq_ltT rfl rfl (K_.2.2.1 _ (List.mem_cons_of_mem _ (List.mem_cons_of_mem _ (List.mem_cons_of_mem _ (List.mem_cons_of_mem _ List.mem_cons_self))))), xq_ltF rfl rfl (K_.2.2.1 _ (List.mem_cons_of_mem _ (List.mem_cons_of_mem _ (List.mem_cons_of_mem _ (List.mem_cons_of_mem _ (List.mem_cons_of_mem _ List.mem_cons_self)))))), fun a_ j_ => yfr_bp K_.2.2.2 (fun q_ hq => absurd hq List.not_mem_nil), G_⟩)⟩
  · rcases List.mem_cons.mp hq with e_ | hq
    · subst e_
      exact ⟨h', yfr_sm K_.2.2.2 hs K_.1 (ywa_r xwaE_w List.mem_cons_self), Or.inr (Or.inl (⟨xq_ltT rfl rfl (K_.2.2.1 _ List.mem_cons_self), bpat_of (K_.2.1 _ List.mem_cons_self), fun a_ j_ n0_ => yfr_bp K_.2.2.2 (List.forall_mem_cons.mpr ⟨fun e_ => n0_ ⟨e_.1.symm, e_.2.symm⟩, fun q_ hq => absurd hq List.not_mem_nil⟩), G_⟩))⟩
    rcases List.mem_cons.mp hq with e_ | hq
    · subst e_
      exact ⟨h', yfr_sm K_.2.2.2 hs K_.1 (ywa_r xwaE_w (List.mem_cons_of_mem _ List.mem_cons_self)), Or.inr (Or.inr (Or.inl (⟨xq_ltF rfl rfl (K_.2.2.1 _ List.mem_cons_self), xq_ltF rfl rfl (K_.2.2.1 _ (List.mem_cons_of_mem _ List.mem_cons_self)), bpat_of (K_.2.1 _ List.mem_cons_self), fun a_ j_ n0_ => yfr_bp K_.2.2.2 (List.forall_mem_cons.mpr ⟨fun e_ => n0_ ⟨e_.1.symm, e_.2.symm⟩, fun q_ hq => absurd hq List.not_mem_nil⟩), G_⟩)))⟩
    rcases List.mem_cons.mp hq with e_ | hq
    · subst e_
      exact ⟨h', yfr_sm K_.2.2.2 hs K_.1 (ywa_r xwaE_w (List.mem_cons_of_mem _ (List.mem_cons_of_mem _ List.mem_cons_self))), Or.inr (Or.inr (Or.inr (Or.inl (⟨xq_ltT rfl rfl (K_.2.2.1 _ List.mem_cons_self), xq_ltT rfl rfl (K_.2.2.1 _ (List.mem_cons_of_mem _ List.mem_cons_self)), xq_ltF rfl rfl (K_.2.2.1 _ (List.mem_cons_of_mem _ (List.mem_cons_of_mem _ List.mem_cons_self))), bpat_of (K_.2.1 _ List.mem_cons_self), fun a_ j_ n0_ => yfr_bp K_.2.2.2 (List.forall_mem_cons.mpr ⟨fun e_ => n0_ ⟨e_.1.symm, e_.2.symm⟩, fun q_ hq => absurd hq List.not_mem_nil⟩), G_⟩))))⟩
    rcases List.mem_cons.mp hq with e_ | hq
    · subst e_
      exact ⟨h', yfr_sm K_.2.2.2 hs K_.1 (ywa_r xwaE_w (List.mem_cons_of_mem _ (List.mem_cons_of_mem _ (List.mem_cons_of_mem _ List.mem_cons_self)))), Or.inr (Or.inr (Or.inr (Or.inr (Or.inl (⟨xq_ltF rfl rfl (K_.2.2.1 _ List.mem_cons_self), xq_ltF rfl rfl (K_.2.2.1 _ (List.mem_cons_of_mem _ List.mem_cons_self)), xq_ltT rfl rfl (K_.2.2.1 _ (List.mem_cons_of_mem _ (List.mem_cons_of_mem _ List.mem_cons_self))), xq_ltF rfl rfl (K_.2.2.1 _ (List.mem_cons_of_mem _ (List.mem_cons_of_mem _ (List.mem_cons_of_mem _ List.mem_cons_self)))), bpat_of (K_.2.1 _ List.mem_cons_self), fun a_ j_ n0_ => yfr_bp K_.2.2.2 (List.forall_mem_cons.mpr ⟨fun e_ => n0_ ⟨e_.1.symm, e_.2.symm⟩, fun q_ hq => absurd hq List.not_mem_nil⟩), G_⟩)))))⟩
    rcases List.mem_cons.mp hq with e_ | hq
    · subst e_
      exact ⟨h', yfr_sm K_.2.2.2 hs K_.1 (ywa_r xwaE_w (List.mem_cons_of_mem _ (List.mem_cons_of_mem _ (List.mem_cons_of_mem _ (List.mem_cons_of_mem _ List.mem_cons_self))))), Or.inr (Or.inr (Or.inr (Or.inr (Or.inr (Or.inl (⟨xq_ltT rfl rfl (K_.2.2.1 _ List.mem_cons_self), xq_ltT rfl rfl (K_.2.2.1 _ (List.mem_cons_of_mem _ List.mem_cons_self)), xq_ltF rfl rfl (K_.2.2.1 _ (List.mem_cons_of_mem _ (List.mem_cons_of_mem _ List.mem_cons_self))), xq_ltT rfl rfl (K_.2.2.1 _ (List.mem_cons_of_mem _ (List.mem_cons_of_mem _ (List.mem_cons_of_mem _ List.mem_cons_self)))), xq_ltF rfl rfl (K_.2.2.1 _ (List.mem_cons_of_mem _ (List.mem_cons_of_mem _ (List.mem_cons_of_mem _ (List.mem_cons_of_mem _ List.mem_cons_self))))), bpat_of (K_.2.1 _ List.mem_cons_self), fun a_ j_ n0_ => yfr_bp K_.2.2.2 (List.forall_mem_cons.mpr ⟨fun e_ => n0_ ⟨e_.1.symm, e_.2.symm⟩, fun q_ hq => absurd hq List.not_mem_nil⟩), G_⟩))))))⟩
    have e_ := List.mem_singleton.mp hq
    subst e_
    exact ⟨h', yfr_sm K_.2.2.2 hs K_.1 (ywa_r xwaE_w (List.mem_cons_of_mem _ (List.mem_cons_of_mem _ (List.mem_cons_of_mem _ (List.mem_cons_of_mem _ (List.mem_cons_of_mem _ List.mem_cons_self)))))), Or.inr (Or.inr (Or.inr (Or.inr (Or.inr (Or.inr (⟨xq_leF rfl rfl (K_.2.2.1 _ List.mem_cons_self), xq_ltF rfl rfl (K_.2.2.1 _ (List.mem_cons_of_mem _ List.mem_cons_self)), xq_ltT rfl rfl (K_.2.2.1 _ (List.mem_cons_of_mem _ (List.mem_cons_of_mem _ List.mem_cons_self))), xq_ltF rfl rfl (K_.2.2.1 _ (List.mem_cons_of_mem _ (List.mem_cons_of_mem _ (List.mem_cons_of_mem _ List.mem_cons_self)))), xq_ltT rfl rfl (K_.2.2.1 _ (List.mem_cons_of_mem _ (List.mem_cons_of_mem _ (List.mem_cons_of_mem _ (List.mem_cons_of_mem _ List.mem_cons_self))))), xq_ltF rfl rfl (K_.2.2.1 _ (List.mem_cons_of_mem _ (List.mem_cons_of_mem _ (List.mem_cons_of_mem _ (List.mem_cons_of_mem _ (List.mem_cons_of_mem _ List.mem_cons_self)))))), bpat_of (K_.2.1 _ List.mem_cons_self), fun a_ j_ n0_ => yfr_bp K_.2.2.2 (List.forall_mem_cons.mpr ⟨fun e_ => n0_ ⟨e_.1.symm, e_.2.symm⟩, fun q_ hq => absurd hq List.not_mem_nil⟩), G_⟩))))))⟩
-- xwaG: 12 steps, 1 ends, 0 returns
def xwaG_L : List (Nat × Nat × Nat) := [(1000, 6, 2), (1002, 6, 2)]
def xwaG_O : yO := [(0, .int 0, .index 1), (1, .int 0, .index 2), (2, .arg 1, .index 1000), (2, .arg 2, .index 1002)]
def xwaG_A : yA := (yZ xwaG_L, [(.arg 1, 12), (.arg 2, 12)], [], [], [])
def xwaG_C : List xB := []
def xwaG_ss : List yS := [(51, [(0, .index 0), (1, .arg 1), (2, .arg 2), (3, .arg 3)], [.arg 3, .index 1002, .index 1000, .index 0], [(0, .int 0, .index 1), (1, .int 0, .index 2), (2, .arg 1, .index 1000), (2, .arg 2, .index 1002)], [], [])]
def xwaG_rs : List yR := []
theorem xwaG_w : ywa xwaG_A xwaG_ss xwaG_rs = true := by decide +kernel
theorem xwaG_k : yis (yev xwaG_A 3000 60 92 [51] (31, [(0, .index 0), (1, .arg 1), (2, .arg 2), (3, .arg 3)], [], xwaG_O, xwaG_C, [])) xwaG_ss xwaG_rs = true := by decide +kernel
def xwaG_r (v1_ v2 v3 : Int32) (k_ : Nat) : Value := bif Nat.beq k_ 1 then .int v1_ else (bif Nat.beq k_ 2 then .int v2 else (bif Nat.beq k_ 3 then .int v3 else (.int 0)))
def xwaG_s (a1000 a1002 : Nat) (n_ : Nat) : Nat := bif Nat.beq n_ 1000 then a1000 else (bif Nat.beq n_ 1002 then a1002 else (0))
theorem xwaG {h_ : xH} {a1000 a1002 : Nat} {v1_ v2 v3 : Int32} (hs : sHp h_) (k1000 : bcq h_ a1000 6 2) (k1002 : bcq h_ a1002 6 2) (o0_ : bpat h_ 2 (v1_).toInt.toNat = some (.index a1000)) (o1 : bpat h_ 2 (v2).toInt.toNat = some (.index a1002)) (b0 : 0 ≤ (v1_).toInt ∧ (v1_).toInt < 12) (b1 : 0 ≤ (v2).toInt ∧ (v2).toInt < 12) : ∃ h', ysm h_ h' ∧ (((∀ a_ j_ : Nat, bpat h' a_ j_ = bpat h_ a_ j_) ∧ (bldD 60 92 31 [(0, .index 0), (1, .int v1_), (2, .int v2), (3, .int v3)] [] h_ 51 [(0, .index 0), (1, .int v1_), (2, .int v2), (3, .int v3)] [.int v3, .index a1002, .index a1000, .index 0] h'))) := by
  have hA : yas xwaG_A (xwaG_r v1_ v2 v3) (yg (xwaG_s a1000 a1002)) := ⟨List.forall_mem_cons.mpr ⟨b0, List.forall_mem_cons.mpr ⟨b1, fun q_ hq => absurd hq List.not_mem_nil⟩⟩, fun q_ hq => absurd hq List.not_mem_nil, fun q_ hq => absurd hq List.not_mem_nil, fun n_ hn => yg_lo hn, fun q_ hq => absurd hq List.not_mem_nil⟩
  have Hs : ysh xwaG_A.1 (yg (xwaG_s a1000 a1002)) h_ := ysh_of2 hs (List.forall_mem_cons.mpr ⟨⟨by decide, k1000⟩, List.forall_mem_cons.mpr ⟨⟨by decide, k1002⟩, fun q_ hq => absurd hq List.not_mem_nil⟩⟩)
  have Ho : ymem (xwaG_r v1_ v2 v3) (yg (xwaG_s a1000 a1002)) xwaG_O h_ := List.forall_mem_cons.mpr ⟨bpat_some (fxr_at hs.2 (show fxk fxl 0 0 = some 1 by decide +kernel)), List.forall_mem_cons.mpr ⟨bpat_some (fxr_at hs.2 (show fxk fxl 1 0 = some 2 by decide +kernel)), List.forall_mem_cons.mpr ⟨bpat_some o0_, List.forall_mem_cons.mpr ⟨bpat_some o1, fun q_ hq => absurd hq List.not_mem_nil⟩⟩⟩⟩
  have HC : ∀ q_ ∈ xwaG_C, xhold (xwaG_r v1_ v2 v3) q_ := fun q_ hq => absurd hq List.not_mem_nil
  rcases yrun (yis_ok xwaG_k) hA Hs Ho HC with ⟨q_, hq, h', K_, G_⟩ | ⟨q_, hq, h', K_, G_⟩
  · have e_ := List.mem_singleton.mp hq
    subst e_
    exact ⟨h', yfr_sm K_.2.2.2 hs K_.1 (ywa_s xwaG_w List.mem_cons_self), ⟨fun a_ j_ => yfr_bp K_.2.2.2 (fun q_ hq => absurd hq List.not_mem_nil), G_⟩⟩
  · cases hq
-- xwaR: 1 steps, 0 ends, 1 returns
def xwaR_L : List (Nat × Nat × Nat) := []
def xwaR_O : yO := []
def xwaR_A : yA := (yZ xwaR_L, [], [], [], [])
def xwaR_C : List xB := []
def xwaR_ss : List yS := []
def xwaR_rs : List yR := [(some (.arg 5), [], [], [])]
theorem xwaR_w : ywa xwaR_A xwaR_ss xwaR_rs = true := by decide +kernel
theorem xwaR_k : yis (yev xwaR_A 3000 60 92 [] (54, [(0, .index 0), (1, .arg 1), (2, .arg 2), (3, .arg 3)], [.arg 5], xwaR_O, xwaR_C, [])) xwaR_ss xwaR_rs = true := by decide +kernel
def xwaR_r (v1_ v2 v3 v5 : Int32) (k_ : Nat) : Value := bif Nat.beq k_ 1 then .int v1_ else (bif Nat.beq k_ 2 then .int v2 else (bif Nat.beq k_ 3 then .int v3 else (bif Nat.beq k_ 5 then .int v5 else (.int 0))))
def xwaR_s (n_ : Nat) : Nat := 0
theorem xwaR {h_ : xH} {v1_ v2 v3 v5 : Int32} (hs : sHp h_) : ∃ h', ysm h_ h' ∧ (((∀ a_ j_ : Nat, bpat h' a_ j_ = bpat h_ a_ j_) ∧ (∀ D_, 60 ≤ D_ → xrun D_ 92 54 [(0, .index 0), (1, .int v1_), (2, .int v2), (3, .int v3)] [.int v5] h_ (some (.int v5), h', [])))) := by
  have hA : yas xwaR_A (xwaR_r v1_ v2 v3 v5) (yg xwaR_s) := ⟨fun q_ hq => absurd hq List.not_mem_nil, fun q_ hq => absurd hq List.not_mem_nil, fun q_ hq => absurd hq List.not_mem_nil, fun n_ hn => yg_lo hn, fun q_ hq => absurd hq List.not_mem_nil⟩
  have Hs : ysh xwaR_A.1 (yg xwaR_s) h_ := ysh_of2 hs (fun q_ hq => absurd hq List.not_mem_nil)
  have Ho : ymem (xwaR_r v1_ v2 v3 v5) (yg xwaR_s) xwaR_O h_ := fun q_ hq => absurd hq List.not_mem_nil
  have HC : ∀ q_ ∈ xwaR_C, xhold (xwaR_r v1_ v2 v3 v5) q_ := fun q_ hq => absurd hq List.not_mem_nil
  rcases yrun (yis_ok xwaR_k) hA Hs Ho HC with ⟨q_, hq, h', K_, G_⟩ | ⟨q_, hq, h', K_, G_⟩
  · cases hq
  · have e_ := List.mem_singleton.mp hq
    subst e_
    exact ⟨h', yfr_sm K_.2.2.2 hs K_.1 (ywa_r xwaR_w List.mem_cons_self), ⟨fun a_ j_ => yfr_bp K_.2.2.2 (fun q_ hq => absurd hq List.not_mem_nil), G_⟩⟩
-- mwaE: 178 steps, 1 ends, 6 returns
def mwaE_L : List (Nat × Nat × Nat) := []
def mwaE_O : yO := [(338, .int 0, .index 339), (339, .int 0, .arg 310), (338, .int 3, .index 341), (341, .int 1, .arg 400)]
def mwaE_A : yA := (yZ mwaE_L, [], [], [], [])
def mwaE_C : List xB := []
def mwaE_ss : List yS := [(31, [(0, .index 338), (1, .arg 1), (2, .arg 2), (3, .arg 3)], [], [(338, .int 0, .index 339), (339, .int 0, .arg 310), (338, .int 3, .index 341), (341, .int 1, .arg 400)], [(.le, .arg 3, .int 3, true), (.lt, .arg 3, .int 0, false), (.le, .arg 2, .sub (.arg 310) (.int 1), true), (.lt, .arg 2, .int 0, false), (.le, .arg 1, .sub (.arg 310) (.int 1), true), (.lt, .arg 1, .int 0, false)], [])]
def mwaE_rs : List yR := [(some (.int (Int32.ofInt (-1000001))), [(341, .int 1, .add (.arg 400) (.int 1)), (338, .int 0, .index 339), (339, .int 0, .arg 310), (338, .int 3, .index 341)], [(.lt, .arg 1, .int 0, true)], [(341, .int 1)]),
  (some (.int (Int32.ofInt (-1000001))), [(341, .int 1, .add (.arg 400) (.int 1)), (338, .int 0, .index 339), (339, .int 0, .arg 310), (338, .int 3, .index 341)], [(.le, .arg 1, .sub (.arg 310) (.int 1), false), (.lt, .arg 1, .int 0, false)], [(341, .int 1)]),
  (some (.int (Int32.ofInt (-1000001))), [(341, .int 1, .add (.arg 400) (.int 1)), (338, .int 0, .index 339), (339, .int 0, .arg 310), (338, .int 3, .index 341)], [(.lt, .arg 2, .int 0, true), (.le, .arg 1, .sub (.arg 310) (.int 1), true), (.lt, .arg 1, .int 0, false)], [(341, .int 1)]),
  (some (.int (Int32.ofInt (-1000001))), [(341, .int 1, .add (.arg 400) (.int 1)), (338, .int 0, .index 339), (339, .int 0, .arg 310), (338, .int 3, .index 341)], [(.le, .arg 2, .sub (.arg 310) (.int 1), false), (.lt, .arg 2, .int 0, false), (.le, .arg 1, .sub (.arg 310) (.int 1), true), (.lt, .arg 1, .int 0, false)], [(341, .int 1)]),
  (some (.int (Int32.ofInt (-1000001))), [(341, .int 1, .add (.arg 400) (.int 1)), (338, .int 0, .index 339), (339, .int 0, .arg 310), (338, .int 3, .index 341)], [(.lt, .arg 3, .int 0, true), (.le, .arg 2, .sub (.arg 310) (.int 1), true), (.lt, .arg 2, .int 0, false), (.le, .arg 1, .sub (.arg 310) (.int 1), true), (.lt, .arg 1, .int 0, false)], [(341, .int 1)]),
  (some (.int (Int32.ofInt (-1000001))), [(341, .int 1, .add (.arg 400) (.int 1)), (338, .int 0, .index 339), (339, .int 0, .arg 310), (338, .int 3, .index 341)], [(.le, .arg 3, .int 3, false), (.lt, .arg 3, .int 0, false), (.le, .arg 2, .sub (.arg 310) (.int 1), true), (.lt, .arg 2, .int 0, false), (.le, .arg 1, .sub (.arg 310) (.int 1), true), (.lt, .arg 1, .int 0, false)], [(341, .int 1)])]
theorem mwaE_w : ywa mwaE_A mwaE_ss mwaE_rs = true := by decide +kernel
theorem mwaE_k : yis (yev mwaE_A 3000 60 194 [31] (0, [(0, .index 338), (1, .arg 1), (2, .arg 2), (3, .arg 3)], [], mwaE_O, mwaE_C, [])) mwaE_ss mwaE_rs = true := by decide +kernel
def mwaE_r (v1_ v2 v3 v310 v400 : Int32) (k_ : Nat) : Value := bif Nat.beq k_ 1 then .int v1_ else (bif Nat.beq k_ 2 then .int v2 else (bif Nat.beq k_ 3 then .int v3 else (bif Nat.beq k_ 310 then .int v310 else (bif Nat.beq k_ 400 then .int v400 else (.int 0)))))
def mwaE_s (n_ : Nat) : Nat := 0
theorem mwaE {h_ : xH} {v1_ v2 v3 v310 v400 : Int32} (hs : sHp h_) (o0_ : bpat h_ 339 0 = some (.int v310)) (o1 : bpat h_ 341 1 = some (.int v400)) : ∃ h', ysm h_ h' ∧ (((v3.toInt ≤ (3 : Int32).toInt) ∧ ((0 : Int32).toInt ≤ v3.toInt) ∧ (v2.toInt ≤ (v310 - (1 : Int32)).toInt) ∧ ((0 : Int32).toInt ≤ v2.toInt) ∧ (v1_.toInt ≤ (v310 - (1 : Int32)).toInt) ∧ ((0 : Int32).toInt ≤ v1_.toInt) ∧ (∀ a_ j_ : Nat, bpat h' a_ j_ = bpat h_ a_ j_) ∧ (bldD 60 194 0 [(0, .index 338), (1, .int v1_), (2, .int v2), (3, .int v3)] [] h_ 31 [(0, .index 338), (1, .int v1_), (2, .int v2), (3, .int v3)] [] h'))
  ∨ ((v1_.toInt < (0 : Int32).toInt) ∧ (bpat h' 341 1 = some (.int (v400 + (1 : Int32)))) ∧ (∀ a_ j_ : Nat, ¬ (a_ = 341 ∧ j_ = 1) → bpat h' a_ j_ = bpat h_ a_ j_) ∧ (∀ D_, 60 ≤ D_ → xrun D_ 194 0 [(0, .index 338), (1, .int v1_), (2, .int v2), (3, .int v3)] [] h_ (some (.int (Int32.ofInt (-1000001))), h', [])))
  ∨ (((v310 - (1 : Int32)).toInt < v1_.toInt) ∧ ((0 : Int32).toInt ≤ v1_.toInt) ∧ (bpat h' 341 1 = some (.int (v400 + (1 : Int32)))) ∧ (∀ a_ j_ : Nat, ¬ (a_ = 341 ∧ j_ = 1) → bpat h' a_ j_ = bpat h_ a_ j_) ∧ (∀ D_, 60 ≤ D_ → xrun D_ 194 0 [(0, .index 338), (1, .int v1_), (2, .int v2), (3, .int v3)] [] h_ (some (.int (Int32.ofInt (-1000001))), h', [])))
  ∨ ((v2.toInt < (0 : Int32).toInt) ∧ (v1_.toInt ≤ (v310 - (1 : Int32)).toInt) ∧ ((0 : Int32).toInt ≤ v1_.toInt) ∧ (bpat h' 341 1 = some (.int (v400 + (1 : Int32)))) ∧ (∀ a_ j_ : Nat, ¬ (a_ = 341 ∧ j_ = 1) → bpat h' a_ j_ = bpat h_ a_ j_) ∧ (∀ D_, 60 ≤ D_ → xrun D_ 194 0 [(0, .index 338), (1, .int v1_), (2, .int v2), (3, .int v3)] [] h_ (some (.int (Int32.ofInt (-1000001))), h', [])))
  ∨ (((v310 - (1 : Int32)).toInt < v2.toInt) ∧ ((0 : Int32).toInt ≤ v2.toInt) ∧ (v1_.toInt ≤ (v310 - (1 : Int32)).toInt) ∧ ((0 : Int32).toInt ≤ v1_.toInt) ∧ (bpat h' 341 1 = some (.int (v400 + (1 : Int32)))) ∧ (∀ a_ j_ : Nat, ¬ (a_ = 341 ∧ j_ = 1) → bpat h' a_ j_ = bpat h_ a_ j_) ∧ (∀ D_, 60 ≤ D_ → xrun D_ 194 0 [(0, .index 338), (1, .int v1_), (2, .int v2), (3, .int v3)] [] h_ (some (.int (Int32.ofInt (-1000001))), h', [])))
  ∨ ((v3.toInt < (0 : Int32).toInt) ∧ (v2.toInt ≤ (v310 - (1 : Int32)).toInt) ∧ ((0 : Int32).toInt ≤ v2.toInt) ∧ (v1_.toInt ≤ (v310 - (1 : Int32)).toInt) ∧ ((0 : Int32).toInt ≤ v1_.toInt) ∧ (bpat h' 341 1 = some (.int (v400 + (1 : Int32)))) ∧ (∀ a_ j_ : Nat, ¬ (a_ = 341 ∧ j_ = 1) → bpat h' a_ j_ = bpat h_ a_ j_) ∧ (∀ D_, 60 ≤ D_ → xrun D_ 194 0 [(0, .index 338), (1, .int v1_), (2, .int v2), (3, .int v3)] [] h_ (some (.int (Int32.ofInt (-1000001))), h', [])))
  ∨ (((3 : Int32).toInt < v3.toInt) ∧ ((0 : Int32).toInt ≤ v3.toInt) ∧ (v2.toInt ≤ (v310 - (1 : Int32)).toInt) ∧ ((0 : Int32).toInt ≤ v2.toInt) ∧ (v1_.toInt ≤ (v310 - (1 : Int32)).toInt) ∧ ((0 : Int32).toInt ≤ v1_.toInt) ∧ (bpat h' 341 1 = some (.int (v400 + (1 : Int32)))) ∧ (∀ a_ j_ : Nat, ¬ (a_ = 341 ∧ j_ = 1) → bpat h' a_ j_ = bpat h_ a_ j_) ∧ (∀ D_, 60 ≤ D_ → xrun D_ 194 0 [(0, .index 338), (1, .int v1_), (2, .int v2), (3, .int v3)] [] h_ (some (.int (Int32.ofInt (-1000001))), h', [])))) := by
  have hA : yas mwaE_A (mwaE_r v1_ v2 v3 v310 v400) (yg mwaE_s) := ⟨fun q_ hq => absurd hq List.not_mem_nil, fun q_ hq => absurd hq List.not_mem_nil, fun q_ hq => absurd hq List.not_mem_nil, fun n_ hn => yg_lo hn, fun q_ hq => absurd hq List.not_mem_nil⟩
  have Hs : ysh mwaE_A.1 (yg mwaE_s) h_ := ysh_of2 hs (fun q_ hq => absurd hq List.not_mem_nil)
  have Ho : ymem (mwaE_r v1_ v2 v3 v310 v400) (yg mwaE_s) mwaE_O h_ := List.forall_mem_cons.mpr ⟨bpat_some (fxr_at hs.2 (show fxk fxl 338 0 = some 339 by decide +kernel)), List.forall_mem_cons.mpr ⟨bpat_some o0_, List.forall_mem_cons.mpr ⟨bpat_some (fxr_at hs.2 (show fxk fxl 338 3 = some 341 by decide +kernel)), List.forall_mem_cons.mpr ⟨bpat_some o1, fun q_ hq => absurd hq List.not_mem_nil⟩⟩⟩⟩
  have HC : ∀ q_ ∈ mwaE_C, xhold (mwaE_r v1_ v2 v3 v310 v400) q_ := fun q_ hq => absurd hq List.not_mem_nil
  rcases yrun (yis_ok mwaE_k) hA Hs Ho HC with ⟨q_, hq, h', K_, G_⟩ | ⟨q_, hq, h', K_, G_⟩
  · have e_ := List.mem_singleton.mp hq
    subst e_
    exact ⟨h', yfr_sm K_.2.2.2 hs K_.1 (ywa_s mwaE_w List.mem_cons_self), Or.inl (⟨xq_leT rfl rfl (K_.2.2.1 _ List.mem_cons_self), xq_ltF rfl rfl (K_.2.2.1 _ (List.mem_cons_of_mem _ List.mem_cons_self)), xq_leT rfl (yv_sub2 rfl rfl) (K_.2.2.1 _ (List.mem_cons_of_mem _ (List.mem_cons_of_mem _ List.mem_cons_self))), xq_ltF rfl rfl (K_.2.2.1 _ (List.mem_cons_of_mem _ (List.mem_cons_of_mem _ (List.mem_cons_of_mem _ List.mem_cons_self)))), xq_leT rfl (yv_sub2 rfl rfl) (K_.2.2.1 _ (List.mem_cons_of_mem _ (List.mem_cons_of_mem _ (List.mem_cons_of_mem _ (List.mem_cons_of_mem _ List.mem_cons_self))))), xq_ltF rfl rfl (K_.2.2.1 _ (List.mem_cons_of_mem _ (List.mem_cons_of_mem _ (List.mem_cons_of_mem _ (List.mem_cons_of_mem _ (List.mem_cons_of_mem _ List.mem_cons_self)))))), fun a_ j_ => yfr_bp K_.2.2.2 (fun q_ hq => absurd hq List.not_mem_nil), G_⟩)⟩
  · rcases List.mem_cons.mp hq with e_ | hq
    · subst e_
      exact ⟨h', yfr_sm K_.2.2.2 hs K_.1 (ywa_r mwaE_w List.mem_cons_self), Or.inr (Or.inl (⟨xq_ltT rfl rfl (K_.2.2.1 _ List.mem_cons_self), bpat_of (K_.2.1 _ List.mem_cons_self), fun a_ j_ n0_ => yfr_bp K_.2.2.2 (List.forall_mem_cons.mpr ⟨fun e_ => n0_ ⟨e_.1.symm, e_.2.symm⟩, fun q_ hq => absurd hq List.not_mem_nil⟩), G_⟩))⟩
    rcases List.mem_cons.mp hq with e_ | hq
    · subst e_
      exact ⟨h', yfr_sm K_.2.2.2 hs K_.1 (ywa_r mwaE_w (List.mem_cons_of_mem _ List.mem_cons_self)), Or.inr (Or.inr (Or.inl (⟨xq_leF rfl (yv_sub2 rfl rfl) (K_.2.2.1 _ List.mem_cons_self), xq_ltF rfl rfl (K_.2.2.1 _ (List.mem_cons_of_mem _ List.mem_cons_self)), bpat_of (K_.2.1 _ List.mem_cons_self), fun a_ j_ n0_ => yfr_bp K_.2.2.2 (List.forall_mem_cons.mpr ⟨fun e_ => n0_ ⟨e_.1.symm, e_.2.symm⟩, fun q_ hq => absurd hq List.not_mem_nil⟩), G_⟩)))⟩
    rcases List.mem_cons.mp hq with e_ | hq
    · subst e_
      exact ⟨h', yfr_sm K_.2.2.2 hs K_.1 (ywa_r mwaE_w (List.mem_cons_of_mem _ (List.mem_cons_of_mem _ List.mem_cons_self))), Or.inr (Or.inr (Or.inr (Or.inl (⟨xq_ltT rfl rfl (K_.2.2.1 _ List.mem_cons_self), xq_leT rfl (yv_sub2 rfl rfl) (K_.2.2.1 _ (List.mem_cons_of_mem _ List.mem_cons_self)), xq_ltF rfl rfl (K_.2.2.1 _ (List.mem_cons_of_mem _ (List.mem_cons_of_mem _ List.mem_cons_self))), bpat_of (K_.2.1 _ List.mem_cons_self), fun a_ j_ n0_ => yfr_bp K_.2.2.2 (List.forall_mem_cons.mpr ⟨fun e_ => n0_ ⟨e_.1.symm, e_.2.symm⟩, fun q_ hq => absurd hq List.not_mem_nil⟩), G_⟩))))⟩
    rcases List.mem_cons.mp hq with e_ | hq
    · subst e_
      exact ⟨h', yfr_sm K_.2.2.2 hs K_.1 (ywa_r mwaE_w (List.mem_cons_of_mem _ (List.mem_cons_of_mem _ (List.mem_cons_of_mem _ List.mem_cons_self)))), Or.inr (Or.inr (Or.inr (Or.inr (Or.inl (⟨xq_leF rfl (yv_sub2 rfl rfl) (K_.2.2.1 _ List.mem_cons_self), xq_ltF rfl rfl (K_.2.2.1 _ (List.mem_cons_of_mem _ List.mem_cons_self)), xq_leT rfl (yv_sub2 rfl rfl) (K_.2.2.1 _ (List.mem_cons_of_mem _ (List.mem_cons_of_mem _ List.mem_cons_self))), xq_ltF rfl rfl (K_.2.2.1 _ (List.mem_cons_of_mem _ (List.mem_cons_of_mem _ (List.mem_cons_of_mem _ List.mem_cons_self)))), bpat_of (K_.2.1 _ List.mem_cons_self), fun a_ j_ n0_ => yfr_bp K_.2.2.2 (List.forall_mem_cons.mpr ⟨fun e_ => n0_ ⟨e_.1.symm, e_.2.symm⟩, fun q_ hq => absurd hq List.not_mem_nil⟩), G_⟩)))))⟩
    rcases List.mem_cons.mp hq with e_ | hq
    · subst e_
      exact ⟨h', yfr_sm K_.2.2.2 hs K_.1 (ywa_r mwaE_w (List.mem_cons_of_mem _ (List.mem_cons_of_mem _ (List.mem_cons_of_mem _ (List.mem_cons_of_mem _ List.mem_cons_self))))), Or.inr (Or.inr (Or.inr (Or.inr (Or.inr (Or.inl (⟨xq_ltT rfl rfl (K_.2.2.1 _ List.mem_cons_self), xq_leT rfl (yv_sub2 rfl rfl) (K_.2.2.1 _ (List.mem_cons_of_mem _ List.mem_cons_self)), xq_ltF rfl rfl (K_.2.2.1 _ (List.mem_cons_of_mem _ (List.mem_cons_of_mem _ List.mem_cons_self))), xq_leT rfl (yv_sub2 rfl rfl) (K_.2.2.1 _ (List.mem_cons_of_mem _ (List.mem_cons_of_mem _ (List.mem_cons_of_mem _ List.mem_cons_self)))), xq_ltF rfl rfl (K_.2.2.1 _ (List.mem_cons_of_mem _ (List.mem_cons_of_mem _ (List.mem_cons_of_mem _ (List.mem_cons_of_mem _ List.mem_cons_self))))), bpat_of (K_.2.1 _ List.mem_cons_self), fun a_ j_ n0_ => yfr_bp K_.2.2.2 (List.forall_mem_cons.mpr ⟨fun e_ => n0_ ⟨e_.1.symm, e_.2.symm⟩, fun q_ hq => absurd hq List.not_mem_nil⟩), G_⟩))))))⟩
    have e_ := List.mem_singleton.mp hq
    subst e_
    exact ⟨h', yfr_sm K_.2.2.2 hs K_.1 (ywa_r mwaE_w (List.mem_cons_of_mem _ (List.mem_cons_of_mem _ (List.mem_cons_of_mem _ (List.mem_cons_of_mem _ (List.mem_cons_of_mem _ List.mem_cons_self)))))), Or.inr (Or.inr (Or.inr (Or.inr (Or.inr (Or.inr (⟨xq_leF rfl rfl (K_.2.2.1 _ List.mem_cons_self), xq_ltF rfl rfl (K_.2.2.1 _ (List.mem_cons_of_mem _ List.mem_cons_self)), xq_leT rfl (yv_sub2 rfl rfl) (K_.2.2.1 _ (List.mem_cons_of_mem _ (List.mem_cons_of_mem _ List.mem_cons_self))), xq_ltF rfl rfl (K_.2.2.1 _ (List.mem_cons_of_mem _ (List.mem_cons_of_mem _ (List.mem_cons_of_mem _ List.mem_cons_self)))), xq_leT rfl (yv_sub2 rfl rfl) (K_.2.2.1 _ (List.mem_cons_of_mem _ (List.mem_cons_of_mem _ (List.mem_cons_of_mem _ (List.mem_cons_of_mem _ List.mem_cons_self))))), xq_ltF rfl rfl (K_.2.2.1 _ (List.mem_cons_of_mem _ (List.mem_cons_of_mem _ (List.mem_cons_of_mem _ (List.mem_cons_of_mem _ (List.mem_cons_of_mem _ List.mem_cons_self)))))), bpat_of (K_.2.1 _ List.mem_cons_self), fun a_ j_ n0_ => yfr_bp K_.2.2.2 (List.forall_mem_cons.mpr ⟨fun e_ => n0_ ⟨e_.1.symm, e_.2.symm⟩, fun q_ hq => absurd hq List.not_mem_nil⟩), G_⟩))))))⟩
-- mwaG: 8 steps, 1 ends, 0 returns
def mwaG_L : List (Nat × Nat × Nat) := []
def mwaG_O : yO := [(338, .int 6, .index 344)]
def mwaG_A : yA := (yZ mwaG_L, [], [], [], [])
def mwaG_C : List xB := []
def mwaG_ss : List yS := [(43, [(0, .index 338), (1, .arg 1), (2, .arg 2), (3, .arg 3)], [.index 344, .add (.int 34) (.mul (.int 13) (.arg 2)), .index 338], [(338, .int 6, .index 344)], [], [])]
def mwaG_rs : List yR := []
theorem mwaG_w : ywa mwaG_A mwaG_ss mwaG_rs = true := by decide +kernel
theorem mwaG_k : yis (yev mwaG_A 3000 60 194 [43] (31, [(0, .index 338), (1, .arg 1), (2, .arg 2), (3, .arg 3)], [], mwaG_O, mwaG_C, [])) mwaG_ss mwaG_rs = true := by decide +kernel
def mwaG_r (v1_ v2 v3 : Int32) (k_ : Nat) : Value := bif Nat.beq k_ 1 then .int v1_ else (bif Nat.beq k_ 2 then .int v2 else (bif Nat.beq k_ 3 then .int v3 else (.int 0)))
def mwaG_s (n_ : Nat) : Nat := 0
theorem mwaG {h_ : xH} {v1_ v2 v3 : Int32} (hs : sHp h_) : ∃ h', ysm h_ h' ∧ (((∀ a_ j_ : Nat, bpat h' a_ j_ = bpat h_ a_ j_) ∧ (bldD 60 194 31 [(0, .index 338), (1, .int v1_), (2, .int v2), (3, .int v3)] [] h_ 43 [(0, .index 338), (1, .int v1_), (2, .int v2), (3, .int v3)] [.index 344, .int ((34 : Int32) + ((13 : Int32) * v2)), .index 338] h'))) := by
  have hA : yas mwaG_A (mwaG_r v1_ v2 v3) (yg mwaG_s) := ⟨fun q_ hq => absurd hq List.not_mem_nil, fun q_ hq => absurd hq List.not_mem_nil, fun q_ hq => absurd hq List.not_mem_nil, fun n_ hn => yg_lo hn, fun q_ hq => absurd hq List.not_mem_nil⟩
  have Hs : ysh mwaG_A.1 (yg mwaG_s) h_ := ysh_of2 hs (fun q_ hq => absurd hq List.not_mem_nil)
  have Ho : ymem (mwaG_r v1_ v2 v3) (yg mwaG_s) mwaG_O h_ := List.forall_mem_cons.mpr ⟨bpat_some (fxr_at hs.2 (show fxk fxl 338 6 = some 344 by decide +kernel)), fun q_ hq => absurd hq List.not_mem_nil⟩
  have HC : ∀ q_ ∈ mwaG_C, xhold (mwaG_r v1_ v2 v3) q_ := fun q_ hq => absurd hq List.not_mem_nil
  rcases yrun (yis_ok mwaG_k) hA Hs Ho HC with ⟨q_, hq, h', K_, G_⟩ | ⟨q_, hq, h', K_, G_⟩
  · have e_ := List.mem_singleton.mp hq
    subst e_
    exact ⟨h', yfr_sm K_.2.2.2 hs K_.1 (ywa_s mwaG_w List.mem_cons_self), ⟨fun a_ j_ => yfr_bp K_.2.2.2 (fun q_ hq => absurd hq List.not_mem_nil), G_⟩⟩
  · cases hq
-- mwaH0: 9 steps, 1 ends, 0 returns
def mwaH0_L : List (Nat × Nat × Nat) := []
def mwaH0_O : yO := []
def mwaH0_A : yA := (yZ mwaH0_L, [], [], [], [])
def mwaH0_C : List xB := []
def mwaH0_ss : List yS := [(85, [(6, .int 0), (5, .int 0), (4, .int 0), (0, .index 338), (1, .arg 1), (2, .arg 2), (3, .int 0)], [], [], [], [])]
def mwaH0_rs : List yR := []
theorem mwaH0_w : ywa mwaH0_A mwaH0_ss mwaH0_rs = true := by decide +kernel
theorem mwaH0_k : yis (yev mwaH0_A 3000 60 194 [85] (46, [(0, .index 338), (1, .arg 1), (2, .arg 2), (3, .int 0)], [], mwaH0_O, mwaH0_C, [])) mwaH0_ss mwaH0_rs = true := by decide +kernel
def mwaH0_r (v1_ v2 : Int32) (k_ : Nat) : Value := bif Nat.beq k_ 1 then .int v1_ else (bif Nat.beq k_ 2 then .int v2 else (.int 0))
def mwaH0_s (n_ : Nat) : Nat := 0
theorem mwaH0 {h_ : xH} {v1_ v2 : Int32} (hs : sHp h_) : ∃ h', ysm h_ h' ∧ (((∀ a_ j_ : Nat, bpat h' a_ j_ = bpat h_ a_ j_) ∧ (bldD 60 194 46 [(0, .index 338), (1, .int v1_), (2, .int v2), (3, .int (0 : Int32))] [] h_ 85 [(6, .int (0 : Int32)), (5, .int (0 : Int32)), (4, .int (0 : Int32)), (0, .index 338), (1, .int v1_), (2, .int v2), (3, .int (0 : Int32))] [] h'))) := by
  have hA : yas mwaH0_A (mwaH0_r v1_ v2) (yg mwaH0_s) := ⟨fun q_ hq => absurd hq List.not_mem_nil, fun q_ hq => absurd hq List.not_mem_nil, fun q_ hq => absurd hq List.not_mem_nil, fun n_ hn => yg_lo hn, fun q_ hq => absurd hq List.not_mem_nil⟩
  have Hs : ysh mwaH0_A.1 (yg mwaH0_s) h_ := ysh_of2 hs (fun q_ hq => absurd hq List.not_mem_nil)
  have Ho : ymem (mwaH0_r v1_ v2) (yg mwaH0_s) mwaH0_O h_ := fun q_ hq => absurd hq List.not_mem_nil
  have HC : ∀ q_ ∈ mwaH0_C, xhold (mwaH0_r v1_ v2) q_ := fun q_ hq => absurd hq List.not_mem_nil
  rcases yrun (yis_ok mwaH0_k) hA Hs Ho HC with ⟨q_, hq, h', K_, G_⟩ | ⟨q_, hq, h', K_, G_⟩
  · have e_ := List.mem_singleton.mp hq
    subst e_
    exact ⟨h', yfr_sm K_.2.2.2 hs K_.1 (ywa_s mwaH0_w List.mem_cons_self), ⟨fun a_ j_ => yfr_bp K_.2.2.2 (fun q_ hq => absurd hq List.not_mem_nil), G_⟩⟩
  · cases hq
-- mwaH1: 12 steps, 1 ends, 0 returns
def mwaH1_L : List (Nat × Nat × Nat) := []
def mwaH1_O : yO := []
def mwaH1_A : yA := (yZ mwaH1_L, [], [], [], [])
def mwaH1_C : List xB := []
def mwaH1_ss : List yS := [(85, [(6, .int 0), (5, .int 0), (4, .int 9), (0, .index 338), (1, .arg 1), (2, .arg 2), (3, .int 1)], [], [], [], [])]
def mwaH1_rs : List yR := []
theorem mwaH1_w : ywa mwaH1_A mwaH1_ss mwaH1_rs = true := by decide +kernel
theorem mwaH1_k : yis (yev mwaH1_A 3000 60 194 [85] (46, [(0, .index 338), (1, .arg 1), (2, .arg 2), (3, .int 1)], [], mwaH1_O, mwaH1_C, [])) mwaH1_ss mwaH1_rs = true := by decide +kernel
def mwaH1_r (v1_ v2 : Int32) (k_ : Nat) : Value := bif Nat.beq k_ 1 then .int v1_ else (bif Nat.beq k_ 2 then .int v2 else (.int 0))
def mwaH1_s (n_ : Nat) : Nat := 0
theorem mwaH1 {h_ : xH} {v1_ v2 : Int32} (hs : sHp h_) : ∃ h', ysm h_ h' ∧ (((∀ a_ j_ : Nat, bpat h' a_ j_ = bpat h_ a_ j_) ∧ (bldD 60 194 46 [(0, .index 338), (1, .int v1_), (2, .int v2), (3, .int (1 : Int32))] [] h_ 85 [(6, .int (0 : Int32)), (5, .int (0 : Int32)), (4, .int (9 : Int32)), (0, .index 338), (1, .int v1_), (2, .int v2), (3, .int (1 : Int32))] [] h'))) := by
  have hA : yas mwaH1_A (mwaH1_r v1_ v2) (yg mwaH1_s) := ⟨fun q_ hq => absurd hq List.not_mem_nil, fun q_ hq => absurd hq List.not_mem_nil, fun q_ hq => absurd hq List.not_mem_nil, fun n_ hn => yg_lo hn, fun q_ hq => absurd hq List.not_mem_nil⟩
  have Hs : ysh mwaH1_A.1 (yg mwaH1_s) h_ := ysh_of2 hs (fun q_ hq => absurd hq List.not_mem_nil)
  have Ho : ymem (mwaH1_r v1_ v2) (yg mwaH1_s) mwaH1_O h_ := fun q_ hq => absurd hq List.not_mem_nil
  have HC : ∀ q_ ∈ mwaH1_C, xhold (mwaH1_r v1_ v2) q_ := fun q_ hq => absurd hq List.not_mem_nil
  rcases yrun (yis_ok mwaH1_k) hA Hs Ho HC with ⟨q_, hq, h', K_, G_⟩ | ⟨q_, hq, h', K_, G_⟩
  · have e_ := List.mem_singleton.mp hq
    subst e_
    exact ⟨h', yfr_sm K_.2.2.2 hs K_.1 (ywa_s mwaH1_w List.mem_cons_self), ⟨fun a_ j_ => yfr_bp K_.2.2.2 (fun q_ hq => absurd hq List.not_mem_nil), G_⟩⟩
  · cases hq
-- mwaH2: 15 steps, 1 ends, 0 returns
def mwaH2_L : List (Nat × Nat × Nat) := []
def mwaH2_O : yO := []
def mwaH2_A : yA := (yZ mwaH2_L, [], [], [], [])
def mwaH2_C : List xB := []
def mwaH2_ss : List yS := [(85, [(6, .int 0), (5, .int 0), (4, .int 99), (0, .index 338), (1, .arg 1), (2, .arg 2), (3, .int 2)], [], [], [], [])]
def mwaH2_rs : List yR := []
theorem mwaH2_w : ywa mwaH2_A mwaH2_ss mwaH2_rs = true := by decide +kernel
theorem mwaH2_k : yis (yev mwaH2_A 3000 60 194 [85] (46, [(0, .index 338), (1, .arg 1), (2, .arg 2), (3, .int 2)], [], mwaH2_O, mwaH2_C, [])) mwaH2_ss mwaH2_rs = true := by decide +kernel
def mwaH2_r (v1_ v2 : Int32) (k_ : Nat) : Value := bif Nat.beq k_ 1 then .int v1_ else (bif Nat.beq k_ 2 then .int v2 else (.int 0))
def mwaH2_s (n_ : Nat) : Nat := 0
theorem mwaH2 {h_ : xH} {v1_ v2 : Int32} (hs : sHp h_) : ∃ h', ysm h_ h' ∧ (((∀ a_ j_ : Nat, bpat h' a_ j_ = bpat h_ a_ j_) ∧ (bldD 60 194 46 [(0, .index 338), (1, .int v1_), (2, .int v2), (3, .int (2 : Int32))] [] h_ 85 [(6, .int (0 : Int32)), (5, .int (0 : Int32)), (4, .int (99 : Int32)), (0, .index 338), (1, .int v1_), (2, .int v2), (3, .int (2 : Int32))] [] h'))) := by
  have hA : yas mwaH2_A (mwaH2_r v1_ v2) (yg mwaH2_s) := ⟨fun q_ hq => absurd hq List.not_mem_nil, fun q_ hq => absurd hq List.not_mem_nil, fun q_ hq => absurd hq List.not_mem_nil, fun n_ hn => yg_lo hn, fun q_ hq => absurd hq List.not_mem_nil⟩
  have Hs : ysh mwaH2_A.1 (yg mwaH2_s) h_ := ysh_of2 hs (fun q_ hq => absurd hq List.not_mem_nil)
  have Ho : ymem (mwaH2_r v1_ v2) (yg mwaH2_s) mwaH2_O h_ := fun q_ hq => absurd hq List.not_mem_nil
  have HC : ∀ q_ ∈ mwaH2_C, xhold (mwaH2_r v1_ v2) q_ := fun q_ hq => absurd hq List.not_mem_nil
  rcases yrun (yis_ok mwaH2_k) hA Hs Ho HC with ⟨q_, hq, h', K_, G_⟩ | ⟨q_, hq, h', K_, G_⟩
  · have e_ := List.mem_singleton.mp hq
    subst e_
    exact ⟨h', yfr_sm K_.2.2.2 hs K_.1 (ywa_s mwaH2_w List.mem_cons_self), ⟨fun a_ j_ => yfr_bp K_.2.2.2 (fun q_ hq => absurd hq List.not_mem_nil), G_⟩⟩
  · cases hq
-- mwaH3: 14 steps, 1 ends, 0 returns
def mwaH3_L : List (Nat × Nat × Nat) := []
def mwaH3_O : yO := []
def mwaH3_A : yA := (yZ mwaH3_L, [], [], [], [])
def mwaH3_C : List xB := []
def mwaH3_ss : List yS := [(85, [(6, .int 0), (5, .int 0), (4, .int 999), (0, .index 338), (1, .arg 1), (2, .arg 2), (3, .int 3)], [], [], [], [])]
def mwaH3_rs : List yR := []
theorem mwaH3_w : ywa mwaH3_A mwaH3_ss mwaH3_rs = true := by decide +kernel
theorem mwaH3_k : yis (yev mwaH3_A 3000 60 194 [85] (46, [(0, .index 338), (1, .arg 1), (2, .arg 2), (3, .int 3)], [], mwaH3_O, mwaH3_C, [])) mwaH3_ss mwaH3_rs = true := by decide +kernel
def mwaH3_r (v1_ v2 : Int32) (k_ : Nat) : Value := bif Nat.beq k_ 1 then .int v1_ else (bif Nat.beq k_ 2 then .int v2 else (.int 0))
def mwaH3_s (n_ : Nat) : Nat := 0
theorem mwaH3 {h_ : xH} {v1_ v2 : Int32} (hs : sHp h_) : ∃ h', ysm h_ h' ∧ (((∀ a_ j_ : Nat, bpat h' a_ j_ = bpat h_ a_ j_) ∧ (bldD 60 194 46 [(0, .index 338), (1, .int v1_), (2, .int v2), (3, .int (3 : Int32))] [] h_ 85 [(6, .int (0 : Int32)), (5, .int (0 : Int32)), (4, .int (999 : Int32)), (0, .index 338), (1, .int v1_), (2, .int v2), (3, .int (3 : Int32))] [] h'))) := by
  have hA : yas mwaH3_A (mwaH3_r v1_ v2) (yg mwaH3_s) := ⟨fun q_ hq => absurd hq List.not_mem_nil, fun q_ hq => absurd hq List.not_mem_nil, fun q_ hq => absurd hq List.not_mem_nil, fun n_ hn => yg_lo hn, fun q_ hq => absurd hq List.not_mem_nil⟩
  have Hs : ysh mwaH3_A.1 (yg mwaH3_s) h_ := ysh_of2 hs (fun q_ hq => absurd hq List.not_mem_nil)
  have Ho : ymem (mwaH3_r v1_ v2) (yg mwaH3_s) mwaH3_O h_ := fun q_ hq => absurd hq List.not_mem_nil
  have HC : ∀ q_ ∈ mwaH3_C, xhold (mwaH3_r v1_ v2) q_ := fun q_ hq => absurd hq List.not_mem_nil
  rcases yrun (yis_ok mwaH3_k) hA Hs Ho HC with ⟨q_, hq, h', K_, G_⟩ | ⟨q_, hq, h', K_, G_⟩
  · have e_ := List.mem_singleton.mp hq
    subst e_
    exact ⟨h', yfr_sm K_.2.2.2 hs K_.1 (ywa_s mwaH3_w List.mem_cons_self), ⟨fun a_ j_ => yfr_bp K_.2.2.2 (fun q_ hq => absurd hq List.not_mem_nil), G_⟩⟩
  · cases hq
-- mwaT: 6 steps, 1 ends, 0 returns
def mwaT_L : List (Nat × Nat × Nat) := []
def mwaT_O : yO := []
def mwaT_A : yA := (yZ mwaT_L, [], [], [], [])
def mwaT_C : List xB := [(.le, .arg 6, .arg 4, true)]
def mwaT_ss : List yS := [(97, [(6, .arg 6), (5, .arg 5), (4, .arg 4), (0, .index 338), (1, .arg 1), (2, .arg 2), (3, .arg 3)], [.arg 6, .index 338, .arg 5], [], [(.le, .arg 6, .arg 4, true)], [])]
def mwaT_rs : List yR := []
theorem mwaT_w : ywa mwaT_A mwaT_ss mwaT_rs = true := by decide +kernel
theorem mwaT_k : yis (yev mwaT_A 3000 60 194 [97] (85, [(6, .arg 6), (5, .arg 5), (4, .arg 4), (0, .index 338), (1, .arg 1), (2, .arg 2), (3, .arg 3)], [], mwaT_O, mwaT_C, [])) mwaT_ss mwaT_rs = true := by decide +kernel
def mwaT_r (v1_ v2 v3 v4_ v5 v6 : Int32) (k_ : Nat) : Value := bif Nat.beq k_ 1 then .int v1_ else (bif Nat.beq k_ 2 then .int v2 else (bif Nat.beq k_ 3 then .int v3 else (bif Nat.beq k_ 4 then .int v4_ else (bif Nat.beq k_ 5 then .int v5 else (bif Nat.beq k_ 6 then .int v6 else (.int 0))))))
def mwaT_s (n_ : Nat) : Nat := 0
theorem mwaT {h_ : xH} {v1_ v2 v3 v4_ v5 v6 : Int32} (hs : sHp h_) (c0_ : v6.toInt ≤ v4_.toInt) : ∃ h', ysm h_ h' ∧ (((∀ a_ j_ : Nat, bpat h' a_ j_ = bpat h_ a_ j_) ∧ (bldD 60 194 85 [(6, .int v6), (5, .int v5), (4, .int v4_), (0, .index 338), (1, .int v1_), (2, .int v2), (3, .int v3)] [] h_ 97 [(6, .int v6), (5, .int v5), (4, .int v4_), (0, .index 338), (1, .int v1_), (2, .int v2), (3, .int v3)] [.int v6, .index 338, .int v5] h'))) := by
  have hA : yas mwaT_A (mwaT_r v1_ v2 v3 v4_ v5 v6) (yg mwaT_s) := ⟨fun q_ hq => absurd hq List.not_mem_nil, fun q_ hq => absurd hq List.not_mem_nil, fun q_ hq => absurd hq List.not_mem_nil, fun n_ hn => yg_lo hn, fun q_ hq => absurd hq List.not_mem_nil⟩
  have Hs : ysh mwaT_A.1 (yg mwaT_s) h_ := ysh_of2 hs (fun q_ hq => absurd hq List.not_mem_nil)
  have Ho : ymem (mwaT_r v1_ v2 v3 v4_ v5 v6) (yg mwaT_s) mwaT_O h_ := fun q_ hq => absurd hq List.not_mem_nil
  have HC : ∀ q_ ∈ mwaT_C, xhold (mwaT_r v1_ v2 v3 v4_ v5 v6) q_ := List.forall_mem_cons.mpr ⟨xh_leT c0_, fun q_ hq => absurd hq List.not_mem_nil⟩
  rcases yrun (yis_ok mwaT_k) hA Hs Ho HC with ⟨q_, hq, h', K_, G_⟩ | ⟨q_, hq, h', K_, G_⟩
  · have e_ := List.mem_singleton.mp hq
    subst e_
    exact ⟨h', yfr_sm K_.2.2.2 hs K_.1 (ywa_s mwaT_w List.mem_cons_self), ⟨fun a_ j_ => yfr_bp K_.2.2.2 (fun q_ hq => absurd hq List.not_mem_nil), G_⟩⟩
  · cases hq
-- mwaU: 6 steps, 1 ends, 0 returns
def mwaU_L : List (Nat × Nat × Nat) := []
def mwaU_O : yO := [(338, .int 6, .index 344)]
def mwaU_A : yA := (yZ mwaU_L, [], [], [], [])
def mwaU_C : List xB := []
def mwaU_ss : List yS := [(111, [(6, .arg 6), (5, .arg 5), (4, .arg 4), (0, .index 338), (1, .arg 1), (2, .arg 2), (3, .arg 3)], [.index 344, .arg 6, .arg 1, .index 338, .arg 8], [(338, .int 6, .index 344)], [], [])]
def mwaU_rs : List yR := []
theorem mwaU_w : ywa mwaU_A mwaU_ss mwaU_rs = true := by decide +kernel
theorem mwaU_k : yis (yev mwaU_A 3000 60 194 [111] (100, [(6, .arg 6), (5, .arg 5), (4, .arg 4), (0, .index 338), (1, .arg 1), (2, .arg 2), (3, .arg 3)], [.int 1, .arg 8], mwaU_O, mwaU_C, [])) mwaU_ss mwaU_rs = true := by decide +kernel
def mwaU_r (v1_ v2 v3 v4_ v5 v6 v8 : Int32) (k_ : Nat) : Value := bif Nat.beq k_ 1 then .int v1_ else (bif Nat.beq k_ 2 then .int v2 else (bif Nat.beq k_ 3 then .int v3 else (bif Nat.beq k_ 4 then .int v4_ else (bif Nat.beq k_ 5 then .int v5 else (bif Nat.beq k_ 6 then .int v6 else (bif Nat.beq k_ 8 then .int v8 else (.int 0)))))))
def mwaU_s (n_ : Nat) : Nat := 0
theorem mwaU {h_ : xH} {v1_ v2 v3 v4_ v5 v6 v8 : Int32} (hs : sHp h_) : ∃ h', ysm h_ h' ∧ (((∀ a_ j_ : Nat, bpat h' a_ j_ = bpat h_ a_ j_) ∧ (bldD 60 194 100 [(6, .int v6), (5, .int v5), (4, .int v4_), (0, .index 338), (1, .int v1_), (2, .int v2), (3, .int v3)] [.int (1 : Int32), .int v8] h_ 111 [(6, .int v6), (5, .int v5), (4, .int v4_), (0, .index 338), (1, .int v1_), (2, .int v2), (3, .int v3)] [.index 344, .int v6, .int v1_, .index 338, .int v8] h'))) := by
  have hA : yas mwaU_A (mwaU_r v1_ v2 v3 v4_ v5 v6 v8) (yg mwaU_s) := ⟨fun q_ hq => absurd hq List.not_mem_nil, fun q_ hq => absurd hq List.not_mem_nil, fun q_ hq => absurd hq List.not_mem_nil, fun n_ hn => yg_lo hn, fun q_ hq => absurd hq List.not_mem_nil⟩
  have Hs : ysh mwaU_A.1 (yg mwaU_s) h_ := ysh_of2 hs (fun q_ hq => absurd hq List.not_mem_nil)
  have Ho : ymem (mwaU_r v1_ v2 v3 v4_ v5 v6 v8) (yg mwaU_s) mwaU_O h_ := List.forall_mem_cons.mpr ⟨bpat_some (fxr_at hs.2 (show fxk fxl 338 6 = some 344 by decide +kernel)), fun q_ hq => absurd hq List.not_mem_nil⟩
  have HC : ∀ q_ ∈ mwaU_C, xhold (mwaU_r v1_ v2 v3 v4_ v5 v6 v8) q_ := fun q_ hq => absurd hq List.not_mem_nil
  rcases yrun (yis_ok mwaU_k) hA Hs Ho HC with ⟨q_, hq, h', K_, G_⟩ | ⟨q_, hq, h', K_, G_⟩
  · have e_ := List.mem_singleton.mp hq
    subst e_
    exact ⟨h', yfr_sm K_.2.2.2 hs K_.1 (ywa_s mwaU_w List.mem_cons_self), ⟨fun a_ j_ => yfr_bp K_.2.2.2 (fun q_ hq => absurd hq List.not_mem_nil), G_⟩⟩
  · cases hq
-- mwaV: 5 steps, 1 ends, 0 returns
def mwaV_L : List (Nat × Nat × Nat) := []
def mwaV_O : yO := []
def mwaV_A : yA := (yZ mwaV_L, [], [], [], [])
def mwaV_C : List xB := []
def mwaV_ss : List yS := [(85, [(6, .add (.arg 6) (.int 1)), (5, .add (.arg 8) (.arg 7)), (4, .arg 4), (0, .index 338), (1, .arg 1), (2, .arg 2), (3, .arg 3)], [], [], [], [])]
def mwaV_rs : List yR := []
theorem mwaV_w : ywa mwaV_A mwaV_ss mwaV_rs = true := by decide +kernel
theorem mwaV_k : yis (yev mwaV_A 3000 60 194 [85] (114, [(6, .arg 6), (5, .arg 5), (4, .arg 4), (0, .index 338), (1, .arg 1), (2, .arg 2), (3, .arg 3)], [.arg 7, .arg 8], mwaV_O, mwaV_C, [])) mwaV_ss mwaV_rs = true := by decide +kernel
def mwaV_r (v1_ v2 v3 v4_ v5 v6 v7 v8 : Int32) (k_ : Nat) : Value := bif Nat.beq k_ 1 then .int v1_ else (bif Nat.beq k_ 2 then .int v2 else (bif Nat.beq k_ 3 then .int v3 else (bif Nat.beq k_ 4 then .int v4_ else (bif Nat.beq k_ 5 then .int v5 else (bif Nat.beq k_ 6 then .int v6 else (bif Nat.beq k_ 7 then .int v7 else (bif Nat.beq k_ 8 then .int v8 else (.int 0))))))))
def mwaV_s (n_ : Nat) : Nat := 0
theorem mwaV {h_ : xH} {v1_ v2 v3 v4_ v5 v6 v7 v8 : Int32} (hs : sHp h_) : ∃ h', ysm h_ h' ∧ (((∀ a_ j_ : Nat, bpat h' a_ j_ = bpat h_ a_ j_) ∧ (bldD 60 194 114 [(6, .int v6), (5, .int v5), (4, .int v4_), (0, .index 338), (1, .int v1_), (2, .int v2), (3, .int v3)] [.int v7, .int v8] h_ 85 [(6, .int (v6 + (1 : Int32))), (5, .int (v8 + v7)), (4, .int v4_), (0, .index 338), (1, .int v1_), (2, .int v2), (3, .int v3)] [] h'))) := by
  have hA : yas mwaV_A (mwaV_r v1_ v2 v3 v4_ v5 v6 v7 v8) (yg mwaV_s) := ⟨fun q_ hq => absurd hq List.not_mem_nil, fun q_ hq => absurd hq List.not_mem_nil, fun q_ hq => absurd hq List.not_mem_nil, fun n_ hn => yg_lo hn, fun q_ hq => absurd hq List.not_mem_nil⟩
  have Hs : ysh mwaV_A.1 (yg mwaV_s) h_ := ysh_of2 hs (fun q_ hq => absurd hq List.not_mem_nil)
  have Ho : ymem (mwaV_r v1_ v2 v3 v4_ v5 v6 v7 v8) (yg mwaV_s) mwaV_O h_ := fun q_ hq => absurd hq List.not_mem_nil
  have HC : ∀ q_ ∈ mwaV_C, xhold (mwaV_r v1_ v2 v3 v4_ v5 v6 v7 v8) q_ := fun q_ hq => absurd hq List.not_mem_nil
  rcases yrun (yis_ok mwaV_k) hA Hs Ho HC with ⟨q_, hq, h', K_, G_⟩ | ⟨q_, hq, h', K_, G_⟩
  · have e_ := List.mem_singleton.mp hq
    subst e_
    exact ⟨h', yfr_sm K_.2.2.2 hs K_.1 (ywa_s mwaV_w List.mem_cons_self), ⟨fun a_ j_ => yfr_bp K_.2.2.2 (fun q_ hq => absurd hq List.not_mem_nil), G_⟩⟩
  · cases hq
-- mwaW: 6 steps, 1 ends, 0 returns
def mwaW_L : List (Nat × Nat × Nat) := []
def mwaW_O : yO := []
def mwaW_A : yA := (yZ mwaW_L, [], [], [], [])
def mwaW_C : List xB := []
def mwaW_ss : List yS := [(85, [(6, .add (.arg 6) (.int 1)), (5, .add (.arg 8) (.int 0)), (4, .arg 4), (0, .index 338), (1, .arg 1), (2, .arg 2), (3, .arg 3)], [], [], [], [])]
def mwaW_rs : List yR := []
theorem mwaW_w : ywa mwaW_A mwaW_ss mwaW_rs = true := by decide +kernel
theorem mwaW_k : yis (yev mwaW_A 3000 60 194 [85] (100, [(6, .arg 6), (5, .arg 5), (4, .arg 4), (0, .index 338), (1, .arg 1), (2, .arg 2), (3, .arg 3)], [.int 0, .arg 8], mwaW_O, mwaW_C, [])) mwaW_ss mwaW_rs = true := by decide +kernel
def mwaW_r (v1_ v2 v3 v4_ v5 v6 v8 : Int32) (k_ : Nat) : Value := bif Nat.beq k_ 1 then .int v1_ else (bif Nat.beq k_ 2 then .int v2 else (bif Nat.beq k_ 3 then .int v3 else (bif Nat.beq k_ 4 then .int v4_ else (bif Nat.beq k_ 5 then .int v5 else (bif Nat.beq k_ 6 then .int v6 else (bif Nat.beq k_ 8 then .int v8 else (.int 0)))))))
def mwaW_s (n_ : Nat) : Nat := 0
theorem mwaW {h_ : xH} {v1_ v2 v3 v4_ v5 v6 v8 : Int32} (hs : sHp h_) : ∃ h', ysm h_ h' ∧ (((∀ a_ j_ : Nat, bpat h' a_ j_ = bpat h_ a_ j_) ∧ (bldD 60 194 100 [(6, .int v6), (5, .int v5), (4, .int v4_), (0, .index 338), (1, .int v1_), (2, .int v2), (3, .int v3)] [.int (0 : Int32), .int v8] h_ 85 [(6, .int (v6 + (1 : Int32))), (5, .int (v8 + (0 : Int32))), (4, .int v4_), (0, .index 338), (1, .int v1_), (2, .int v2), (3, .int v3)] [] h'))) := by
  have hA : yas mwaW_A (mwaW_r v1_ v2 v3 v4_ v5 v6 v8) (yg mwaW_s) := ⟨fun q_ hq => absurd hq List.not_mem_nil, fun q_ hq => absurd hq List.not_mem_nil, fun q_ hq => absurd hq List.not_mem_nil, fun n_ hn => yg_lo hn, fun q_ hq => absurd hq List.not_mem_nil⟩
  have Hs : ysh mwaW_A.1 (yg mwaW_s) h_ := ysh_of2 hs (fun q_ hq => absurd hq List.not_mem_nil)
  have Ho : ymem (mwaW_r v1_ v2 v3 v4_ v5 v6 v8) (yg mwaW_s) mwaW_O h_ := fun q_ hq => absurd hq List.not_mem_nil
  have HC : ∀ q_ ∈ mwaW_C, xhold (mwaW_r v1_ v2 v3 v4_ v5 v6 v8) q_ := fun q_ hq => absurd hq List.not_mem_nil
  rcases yrun (yis_ok mwaW_k) hA Hs Ho HC with ⟨q_, hq, h', K_, G_⟩ | ⟨q_, hq, h', K_, G_⟩
  · have e_ := List.mem_singleton.mp hq
    subst e_
    exact ⟨h', yfr_sm K_.2.2.2 hs K_.1 (ywa_s mwaW_w List.mem_cons_self), ⟨fun a_ j_ => yfr_bp K_.2.2.2 (fun q_ hq => absurd hq List.not_mem_nil), G_⟩⟩
  · cases hq
-- mwaX: 5 steps, 0 ends, 1 returns
def mwaX_L : List (Nat × Nat × Nat) := []
def mwaX_O : yO := []
def mwaX_A : yA := (yZ mwaX_L, [], [], [], [])
def mwaX_C : List xB := [(.le, .arg 6, .arg 4, false)]
def mwaX_ss : List yS := []
def mwaX_rs : List yR := [(some (.arg 5), [], [(.le, .arg 6, .arg 4, false)], [])]
theorem mwaX_w : ywa mwaX_A mwaX_ss mwaX_rs = true := by decide +kernel
theorem mwaX_k : yis (yev mwaX_A 3000 60 194 [] (85, [(6, .arg 6), (5, .arg 5), (4, .arg 4), (0, .index 338), (1, .arg 1), (2, .arg 2), (3, .arg 3)], [], mwaX_O, mwaX_C, [])) mwaX_ss mwaX_rs = true := by decide +kernel
def mwaX_r (v1_ v2 v3 v4_ v5 v6 : Int32) (k_ : Nat) : Value := bif Nat.beq k_ 1 then .int v1_ else (bif Nat.beq k_ 2 then .int v2 else (bif Nat.beq k_ 3 then .int v3 else (bif Nat.beq k_ 4 then .int v4_ else (bif Nat.beq k_ 5 then .int v5 else (bif Nat.beq k_ 6 then .int v6 else (.int 0))))))
def mwaX_s (n_ : Nat) : Nat := 0
theorem mwaX {h_ : xH} {v1_ v2 v3 v4_ v5 v6 : Int32} (hs : sHp h_) (c0_ : v4_.toInt < v6.toInt) : ∃ h', ysm h_ h' ∧ (((∀ a_ j_ : Nat, bpat h' a_ j_ = bpat h_ a_ j_) ∧ (∀ D_, 60 ≤ D_ → xrun D_ 194 85 [(6, .int v6), (5, .int v5), (4, .int v4_), (0, .index 338), (1, .int v1_), (2, .int v2), (3, .int v3)] [] h_ (some (.int v5), h', [])))) := by
  have hA : yas mwaX_A (mwaX_r v1_ v2 v3 v4_ v5 v6) (yg mwaX_s) := ⟨fun q_ hq => absurd hq List.not_mem_nil, fun q_ hq => absurd hq List.not_mem_nil, fun q_ hq => absurd hq List.not_mem_nil, fun n_ hn => yg_lo hn, fun q_ hq => absurd hq List.not_mem_nil⟩
  have Hs : ysh mwaX_A.1 (yg mwaX_s) h_ := ysh_of2 hs (fun q_ hq => absurd hq List.not_mem_nil)
  have Ho : ymem (mwaX_r v1_ v2 v3 v4_ v5 v6) (yg mwaX_s) mwaX_O h_ := fun q_ hq => absurd hq List.not_mem_nil
  have HC : ∀ q_ ∈ mwaX_C, xhold (mwaX_r v1_ v2 v3 v4_ v5 v6) q_ := List.forall_mem_cons.mpr ⟨xh_leF c0_, fun q_ hq => absurd hq List.not_mem_nil⟩
  rcases yrun (yis_ok mwaX_k) hA Hs Ho HC with ⟨q_, hq, h', K_, G_⟩ | ⟨q_, hq, h', K_, G_⟩
  · cases hq
  · have e_ := List.mem_singleton.mp hq
    subst e_
    exact ⟨h', yfr_sm K_.2.2.2 hs K_.1 (ywa_r mwaX_w List.mem_cons_self), ⟨fun a_ j_ => yfr_bp K_.2.2.2 (fun q_ hq => absurd hq List.not_mem_nil), G_⟩⟩
section
variable {W_ : Nat → List Int32} {V : Nat → Int32} {h_ : xH}
-- ===== sums
def smR (f_ : Nat → Nat) (r_ n_ : Nat) : Nat := match n_ with
  | 0 => 0
  | n_ + 1 => f_ r_ + smR f_ (r_ + 1) n_
theorem smR_c {f_ g_ : Nat → Nat} : ∀ (n_ r_ : Nat), (∀ i_, r_ ≤ i_ → i_ < r_ + n_ → f_ i_ = g_ i_) → smR f_ r_ n_ = smR g_ r_ n_ := by
  intro n_
  induction n_ with
  | zero => intro r_ _; rfl
  | succ n_ ih_ =>
    intro r_ e_
    show f_ r_ + smR f_ (r_ + 1) n_ = g_ r_ + smR g_ (r_ + 1) n_
    rw [e_ r_ (Nat.le_refl _) (by omega), ih_ (r_ + 1) (fun i_ h1 h2 => e_ i_ (by omega) (by omega))]
theorem smR_a {f_ g_ : Nat → Nat} : ∀ (n_ r_ : Nat), smR (fun i_ => f_ i_ + g_ i_) r_ n_ = smR f_ r_ n_ + smR g_ r_ n_ := by
  intro n_
  induction n_ with
  | zero => intro r_; rfl
  | succ n_ ih_ =>
    intro r_
    show f_ r_ + g_ r_ + smR (fun i_ => f_ i_ + g_ i_) (r_ + 1) n_ = (f_ r_ + smR f_ (r_ + 1) n_) + (g_ r_ + smR g_ (r_ + 1) n_)
    rw [ih_]
    omega
theorem smR_p {f_ : Nat → Nat} {b_ : Nat} : ∀ (a_ r_ : Nat), smR f_ r_ (a_ + b_) = smR f_ r_ a_ + smR f_ (r_ + a_) b_ := by
  intro a_
  induction a_ with
  | zero => intro r_; rw [Nat.zero_add, Nat.add_zero]; exact (Nat.zero_add _).symm
  | succ a_ ih_ =>
    intro r_
    rw [show a_ + 1 + b_ = (a_ + b_) + 1 by omega]
    show f_ r_ + smR f_ (r_ + 1) (a_ + b_) = (f_ r_ + smR f_ (r_ + 1) a_) + smR f_ (r_ + (a_ + 1)) b_
    rw [ih_, show r_ + 1 + a_ = r_ + (a_ + 1) by omega, Nat.add_assoc]
theorem smR_h {f_ : Nat → Nat} {a_ : Nat} : ∀ (n_ r_ : Nat), smR f_ (r_ + a_) n_ = smR (fun i_ => f_ (i_ + a_)) r_ n_ := by
  intro n_
  induction n_ with
  | zero => intro r_; rfl
  | succ n_ ih_ =>
    intro r_
    show f_ (r_ + a_) + smR f_ (r_ + a_ + 1) n_ = f_ (r_ + a_) + smR (fun i_ => f_ (i_ + a_)) (r_ + 1) n_
    rw [← ih_, show r_ + a_ + 1 = r_ + 1 + a_ by omega]
theorem smR_z {f_ : Nat → Nat} : ∀ (n_ r_ : Nat), (∀ i_, r_ ≤ i_ → i_ < r_ + n_ → f_ i_ = 0) → smR f_ r_ n_ = 0 := by
  intro n_
  induction n_ with
  | zero => intro r_ _; rfl
  | succ n_ ih_ =>
    intro r_ e_
    show f_ r_ + smR f_ (r_ + 1) n_ = 0
    rw [e_ r_ (Nat.le_refl _) (by omega), ih_ (r_ + 1) (fun i_ h1 h2 => e_ i_ (by omega) (by omega))]
theorem smR_m {f_ : Nat → Nat} : ∀ (n_ r_ : Nat), smR f_ (10 * r_) (10 * n_) = smR (fun q_ => smR f_ (10 * q_) 10) r_ n_ := by
  intro n_
  induction n_ with
  | zero => intro r_; rfl
  | succ n_ ih_ =>
    intro r_
    rw [show 10 * (n_ + 1) = 10 + 10 * n_ by omega, smR_p, show 10 * r_ + 10 = 10 * (r_ + 1) by omega, ih_]
    rfl
-- ===== the WAYS of at most k ROCKS, by their first and by their last
def wkC (W_ : Nat → List Int32) (V : Nat → Int32) (p_ : List Int32 → Nat) (k_ : Nat) (l : List Int32) : Nat := match k_ with
  | 0 => p_ l
  | k_ + 1 => p_ l + smR (fun r_ => wkC W_ V p_ k_ (stp W_ V r_ l)) 0 (nR V)
def nxp (W_ : Nat → List Int32) (V : Nat → Int32) (p_ : List Int32 → Nat) (x_ : List Int32) : Nat := smR (fun r_ => p_ (stp W_ V r_ x_)) 0 (nR V)
theorem wkC_n {p_ : List Int32 → Nat} : ∀ (k_ : Nat) (l : List Int32), smR (fun r_ => wkC W_ V p_ k_ (stp W_ V r_ l)) 0 (nR V) = wkC W_ V (nxp W_ V p_) k_ l := by
  intro k_
  induction k_ with
  | zero => intro l; rfl
  | succ k_ ih_ =>
    intro l
    show smR (fun r_ => p_ (stp W_ V r_ l) + smR (fun r2 => wkC W_ V p_ k_ (stp W_ V r2 (stp W_ V r_ l))) 0 (nR V)) 0 (nR V) = nxp W_ V p_ l + smR (fun r_ => wkC W_ V (nxp W_ V p_) k_ (stp W_ V r_ l)) 0 (nR V)
    rw [smR_a, smR_c (f_ := fun r_ => smR (fun r2 => wkC W_ V p_ k_ (stp W_ V r2 (stp W_ V r_ l))) 0 (nR V)) (g_ := fun r_ => wkC W_ V (nxp W_ V p_) k_ (stp W_ V r_ l)) _ _ (fun i_ _ _ => ih_ _)]
    rfl
noncomputable def wyt (W_ : Nat → List Int32) (V : Nat → Int32) (p_ : List Int32 → Nat) (k_ : Nat) (l : List Int32) (w_ : Nat) : Nat := pif (aok (nR V) w_ (wlf k_ w_)) (p_ (hrf (kdV V) (mV_ V) (W_ 23) (dgl w_ (wlf k_ w_)) l)) 0
theorem hrf_ap {kd m_ : Nat → Nat} {xs : List Int32} {d_ : Int32} : ∀ (a_ l : List Int32), hrf kd m_ xs (a_ ++ [d_]) l = sdo (kd d_.toInt.toNat) (m_ d_.toInt.toNat) xs (hrf kd m_ xs a_ l) := by
  intro a_
  induction a_ with
  | nil => intro l; rfl
  | cons x_ t_ ih_ => intro l; exact ih_ _
theorem smR_f {P_ : Prop} {g_ : Nat → Nat} {r_ n_ : Nat} : smR (fun i_ => pif P_ (g_ i_) 0) r_ n_ = pif P_ (smR g_ r_ n_) 0 := by
  by_cases q_ : P_
  · rw [pif_t q_]
    exact smR_c _ _ (fun i_ _ _ => pif_t q_)
  · rw [pif_f q_]
    exact smR_z _ _ (fun i_ _ _ => pif_f q_)
theorem wyt_10 {p_ : List Int32 → Nat} {k_ q_ : Nat} {l : List Int32} (hN_ : nR V ≤ 8) : smR (wyt W_ V p_ (k_ + 1) l) (10 * q_) 10 = wyt W_ V p_ (k_ + 1) l (10 * q_) + wyt W_ V (nxp W_ V p_) k_ l q_ := by
  have N9 : 9 = nR V + (9 - nR V) := by omega
  have e1_ : smR (wyt W_ V p_ (k_ + 1) l) (10 * q_) 10 = wyt W_ V p_ (k_ + 1) l (10 * q_) + smR (wyt W_ V p_ (k_ + 1) l) (10 * q_ + 1) 9 := rfl
  have e2_ : smR (wyt W_ V p_ (k_ + 1) l) (10 * q_ + 1) 9 = smR (wyt W_ V p_ (k_ + 1) l) (10 * q_ + 1) (nR V) + smR (wyt W_ V p_ (k_ + 1) l) (10 * q_ + 1 + nR V) (9 - nR V) := by
    have e_ := smR_p (f_ := wyt W_ V p_ (k_ + 1) l) (b_ := 9 - nR V) (nR V) (10 * q_ + 1)
    rw [← N9] at e_
    exact e_
  have st_ : ∀ d_, 0 < d_ → d_ < 10 → wlf (k_ + 1) (10 * q_ + d_) = wlf k_ q_ + 1 ∧ ((10 * q_ + d_) % 10 = d_ ∧ (10 * q_ + d_) / 10 = q_) := by
    intro d_ d0_ d9_
    have e3_ : (10 * q_ + d_) / 10 = q_ := by omega
    refine ⟨?_, by omega, e3_⟩
    rw [wlf_s (by omega), e3_]
  have e3_ : smR (wyt W_ V p_ (k_ + 1) l) (10 * q_ + 1 + nR V) (9 - nR V) = 0 := by
    refine smR_z _ _ (fun i_ h1 h2 => ?_)
    obtain ⟨s1_, s2_, s3_⟩ := st_ (i_ - 10 * q_) (by omega) (by omega)
    rw [show 10 * q_ + (i_ - 10 * q_) = i_ by omega] at s1_ s2_ s3_
    unfold wyt
    refine pif_f (fun a_ => ?_)
    rw [s1_, aok_l, s2_] at a_
    have := a_.1.2
    omega
  have e4_ : smR (wyt W_ V p_ (k_ + 1) l) (10 * q_ + 1) (nR V) = wyt W_ V (nxp W_ V p_) k_ l q_ := by
    have e_ := smR_h (f_ := wyt W_ V p_ (k_ + 1) l) (a_ := 10 * q_ + 1) (nR V) 0
    rw [Nat.zero_add] at e_
    rw [e_]
    show _ = pif (aok (nR V) q_ (wlf k_ q_)) (smR (fun r_ => p_ (stp W_ V r_ (hrf (kdV V) (mV_ V) (W_ 23) (dgl q_ (wlf k_ q_)) l))) 0 (nR V)) 0
    rw [← smR_f]
    refine smR_c _ _ (fun i_ _ h2 => ?_)
    obtain ⟨s1_, s2_, s3_⟩ := st_ (i_ + 1) (by omega) (by omega)
    rw [show 10 * q_ + (i_ + 1) = i_ + (10 * q_ + 1) by omega] at s1_ s2_ s3_
    show wyt W_ V p_ (k_ + 1) l (i_ + (10 * q_ + 1)) = _
    unfold wyt
    rw [s1_]
    have ea : aok (nR V) (i_ + (10 * q_ + 1)) (wlf k_ q_ + 1) ↔ aok (nR V) q_ (wlf k_ q_) := by
      rw [aok_l, s2_, s3_]
      exact ⟨fun z_ => z_.2, fun z_ => ⟨⟨by omega, by omega⟩, z_⟩⟩
    by_cases g_ : aok (nR V) q_ (wlf k_ q_)
    · rw [pif_t (ea.mpr g_), pif_t g_, dgl_lo, hrf_ap, s2_, s3_]
      have ei : (Int32.ofNat (i_ + 1) - 1).toInt.toNat = i_ := by
        have e1_ : Int32.ofNat (i_ + 1) - 1 = Int32.ofNat (i_ + 1 - 1) := i32w (k_ := 1) (by omega) (by omega)
        rw [e1_, Nat.add_sub_cancel]
        exact i32t (by omega)
      rw [ei]
      rfl
    · rw [pif_f (fun z_ => g_ (ea.mp z_)), pif_f g_]
  rw [e1_, e2_, e3_, e4_]
  rfl
theorem wyt_0 {p_ : List Int32 → Nat} {k_ : Nat} {l : List Int32} : wyt W_ V p_ k_ l 0 = p_ l := by
  unfold wyt
  rw [wlf_0]
  exact pif_t (fun j_ hj => absurd hj (Nat.not_lt_zero _))
theorem wyt_s {p_ : List Int32 → Nat} (hN_ : nR V ≤ 8) : ∀ (k_ : Nat) (l : List Int32), smR (wyt W_ V p_ (k_ + 1) l) 0 (10 ^ (k_ + 1)) = p_ l + smR (wyt W_ V (nxp W_ V p_) k_ l) 0 (10 ^ k_) := by
  intro k_ l
  have e_ := smR_m (f_ := wyt W_ V p_ (k_ + 1) l) (10 ^ k_) 0
  rw [Nat.mul_zero, show 10 * 10 ^ k_ = 10 ^ (k_ + 1) by rw [Nat.pow_succ, Nat.mul_comm]] at e_
  rw [e_, smR_c (g_ := fun q_ => wyt W_ V p_ (k_ + 1) l (10 * q_) + wyt W_ V (nxp W_ V p_) k_ l q_) _ _ (fun i_ _ _ => wyt_10 hN_), smR_a]
  refine congrArg (· + smR (wyt W_ V (nxp W_ V p_) k_ l) 0 (10 ^ k_)) ?_
  have p0_ : 0 < 10 ^ k_ := Nat.pow_pos (by omega)
  have e2_ := smR_p (f_ := fun q_ => wyt W_ V p_ (k_ + 1) l (10 * q_)) (b_ := 10 ^ k_ - 1) 1 0
  rw [show 1 + (10 ^ k_ - 1) = 10 ^ k_ by omega] at e2_
  rw [e2_, smR_z (10 ^ k_ - 1) (0 + 1) (fun i_ h1 _ => ?_)]
  · show wyt W_ V p_ (k_ + 1) l (10 * 0) + 0 + 0 = p_ l
    rw [Nat.mul_zero, wyt_0]
    rfl
  · show wyt W_ V p_ (k_ + 1) l (10 * i_) = 0
    unfold wyt
    refine pif_f (fun a_ => ?_)
    rw [wlf_s (by omega), aok_l] at a_
    exact a_.1.1 (by omega)
theorem wyt_C (hN_ : nR V ≤ 8) : ∀ (k_ : Nat) (p_ : List Int32 → Nat) (l : List Int32), smR (wyt W_ V p_ k_ l) 0 (10 ^ k_) = wkC W_ V p_ k_ l := by
  intro k_
  induction k_ with
  | zero =>
    intro p_ l
    show wyt W_ V p_ 0 l 0 + 0 = p_ l
    rw [wyt_0]
    rfl
  | succ k_ ih_ =>
    intro p_ l
    rw [wyt_s hN_, ih_]
    show _ = p_ l + smR (fun r_ => wkC W_ V p_ k_ (stp W_ V r_ l)) 0 (nR V)
    rw [wkC_n]
theorem wlf_up : ∀ (k_ j_ m_ : Nat), m_ < 10 ^ k_ → wlf (k_ + j_) m_ = wlf k_ m_ := by
  intro k_
  induction k_ with
  | zero =>
    intro j_ m_ hm_
    have e_ : m_ = 0 := by simpa using hm_
    rw [e_, wlf_0, wlf_0]
  | succ k_ ih_ =>
    intro j_ m_ hm_
    by_cases z_ : m_ = 0
    · rw [z_, wlf_0, wlf_0]
    · rw [show k_ + 1 + j_ = (k_ + j_) + 1 by omega, wlf_s z_, wlf_s z_, ih_ j_ (m_ / 10) (by rw [Nat.pow_succ] at hm_; omega)]
def isg (g_ : List Int32) (x_ : List Int32) : Nat := if x_ = g_ then 1 else 0
/-- one WAY, counted or not -/
noncomputable def wy1 (W_ : Nat → List Int32) (V : Nat → Int32) (g_ l : List Int32) (w_ : Nat) : Nat := pif (isW (nR V) (Int32.ofNat w_)) (isg g_ (hrd W_ V (Int32.ofNat w_) l)) 0
theorem wy1_C (hN_ : nR V ≤ 8) {g_ l : List Int32} {k_ : Nat} (hk : k_ ≤ 3) : smR (wy1 W_ V g_ l) 0 (10 ^ k_) = wkC W_ V (isg g_) k_ l := by
  rw [← wyt_C hN_]
  have kb : 10 ^ k_ ≤ 1000 := by
    have e_ : (1000 : Nat) = 10 ^ 3 := rfl
    rw [e_]
    exact Nat.pow_le_pow_right (by omega) hk
  refine smR_c _ _ (fun i_ _ h2 => ?_)
  have ei := i32n (i_ := i_) (by omega)
  have et : (Int32.ofNat i_).toInt.toNat = i_ := i32t (by omega)
  have ew : wln i_ = wlf k_ i_ := by
    have e_ := wlf_up k_ (5 - k_) i_ (by omega)
    rw [show k_ + (5 - k_) = 5 by omega] at e_
    exact e_
  have ea : isW (nR V) (Int32.ofNat i_) ↔ aok (nR V) i_ (wlf k_ i_) := by
    unfold isW
    rw [et, ew]
    exact ⟨fun z_ => z_.2, fun z_ => ⟨⟨by omega, by omega⟩, z_⟩⟩
  unfold wy1 wyt hrd wyl
  rw [et, ew]
  by_cases q_ : aok (nR V) i_ (wlf k_ i_)
  · rw [pif_t (ea.mpr q_), pif_t q_]
  · rw [pif_f (fun z_ => q_ (ea.mp z_)), pif_f q_]
noncomputable def waysF (W_ : Nat → List Int32) (V : Nat → Int32) (z_ y_ k_ : Int32) : (Nat → List Int32) × (Nat → Int32) × Int32 := pif (((0 ≤ z_.toInt ∧ z_.toInt < (V 0).toInt) ∧ (0 ≤ y_.toInt ∧ y_.toInt < (V 0).toInt)) ∧ (0 ≤ k_.toInt ∧ k_.toInt ≤ 3)) (W_, V, Int32.ofNat (wkC W_ V (isg (W_ y_.toInt.toNat)) k_.toInt.toNat (W_ z_.toInt.toNat))) (W_, V, Int32.ofInt (-1000001))
theorem ok_ways (K_ : okS W_ V) (z_ y_ k_ : Int32) : okS (waysF W_ V z_ y_ k_).1 (waysF W_ V z_ y_ k_).2.1 := by
  unfold waysF pif
  split <;> exact K_
-- ===== the class
def wyF (k_ : Nat) (h_ h' : xH) : Prop := ysm h_ h' ∧ ∀ c_ j_, ¬ (332 ≤ c_ ∧ c_ < 332 + 2 * k_) → ¬ c_ = 33 → ¬ c_ = 69 → bpat h' c_ j_ = bpat h_ c_ j_
theorem wyF_0 {k_ : Nat} {h_ h' : xH} (m_ : ysm h_ h') (f_ : ∀ c_ j_, bpat h' c_ j_ = bpat h_ c_ j_) : wyF k_ h_ h' := ⟨m_, fun c_ j_ _ _ _ => f_ c_ j_⟩
theorem wyF_t {k_ : Nat} {x_ y_ z_ : xH} (h1 : wyF k_ x_ y_) (h2 : wyF k_ y_ z_) : wyF k_ x_ z_ := ⟨ysm_tr h1.1 h2.1, fun c_ j_ q1_ q2_ q3_ => (h2.2 c_ j_ q1_ q2_ q3_).trans (h1.2 c_ j_ q1_ q2_ q3_)⟩
theorem wyF_u {k_ k2_ : Nat} {x_ y_ : xH} (hk : k_ ≤ k2_) (h1 : wyF k_ x_ y_) : wyF k2_ x_ y_ := ⟨h1.1, fun c_ j_ q1_ q2_ q3_ => h1.2 c_ j_ (by omega) q2_ q3_⟩
theorem wyF_w {k_ a_ ia : Nat} {x_ y_ : xH} {l : List Int32} (R_ : rW a_ ia x_ l) (S_ : sHp y_) (F_ : wyF k_ x_ y_) (na : ¬ (332 ≤ a_ ∧ a_ < 332 + 2 * k_) ∧ (¬ a_ = 33 ∧ ¬ a_ = 69)) (ni : ¬ (332 ≤ ia ∧ ia < 332 + 2 * k_) ∧ (¬ ia = 33 ∧ ¬ ia = 69)) : rW a_ ia y_ l := ⟨S_, rwx_keep R_.2.1 F_.1 (fun c_ j_ q_ => by rcases q_ with rfl | rfl; exact F_.2 c_ j_ na.1 na.2.1 na.2.2; exact F_.2 c_ j_ ni.1 ni.2.1 ni.2.2), R_.2.2⟩
theorem wyX0 {a_ ia c_ : Nat} {l : List Int32} (K_ : okS W_ V) (hc_ : c_ < 12) (na : ¬ (332 ≤ a_ ∧ a_ < 332 + 2 * 0) ∧ (¬ a_ = 33 ∧ ¬ a_ = 69)) (ni : ¬ (332 ≤ ia ∧ ia < 332 + 2 * 0) ∧ (¬ ia = 33 ∧ ¬ ia = 69)) : ∀ (h_ : xH), SX W_ V h_ → rW a_ ia h_ l → ∃ h', (SX W_ V h' ∧ wyF 0 h_ h') ∧ ∀ D_, 64 ≤ D_ → xrun D_ 129 0 [(0, .index 0), (1, .index a_), (2, .index (34 + 2 * c_)), (3, .int 0)] [] h_ (some (.int (Int32.ofNat (wkC W_ V (isg (W_ c_)) 0 l))), h', []) := by
  intro h_ H_ R_
  have s2_ := (cl_s H_.1 hc_).2.1
  have ev_ : wkC W_ V (isg (W_ c_)) 0 l = if l = W_ c_ then 1 else 0 := rfl
  rw [ev_]
  obtain ⟨h1, m1_, f1_, ld1⟩ := xwyE0 H_.1 R_.2.1.1.1 s2_
  have H1_ := SX_fr H_ m1_ (fun c_ j_ _ => f1_ c_ j_)
  have R1 := rW_all R_ m1_ f1_
  have RC := SX_w H1_ (cl_x hc_)
  obtain ⟨h2, m2_, f2_, r2⟩ := ilX H1_.1 R1.2.1 RC
  have ld2 := ycv (d_ := 62) (mi := 129) (pc := 2) (cm := 41) (lo_ := [(0, .index 0), (1, .index a_), (2, .index (34 + 2 * c_)), (3, .int 0)]) (st_ := [.index (34 + 2 * c_), .index a_]) (as_ := [.index (34 + 2 * c_)]) (s' := []) rfl rfl R1.2.1.1.1 rfl (xcc_l (List.forall_mem_cons.mpr ⟨xidx_i (bcq_lt (bcq_of (n_ := 0) (z_ := (11, 15)) H1_.1 rfl)), List.forall_mem_cons.mpr ⟨xidx_i (bcq_lt R1.2.1.1.1), List.forall_mem_cons.mpr ⟨xidx_i (bcq_lt (cl_s H1_.1 hc_).2.1), List.forall_mem_cons.mpr ⟨rfl, fun q_ hq => absurd hq List.not_mem_nil⟩⟩⟩⟩) (fun t_ ht => absurd ht List.not_mem_nil) (Nat.le_of_ble_eq_true rfl)) r2
  have H2_ := SX_fr H1_ m2_ (fun c_ j_ _ => f2_ c_ j_)
  have R2 := rW_all R1 m2_ f2_
  have t2_ := (cl_s H2_.1 hc_).2.1
  have F2 : wyF 0 h_ h2 := wyF_t (wyF_0 m1_ f1_) (wyF_0 m2_ f2_)
  by_cases q_ : l = W_ c_
  · rw [if_pos q_] at ld2 ⊢
    obtain ⟨h3, m3_, f3_, r3⟩ := xwyZ1 H2_.1 R2.2.1.1.1 t2_
    exact ⟨h3, ⟨SX_fr H2_ m3_ (fun c_ j_ _ => f3_ c_ j_), wyF_t F2 (wyF_0 m3_ f3_)⟩, fun D_ hD => ld1 D_ (by omega) _ (ld2 D_ (by omega) _ (r3 D_ (by omega)))⟩
  · rw [if_neg q_] at ld2 ⊢
    obtain ⟨h3, m3_, f3_, r3⟩ := xwyZ0 H2_.1 R2.2.1.1.1 t2_
    exact ⟨h3, ⟨SX_fr H2_ m3_ (fun c_ j_ _ => f3_ c_ j_), wyF_t F2 (wyF_0 m3_ f3_)⟩, fun D_ hD => ld1 D_ (by omega) _ (ld2 D_ (by omega) _ (r3 D_ (by omega)))⟩
theorem wyL1 {a_ ia c_ : Nat} {l : List Int32} (K_ : okS W_ V) (hc_ : c_ < 12) (na : ¬ (332 ≤ a_ ∧ a_ < 332 + 2 * 1) ∧ (¬ a_ = 33 ∧ ¬ a_ = 69)) (ni : ¬ (332 ≤ ia ∧ ia < 332 + 2 * 1) ∧ (¬ ia = 33 ∧ ¬ ia = 69)) : ∀ (n_ r_ f_ : Nat) (h_ : xH) (lo_ : xL), r_ + n_ = nR V → SX W_ V h_ → rW a_ ia h_ l → (lo_ = [(6, .int (Int32.ofNat r_)), (5, .index 332), (4, .int (Int32.ofNat f_)), (0, .index 0), (1, .index a_), (2, .index (34 + 2 * c_)), (3, .int 1)] ∨ lo_ = [(6, .int (Int32.ofNat r_)), (4, .int (Int32.ofNat f_)), (5, .index 332), (0, .index 0), (1, .index a_), (2, .index (34 + 2 * c_)), (3, .int 1)]) → ∃ h', (SX W_ V h' ∧ wyF 1 h_ h') ∧ ∀ D_, 66 ≤ D_ → xrun D_ 129 44 lo_ [] h_ (some (.int (Int32.ofNat (f_ + smR (fun r_ => wkC W_ V (isg (W_ c_)) 0 (stp W_ V r_ l)) r_ n_))), h', []) := by
  intro n_
  have n8 := (nR_le K_).1
  have en := (nR_le K_).2
  induction n_ with
  | zero =>
    intro r_ f_ h_ lo_ hi_ H_ R_ hd_
    have s2_ := (cl_s H_.1 hc_).2.1
    rcases hd_ with rfl | rfl
    · obtain ⟨h1, m1_, f1_, r1_⟩ := xwyX1A (v4_ := Int32.ofNat f_) (v6 := Int32.ofNat r_) (v300 := V 1) H_.1 R_.2.1.1.1 s2_ (SX_v H_ (show ((1, 10), 1) ∈ wvX by decide)) (by rw [en, i32n (by omega), i32n (by omega)]; omega)
      exact ⟨h1, ⟨SX_fr H_ m1_ (fun c_ j_ _ => f1_ c_ j_), wyF_0 m1_ f1_⟩, fun D_ hD => r1_ D_ (by omega)⟩
    · obtain ⟨h1, m1_, f1_, r1_⟩ := xwyX1B (v4_ := Int32.ofNat f_) (v6 := Int32.ofNat r_) (v300 := V 1) H_.1 R_.2.1.1.1 s2_ (SX_v H_ (show ((1, 10), 1) ∈ wvX by decide)) (by rw [en, i32n (by omega), i32n (by omega)]; omega)
      exact ⟨h1, ⟨SX_fr H_ m1_ (fun c_ j_ _ => f1_ c_ j_), wyF_0 m1_ f1_⟩, fun D_ hD => r1_ D_ (by omega)⟩
  | succ n_ ih_ =>
    intro r_ f_ h_ lo_ hi_ H_ R_ hd_
    have r8 : r_ < 8 := by omega
    have ir := i32n (i_ := r_) (by omega)
    have s2_ := (cl_s H_.1 hc_).2.1
    have es : smR (fun r_ => wkC W_ V (isg (W_ c_)) 0 (stp W_ V r_ l)) r_ (n_ + 1) = wkC W_ V (isg (W_ c_)) 0 (stp W_ V r_ l) + smR (fun r_ => wkC W_ V (isg (W_ c_)) 0 (stp W_ V r_ l)) (r_ + 1) n_ := rfl
    rw [es]
    rcases hd_ with rfl | rfl
    · obtain ⟨h1, m1_, f1_, ld1⟩ := xwyT1A (v4_ := Int32.ofNat f_) (v6 := Int32.ofNat r_) (v300 := V 1) H_.1 R_.2.1.1.1 s2_ (SX_v H_ (show ((1, 10), 1) ∈ wvX by decide)) (by rw [en, i32n (by omega), i32n (by omega)]; omega)
      have H1_ := SX_fr H_ m1_ (fun c_ j_ _ => f1_ c_ j_)
      have R1 := rW_all R_ m1_ f1_
      obtain ⟨h2, S2, R2, m2_, f2_, r2⟩ := copyFrom12 (a_ := 332) (ia := 333) H1_.1 (bcq_of (n_ := 332) (z_ := (6, 2)) H1_.1 rfl) (bcq_of (n_ := 333) (z_ := (20, 12)) H1_.1 rfl) (fxr_at H1_.1.2 (show fxk fxl 332 0 = some 333 by decide +kernel)) R1.2.2 R1.2.1
      have ld2 := ycv (d_ := 60) (mi := 129) (pc := 59) (cm := 39) (lo_ := [(6, .int (Int32.ofNat r_)), (5, .index 332), (4, .int (Int32.ofNat f_)), (0, .index 0), (1, .index a_), (2, .index (34 + 2 * c_)), (3, .int 1)]) (st_ := [.index a_, .index 332]) (as_ := [.index a_]) (s' := []) rfl rfl (bcq_of (n_ := 332) (z_ := (6, 2)) H1_.1 rfl) rfl (xcc_l (List.forall_mem_cons.mpr ⟨rfl, List.forall_mem_cons.mpr ⟨xidx_i (bcq_lt (bcq_of (n_ := 332) (z_ := (6, 2)) H1_.1 rfl)), List.forall_mem_cons.mpr ⟨rfl, List.forall_mem_cons.mpr ⟨xidx_i (bcq_lt (bcq_of (n_ := 0) (z_ := (11, 15)) H1_.1 rfl)), List.forall_mem_cons.mpr ⟨xidx_i (bcq_lt R1.2.1.1.1), List.forall_mem_cons.mpr ⟨xidx_i (bcq_lt (cl_s H1_.1 hc_).2.1), List.forall_mem_cons.mpr ⟨rfl, fun q_ hq => absurd hq List.not_mem_nil⟩⟩⟩⟩⟩⟩⟩) (fun t_ ht => absurd ht List.not_mem_nil) (Nat.le_of_ble_eq_true rfl)) r2
      have H2_ := SX_fr H1_ m2_ (fun c_ j_ hc_ => f2_ c_ j_ (fun q_ => by rw [q_] at hc_; exact absurd hc_ (by decide)) (fun q_ => by rw [q_] at hc_; exact absurd hc_ (by decide)))
      have F2 : wyF 1 h1 h2 := ⟨m2_, fun c_ j_ q1_ _ _ => f2_ c_ j_ (by omega) (by omega)⟩
      have R2a := wyF_w R1 H2_.1 F2 na ni
      have R2' : rW 332 333 h2 l := ⟨S2, R2, R1.2.2⟩
      obtain ⟨p1_, p2_⟩ := rck_ok (k_ := r_) H2_.1 r8
      have t2_ := (cl_s H2_.1 hc_).2.1
      obtain ⟨h3, m3_, f3_, ld3⟩ := xwyU1A (v4_ := Int32.ofNat f_) (v6 := Int32.ofNat r_) H2_.1 R2a.2.1.1.1 t2_ p2_ (by rw [i32t (by omega)]; exact p1_) ⟨by omega, by omega⟩
      have H3 := SX_fr H2_ m3_ (fun c_ j_ _ => f3_ c_ j_)
      have R3a := rW_all R2a m3_ f3_
      have t3_ := (cl_s H3.1 hc_).2.1
      obtain ⟨h4, ⟨H4, F4⟩, R4, ld4⟩ := c_sb (a_ := 332) (b_ := 333) (mi := 129) (pc := 78) (k_ := r_) (lo_ := [(6, .int (Int32.ofNat r_)), (5, .index 332), (4, .int (Int32.ofNat f_)), (0, .index 0), (1, .index a_), (2, .index (34 + 2 * c_)), (3, .int 1)]) (s' := []) rfl (xcc_l (List.forall_mem_cons.mpr ⟨rfl, List.forall_mem_cons.mpr ⟨xidx_i (bcq_lt (bcq_of (n_ := 332) (z_ := (6, 2)) H3.1 rfl)), List.forall_mem_cons.mpr ⟨rfl, List.forall_mem_cons.mpr ⟨xidx_i (bcq_lt (bcq_of (n_ := 0) (z_ := (11, 15)) H3.1 rfl)), List.forall_mem_cons.mpr ⟨xidx_i (bcq_lt R3a.2.1.1.1), List.forall_mem_cons.mpr ⟨xidx_i (bcq_lt t3_), List.forall_mem_cons.mpr ⟨rfl, fun q_ hq => absurd hq List.not_mem_nil⟩⟩⟩⟩⟩⟩⟩) (fun t_ ht => absurd ht List.not_mem_nil) (Nat.le_of_ble_eq_true rfl)) K_ H3 r8 (by decide) (by decide) (by decide) (rW_all R2' m3_ f3_)
      have F4' : wyF 1 h3 h4 := ⟨F4.1, fun c_ j_ q1_ q2_ q3_ => F4.2 c_ j_ (by omega) (by omega) q2_ q3_⟩
      have R4a := wyF_w R3a H4.1 F4' na ni
      have t4_ := (cl_s H4.1 hc_).2.1
      obtain ⟨h5, m5_, f5_, ld5⟩ := xwyV1A (v4_ := Int32.ofNat f_) (v6 := Int32.ofNat r_) H4.1 R4a.2.1.1.1 t4_
      have H5 := SX_fr H4 m5_ (fun c_ j_ _ => f5_ c_ j_)
      have R5a := rW_all R4a m5_ f5_
      have t5_ := (cl_s H5.1 hc_).2.1
      obtain ⟨h6, ⟨H6, F6⟩, r6⟩ := wyX0 (a_ := 332) (ia := 333) K_ hc_ (by decide) (by decide) h5 H5 (rW_all R4 m5_ f5_)
      have ld6 := ycv (d_ := 64) (mi := 129) (pc := 90) (cm := 129) (lo_ := [(6, .int (Int32.ofNat r_)), (5, .index 332), (4, .int (Int32.ofNat f_)), (0, .index 0), (1, .index a_), (2, .index (34 + 2 * c_)), (3, .int 1)]) (st_ := [.int 0, .index (34 + 2 * c_), .index 332, .index 0, .int (Int32.ofNat f_)]) (as_ := [.index 332, .index (34 + 2 * c_), .int 0]) (s' := [.int (Int32.ofNat f_)]) rfl rfl (bcq_of (n_ := 0) (z_ := (11, 15)) H5.1 rfl) rfl (xcc_l (List.forall_mem_cons.mpr ⟨rfl, List.forall_mem_cons.mpr ⟨xidx_i (bcq_lt (bcq_of (n_ := 332) (z_ := (6, 2)) H5.1 rfl)), List.forall_mem_cons.mpr ⟨rfl, List.forall_mem_cons.mpr ⟨xidx_i (bcq_lt (bcq_of (n_ := 0) (z_ := (11, 15)) H5.1 rfl)), List.forall_mem_cons.mpr ⟨xidx_i (bcq_lt R5a.2.1.1.1), List.forall_mem_cons.mpr ⟨xidx_i (bcq_lt t5_), List.forall_mem_cons.mpr ⟨rfl, fun q_ hq => absurd hq List.not_mem_nil⟩⟩⟩⟩⟩⟩⟩) (List.forall_mem_cons.mpr ⟨⟨rfl, rfl⟩, fun t_ ht => absurd ht List.not_mem_nil⟩) (Nat.le_of_ble_eq_true rfl)) r6
      have F6' : wyF 1 h5 h6 := wyF_u (by omega) F6
      have R6a := wyF_w R5a H6.1 F6' na ni
      have t6 := (cl_s H6.1 hc_).2.1
      obtain ⟨h7, m7_, f7_, ld7⟩ := xwyW1A (v4_ := Int32.ofNat f_) (v6 := Int32.ofNat r_) (v7 := Int32.ofNat (wkC W_ V (isg (W_ c_)) 0 (stp W_ V r_ l))) (v8 := Int32.ofNat f_) H6.1 R6a.2.1.1.1 t6
      rw [i32s, i32p] at ld7
      obtain ⟨h8, ⟨H8, F8⟩, r8_⟩ := ih_ (r_ + 1) (f_ + wkC W_ V (isg (W_ c_)) 0 (stp W_ V r_ l)) h7 _ (by omega) (SX_fr H6 m7_ (fun c_ j_ _ => f7_ c_ j_)) (rW_all R6a m7_ f7_) (Or.inr rfl)
      rw [Nat.add_assoc] at r8_
      exact ⟨h8, ⟨H8, wyF_t (wyF_0 m1_ f1_) (wyF_t F2 (wyF_t (wyF_0 m3_ f3_) (wyF_t F4' (wyF_t (wyF_0 m5_ f5_) (wyF_t F6' (wyF_t (wyF_0 m7_ f7_) F8))))))⟩, fun D_ hD => ld1 D_ (by omega) _ (ld2 D_ (by omega) _ (ld3 D_ (by omega) _ (ld4 D_ (by omega) _ (ld5 D_ (by omega) _ (ld6 D_ (by omega) _ (ld7 D_ (by omega) _ (r8_ D_ hD)))))))⟩
    · obtain ⟨h1, m1_, f1_, ld1⟩ := xwyT1B (v4_ := Int32.ofNat f_) (v6 := Int32.ofNat r_) (v300 := V 1) H_.1 R_.2.1.1.1 s2_ (SX_v H_ (show ((1, 10), 1) ∈ wvX by decide)) (by rw [en, i32n (by omega), i32n (by omega)]; omega)
      have H1_ := SX_fr H_ m1_ (fun c_ j_ _ => f1_ c_ j_)
      have R1 := rW_all R_ m1_ f1_
      obtain ⟨h2, S2, R2, m2_, f2_, r2⟩ := copyFrom12 (a_ := 332) (ia := 333) H1_.1 (bcq_of (n_ := 332) (z_ := (6, 2)) H1_.1 rfl) (bcq_of (n_ := 333) (z_ := (20, 12)) H1_.1 rfl) (fxr_at H1_.1.2 (show fxk fxl 332 0 = some 333 by decide +kernel)) R1.2.2 R1.2.1
      have ld2 := ycv (d_ := 60) (mi := 129) (pc := 59) (cm := 39) (lo_ := [(6, .int (Int32.ofNat r_)), (4, .int (Int32.ofNat f_)), (5, .index 332), (0, .index 0), (1, .index a_), (2, .index (34 + 2 * c_)), (3, .int 1)]) (st_ := [.index a_, .index 332]) (as_ := [.index a_]) (s' := []) rfl rfl (bcq_of (n_ := 332) (z_ := (6, 2)) H1_.1 rfl) rfl (xcc_l (List.forall_mem_cons.mpr ⟨rfl, List.forall_mem_cons.mpr ⟨rfl, List.forall_mem_cons.mpr ⟨xidx_i (bcq_lt (bcq_of (n_ := 332) (z_ := (6, 2)) H1_.1 rfl)), List.forall_mem_cons.mpr ⟨xidx_i (bcq_lt (bcq_of (n_ := 0) (z_ := (11, 15)) H1_.1 rfl)), List.forall_mem_cons.mpr ⟨xidx_i (bcq_lt R1.2.1.1.1), List.forall_mem_cons.mpr ⟨xidx_i (bcq_lt (cl_s H1_.1 hc_).2.1), List.forall_mem_cons.mpr ⟨rfl, fun q_ hq => absurd hq List.not_mem_nil⟩⟩⟩⟩⟩⟩⟩) (fun t_ ht => absurd ht List.not_mem_nil) (Nat.le_of_ble_eq_true rfl)) r2
      have H2_ := SX_fr H1_ m2_ (fun c_ j_ hc_ => f2_ c_ j_ (fun q_ => by rw [q_] at hc_; exact absurd hc_ (by decide)) (fun q_ => by rw [q_] at hc_; exact absurd hc_ (by decide)))
      have F2 : wyF 1 h1 h2 := ⟨m2_, fun c_ j_ q1_ _ _ => f2_ c_ j_ (by omega) (by omega)⟩
      have R2a := wyF_w R1 H2_.1 F2 na ni
      have R2' : rW 332 333 h2 l := ⟨S2, R2, R1.2.2⟩
      obtain ⟨p1_, p2_⟩ := rck_ok (k_ := r_) H2_.1 r8
      have t2_ := (cl_s H2_.1 hc_).2.1
      obtain ⟨h3, m3_, f3_, ld3⟩ := xwyU1B (v4_ := Int32.ofNat f_) (v6 := Int32.ofNat r_) H2_.1 R2a.2.1.1.1 t2_ p2_ (by rw [i32t (by omega)]; exact p1_) ⟨by omega, by omega⟩
      have H3 := SX_fr H2_ m3_ (fun c_ j_ _ => f3_ c_ j_)
      have R3a := rW_all R2a m3_ f3_
      have t3_ := (cl_s H3.1 hc_).2.1
      obtain ⟨h4, ⟨H4, F4⟩, R4, ld4⟩ := c_sb (a_ := 332) (b_ := 333) (mi := 129) (pc := 78) (k_ := r_) (lo_ := [(6, .int (Int32.ofNat r_)), (4, .int (Int32.ofNat f_)), (5, .index 332), (0, .index 0), (1, .index a_), (2, .index (34 + 2 * c_)), (3, .int 1)]) (s' := []) rfl (xcc_l (List.forall_mem_cons.mpr ⟨rfl, List.forall_mem_cons.mpr ⟨rfl, List.forall_mem_cons.mpr ⟨xidx_i (bcq_lt (bcq_of (n_ := 332) (z_ := (6, 2)) H3.1 rfl)), List.forall_mem_cons.mpr ⟨xidx_i (bcq_lt (bcq_of (n_ := 0) (z_ := (11, 15)) H3.1 rfl)), List.forall_mem_cons.mpr ⟨xidx_i (bcq_lt R3a.2.1.1.1), List.forall_mem_cons.mpr ⟨xidx_i (bcq_lt t3_), List.forall_mem_cons.mpr ⟨rfl, fun q_ hq => absurd hq List.not_mem_nil⟩⟩⟩⟩⟩⟩⟩) (fun t_ ht => absurd ht List.not_mem_nil) (Nat.le_of_ble_eq_true rfl)) K_ H3 r8 (by decide) (by decide) (by decide) (rW_all R2' m3_ f3_)
      have F4' : wyF 1 h3 h4 := ⟨F4.1, fun c_ j_ q1_ q2_ q3_ => F4.2 c_ j_ (by omega) (by omega) q2_ q3_⟩
      have R4a := wyF_w R3a H4.1 F4' na ni
      have t4_ := (cl_s H4.1 hc_).2.1
      obtain ⟨h5, m5_, f5_, ld5⟩ := xwyV1B (v4_ := Int32.ofNat f_) (v6 := Int32.ofNat r_) H4.1 R4a.2.1.1.1 t4_
      have H5 := SX_fr H4 m5_ (fun c_ j_ _ => f5_ c_ j_)
      have R5a := rW_all R4a m5_ f5_
      have t5_ := (cl_s H5.1 hc_).2.1
      obtain ⟨h6, ⟨H6, F6⟩, r6⟩ := wyX0 (a_ := 332) (ia := 333) K_ hc_ (by decide) (by decide) h5 H5 (rW_all R4 m5_ f5_)
      have ld6 := ycv (d_ := 64) (mi := 129) (pc := 90) (cm := 129) (lo_ := [(6, .int (Int32.ofNat r_)), (4, .int (Int32.ofNat f_)), (5, .index 332), (0, .index 0), (1, .index a_), (2, .index (34 + 2 * c_)), (3, .int 1)]) (st_ := [.int 0, .index (34 + 2 * c_), .index 332, .index 0, .int (Int32.ofNat f_)]) (as_ := [.index 332, .index (34 + 2 * c_), .int 0]) (s' := [.int (Int32.ofNat f_)]) rfl rfl (bcq_of (n_ := 0) (z_ := (11, 15)) H5.1 rfl) rfl (xcc_l (List.forall_mem_cons.mpr ⟨rfl, List.forall_mem_cons.mpr ⟨rfl, List.forall_mem_cons.mpr ⟨xidx_i (bcq_lt (bcq_of (n_ := 332) (z_ := (6, 2)) H5.1 rfl)), List.forall_mem_cons.mpr ⟨xidx_i (bcq_lt (bcq_of (n_ := 0) (z_ := (11, 15)) H5.1 rfl)), List.forall_mem_cons.mpr ⟨xidx_i (bcq_lt R5a.2.1.1.1), List.forall_mem_cons.mpr ⟨xidx_i (bcq_lt t5_), List.forall_mem_cons.mpr ⟨rfl, fun q_ hq => absurd hq List.not_mem_nil⟩⟩⟩⟩⟩⟩⟩) (List.forall_mem_cons.mpr ⟨⟨rfl, rfl⟩, fun t_ ht => absurd ht List.not_mem_nil⟩) (Nat.le_of_ble_eq_true rfl)) r6
      have F6' : wyF 1 h5 h6 := wyF_u (by omega) F6
      have R6a := wyF_w R5a H6.1 F6' na ni
      have t6 := (cl_s H6.1 hc_).2.1
      obtain ⟨h7, m7_, f7_, ld7⟩ := xwyW1B (v4_ := Int32.ofNat f_) (v6 := Int32.ofNat r_) (v7 := Int32.ofNat (wkC W_ V (isg (W_ c_)) 0 (stp W_ V r_ l))) (v8 := Int32.ofNat f_) H6.1 R6a.2.1.1.1 t6
      rw [i32s, i32p] at ld7
      obtain ⟨h8, ⟨H8, F8⟩, r8_⟩ := ih_ (r_ + 1) (f_ + wkC W_ V (isg (W_ c_)) 0 (stp W_ V r_ l)) h7 _ (by omega) (SX_fr H6 m7_ (fun c_ j_ _ => f7_ c_ j_)) (rW_all R6a m7_ f7_) (Or.inr rfl)
      rw [Nat.add_assoc] at r8_
      exact ⟨h8, ⟨H8, wyF_t (wyF_0 m1_ f1_) (wyF_t F2 (wyF_t (wyF_0 m3_ f3_) (wyF_t F4' (wyF_t (wyF_0 m5_ f5_) (wyF_t F6' (wyF_t (wyF_0 m7_ f7_) F8))))))⟩, fun D_ hD => ld1 D_ (by omega) _ (ld2 D_ (by omega) _ (ld3 D_ (by omega) _ (ld4 D_ (by omega) _ (ld5 D_ (by omega) _ (ld6 D_ (by omega) _ (ld7 D_ (by omega) _ (r8_ D_ hD)))))))⟩
theorem wyX1 {a_ ia c_ : Nat} {l : List Int32} (K_ : okS W_ V) (hc_ : c_ < 12) (na : ¬ (332 ≤ a_ ∧ a_ < 332 + 2 * 1) ∧ (¬ a_ = 33 ∧ ¬ a_ = 69)) (ni : ¬ (332 ≤ ia ∧ ia < 332 + 2 * 1) ∧ (¬ ia = 33 ∧ ¬ ia = 69)) : ∀ (h_ : xH), SX W_ V h_ → rW a_ ia h_ l → ∃ h', (SX W_ V h' ∧ wyF 1 h_ h') ∧ ∀ D_, 66 ≤ D_ → xrun D_ 129 0 [(0, .index 0), (1, .index a_), (2, .index (34 + 2 * c_)), (3, .int 1)] [] h_ (some (.int (Int32.ofNat (wkC W_ V (isg (W_ c_)) 1 l))), h', []) := by
  intro h_ H_ R_
  have s2_ := (cl_s H_.1 hc_).2.1
  have ev_ : wkC W_ V (isg (W_ c_)) 1 l = (if l = W_ c_ then 1 else 0) + smR (fun r_ => wkC W_ V (isg (W_ c_)) 0 (stp W_ V r_ l)) 0 (nR V) := rfl
  rw [ev_]
  obtain ⟨h1, m1_, f1_, ld1⟩ := xwyE1 H_.1 R_.2.1.1.1 s2_
  have H1_ := SX_fr H_ m1_ (fun c_ j_ _ => f1_ c_ j_)
  have R1 := rW_all R_ m1_ f1_
  have RC := SX_w H1_ (cl_x hc_)
  obtain ⟨h2, m2_, f2_, r2⟩ := ilX H1_.1 R1.2.1 RC
  have ld2 := ycv (d_ := 62) (mi := 129) (pc := 2) (cm := 41) (lo_ := [(0, .index 0), (1, .index a_), (2, .index (34 + 2 * c_)), (3, .int 1)]) (st_ := [.index (34 + 2 * c_), .index a_]) (as_ := [.index (34 + 2 * c_)]) (s' := []) rfl rfl R1.2.1.1.1 rfl (xcc_l (List.forall_mem_cons.mpr ⟨xidx_i (bcq_lt (bcq_of (n_ := 0) (z_ := (11, 15)) H1_.1 rfl)), List.forall_mem_cons.mpr ⟨xidx_i (bcq_lt R1.2.1.1.1), List.forall_mem_cons.mpr ⟨xidx_i (bcq_lt (cl_s H1_.1 hc_).2.1), List.forall_mem_cons.mpr ⟨rfl, fun q_ hq => absurd hq List.not_mem_nil⟩⟩⟩⟩) (fun t_ ht => absurd ht List.not_mem_nil) (Nat.le_of_ble_eq_true rfl)) r2
  have H2_ := SX_fr H1_ m2_ (fun c_ j_ _ => f2_ c_ j_)
  have R2 := rW_all R1 m2_ f2_
  have t2_ := (cl_s H2_.1 hc_).2.1
  have F2 : wyF 1 h_ h2 := wyF_t (wyF_0 m1_ f1_) (wyF_0 m2_ f2_)
  by_cases q_ : l = W_ c_
  · rw [if_pos q_] at ld2 ⊢
    obtain ⟨h3, m3_, f3_, ld3⟩ := xwyG11 H2_.1 R2.2.1.1.1 t2_
    obtain ⟨h4, ⟨H4, F4⟩, r4⟩ := wyL1 (a_ := a_) (ia := ia) (l := l) K_ hc_ na ni (nR V) 0 1 h3 _ (by omega) (SX_fr H2_ m3_ (fun c_ j_ _ => f3_ c_ j_)) (rW_all R2 m3_ f3_) (Or.inl rfl)
    exact ⟨h4, ⟨H4, wyF_t F2 (wyF_t (wyF_0 m3_ f3_) F4)⟩, fun D_ hD => ld1 D_ (by omega) _ (ld2 D_ (by omega) _ (ld3 D_ (by omega) _ (r4 D_ (by omega))))⟩
  · rw [if_neg q_] at ld2 ⊢
    obtain ⟨h3, m3_, f3_, ld3⟩ := xwyG10 H2_.1 R2.2.1.1.1 t2_
    obtain ⟨h4, ⟨H4, F4⟩, r4⟩ := wyL1 (a_ := a_) (ia := ia) (l := l) K_ hc_ na ni (nR V) 0 0 h3 _ (by omega) (SX_fr H2_ m3_ (fun c_ j_ _ => f3_ c_ j_)) (rW_all R2 m3_ f3_) (Or.inl rfl)
    exact ⟨h4, ⟨H4, wyF_t F2 (wyF_t (wyF_0 m3_ f3_) F4)⟩, fun D_ hD => ld1 D_ (by omega) _ (ld2 D_ (by omega) _ (ld3 D_ (by omega) _ (r4 D_ (by omega))))⟩
theorem wyL2 {a_ ia c_ : Nat} {l : List Int32} (K_ : okS W_ V) (hc_ : c_ < 12) (na : ¬ (332 ≤ a_ ∧ a_ < 332 + 2 * 2) ∧ (¬ a_ = 33 ∧ ¬ a_ = 69)) (ni : ¬ (332 ≤ ia ∧ ia < 332 + 2 * 2) ∧ (¬ ia = 33 ∧ ¬ ia = 69)) : ∀ (n_ r_ f_ : Nat) (h_ : xH) (lo_ : xL), r_ + n_ = nR V → SX W_ V h_ → rW a_ ia h_ l → (lo_ = [(6, .int (Int32.ofNat r_)), (5, .index 334), (4, .int (Int32.ofNat f_)), (0, .index 0), (1, .index a_), (2, .index (34 + 2 * c_)), (3, .int 2)] ∨ lo_ = [(6, .int (Int32.ofNat r_)), (4, .int (Int32.ofNat f_)), (5, .index 334), (0, .index 0), (1, .index a_), (2, .index (34 + 2 * c_)), (3, .int 2)]) → ∃ h', (SX W_ V h' ∧ wyF 2 h_ h') ∧ ∀ D_, 68 ≤ D_ → xrun D_ 129 44 lo_ [] h_ (some (.int (Int32.ofNat (f_ + smR (fun r_ => wkC W_ V (isg (W_ c_)) 1 (stp W_ V r_ l)) r_ n_))), h', []) := by
  intro n_
  have n8 := (nR_le K_).1
  have en := (nR_le K_).2
  induction n_ with
  | zero =>
    intro r_ f_ h_ lo_ hi_ H_ R_ hd_
    have s2_ := (cl_s H_.1 hc_).2.1
    rcases hd_ with rfl | rfl
    · obtain ⟨h1, m1_, f1_, r1_⟩ := xwyX2A (v4_ := Int32.ofNat f_) (v6 := Int32.ofNat r_) (v300 := V 1) H_.1 R_.2.1.1.1 s2_ (SX_v H_ (show ((1, 10), 1) ∈ wvX by decide)) (by rw [en, i32n (by omega), i32n (by omega)]; omega)
      exact ⟨h1, ⟨SX_fr H_ m1_ (fun c_ j_ _ => f1_ c_ j_), wyF_0 m1_ f1_⟩, fun D_ hD => r1_ D_ (by omega)⟩
    · obtain ⟨h1, m1_, f1_, r1_⟩ := xwyX2B (v4_ := Int32.ofNat f_) (v6 := Int32.ofNat r_) (v300 := V 1) H_.1 R_.2.1.1.1 s2_ (SX_v H_ (show ((1, 10), 1) ∈ wvX by decide)) (by rw [en, i32n (by omega), i32n (by omega)]; omega)
      exact ⟨h1, ⟨SX_fr H_ m1_ (fun c_ j_ _ => f1_ c_ j_), wyF_0 m1_ f1_⟩, fun D_ hD => r1_ D_ (by omega)⟩
  | succ n_ ih_ =>
    intro r_ f_ h_ lo_ hi_ H_ R_ hd_
    have r8 : r_ < 8 := by omega
    have ir := i32n (i_ := r_) (by omega)
    have s2_ := (cl_s H_.1 hc_).2.1
    have es : smR (fun r_ => wkC W_ V (isg (W_ c_)) 1 (stp W_ V r_ l)) r_ (n_ + 1) = wkC W_ V (isg (W_ c_)) 1 (stp W_ V r_ l) + smR (fun r_ => wkC W_ V (isg (W_ c_)) 1 (stp W_ V r_ l)) (r_ + 1) n_ := rfl
    rw [es]
    rcases hd_ with rfl | rfl
    · obtain ⟨h1, m1_, f1_, ld1⟩ := xwyT2A (v4_ := Int32.ofNat f_) (v6 := Int32.ofNat r_) (v300 := V 1) H_.1 R_.2.1.1.1 s2_ (SX_v H_ (show ((1, 10), 1) ∈ wvX by decide)) (by rw [en, i32n (by omega), i32n (by omega)]; omega)
      have H1_ := SX_fr H_ m1_ (fun c_ j_ _ => f1_ c_ j_)
      have R1 := rW_all R_ m1_ f1_
      obtain ⟨h2, S2, R2, m2_, f2_, r2⟩ := copyFrom12 (a_ := 334) (ia := 335) H1_.1 (bcq_of (n_ := 334) (z_ := (6, 2)) H1_.1 rfl) (bcq_of (n_ := 335) (z_ := (20, 12)) H1_.1 rfl) (fxr_at H1_.1.2 (show fxk fxl 334 0 = some 335 by decide +kernel)) R1.2.2 R1.2.1
      have ld2 := ycv (d_ := 60) (mi := 129) (pc := 59) (cm := 39) (lo_ := [(6, .int (Int32.ofNat r_)), (5, .index 334), (4, .int (Int32.ofNat f_)), (0, .index 0), (1, .index a_), (2, .index (34 + 2 * c_)), (3, .int 2)]) (st_ := [.index a_, .index 334]) (as_ := [.index a_]) (s' := []) rfl rfl (bcq_of (n_ := 334) (z_ := (6, 2)) H1_.1 rfl) rfl (xcc_l (List.forall_mem_cons.mpr ⟨rfl, List.forall_mem_cons.mpr ⟨xidx_i (bcq_lt (bcq_of (n_ := 334) (z_ := (6, 2)) H1_.1 rfl)), List.forall_mem_cons.mpr ⟨rfl, List.forall_mem_cons.mpr ⟨xidx_i (bcq_lt (bcq_of (n_ := 0) (z_ := (11, 15)) H1_.1 rfl)), List.forall_mem_cons.mpr ⟨xidx_i (bcq_lt R1.2.1.1.1), List.forall_mem_cons.mpr ⟨xidx_i (bcq_lt (cl_s H1_.1 hc_).2.1), List.forall_mem_cons.mpr ⟨rfl, fun q_ hq => absurd hq List.not_mem_nil⟩⟩⟩⟩⟩⟩⟩) (fun t_ ht => absurd ht List.not_mem_nil) (Nat.le_of_ble_eq_true rfl)) r2
      have H2_ := SX_fr H1_ m2_ (fun c_ j_ hc_ => f2_ c_ j_ (fun q_ => by rw [q_] at hc_; exact absurd hc_ (by decide)) (fun q_ => by rw [q_] at hc_; exact absurd hc_ (by decide)))
      have F2 : wyF 2 h1 h2 := ⟨m2_, fun c_ j_ q1_ _ _ => f2_ c_ j_ (by omega) (by omega)⟩
      have R2a := wyF_w R1 H2_.1 F2 na ni
      have R2' : rW 334 335 h2 l := ⟨S2, R2, R1.2.2⟩
      obtain ⟨p1_, p2_⟩ := rck_ok (k_ := r_) H2_.1 r8
      have t2_ := (cl_s H2_.1 hc_).2.1
      obtain ⟨h3, m3_, f3_, ld3⟩ := xwyU2A (v4_ := Int32.ofNat f_) (v6 := Int32.ofNat r_) H2_.1 R2a.2.1.1.1 t2_ p2_ (by rw [i32t (by omega)]; exact p1_) ⟨by omega, by omega⟩
      have H3 := SX_fr H2_ m3_ (fun c_ j_ _ => f3_ c_ j_)
      have R3a := rW_all R2a m3_ f3_
      have t3_ := (cl_s H3.1 hc_).2.1
      obtain ⟨h4, ⟨H4, F4⟩, R4, ld4⟩ := c_sb (a_ := 334) (b_ := 335) (mi := 129) (pc := 78) (k_ := r_) (lo_ := [(6, .int (Int32.ofNat r_)), (5, .index 334), (4, .int (Int32.ofNat f_)), (0, .index 0), (1, .index a_), (2, .index (34 + 2 * c_)), (3, .int 2)]) (s' := []) rfl (xcc_l (List.forall_mem_cons.mpr ⟨rfl, List.forall_mem_cons.mpr ⟨xidx_i (bcq_lt (bcq_of (n_ := 334) (z_ := (6, 2)) H3.1 rfl)), List.forall_mem_cons.mpr ⟨rfl, List.forall_mem_cons.mpr ⟨xidx_i (bcq_lt (bcq_of (n_ := 0) (z_ := (11, 15)) H3.1 rfl)), List.forall_mem_cons.mpr ⟨xidx_i (bcq_lt R3a.2.1.1.1), List.forall_mem_cons.mpr ⟨xidx_i (bcq_lt t3_), List.forall_mem_cons.mpr ⟨rfl, fun q_ hq => absurd hq List.not_mem_nil⟩⟩⟩⟩⟩⟩⟩) (fun t_ ht => absurd ht List.not_mem_nil) (Nat.le_of_ble_eq_true rfl)) K_ H3 r8 (by decide) (by decide) (by decide) (rW_all R2' m3_ f3_)
      have F4' : wyF 2 h3 h4 := ⟨F4.1, fun c_ j_ q1_ q2_ q3_ => F4.2 c_ j_ (by omega) (by omega) q2_ q3_⟩
      have R4a := wyF_w R3a H4.1 F4' na ni
      have t4_ := (cl_s H4.1 hc_).2.1
      obtain ⟨h5, m5_, f5_, ld5⟩ := xwyV2A (v4_ := Int32.ofNat f_) (v6 := Int32.ofNat r_) H4.1 R4a.2.1.1.1 t4_
      have H5 := SX_fr H4 m5_ (fun c_ j_ _ => f5_ c_ j_)
      have R5a := rW_all R4a m5_ f5_
      have t5_ := (cl_s H5.1 hc_).2.1
      obtain ⟨h6, ⟨H6, F6⟩, r6⟩ := wyX1 (a_ := 334) (ia := 335) K_ hc_ (by decide) (by decide) h5 H5 (rW_all R4 m5_ f5_)
      have ld6 := ycv (d_ := 66) (mi := 129) (pc := 90) (cm := 129) (lo_ := [(6, .int (Int32.ofNat r_)), (5, .index 334), (4, .int (Int32.ofNat f_)), (0, .index 0), (1, .index a_), (2, .index (34 + 2 * c_)), (3, .int 2)]) (st_ := [.int 1, .index (34 + 2 * c_), .index 334, .index 0, .int (Int32.ofNat f_)]) (as_ := [.index 334, .index (34 + 2 * c_), .int 1]) (s' := [.int (Int32.ofNat f_)]) rfl rfl (bcq_of (n_ := 0) (z_ := (11, 15)) H5.1 rfl) rfl (xcc_l (List.forall_mem_cons.mpr ⟨rfl, List.forall_mem_cons.mpr ⟨xidx_i (bcq_lt (bcq_of (n_ := 334) (z_ := (6, 2)) H5.1 rfl)), List.forall_mem_cons.mpr ⟨rfl, List.forall_mem_cons.mpr ⟨xidx_i (bcq_lt (bcq_of (n_ := 0) (z_ := (11, 15)) H5.1 rfl)), List.forall_mem_cons.mpr ⟨xidx_i (bcq_lt R5a.2.1.1.1), List.forall_mem_cons.mpr ⟨xidx_i (bcq_lt t5_), List.forall_mem_cons.mpr ⟨rfl, fun q_ hq => absurd hq List.not_mem_nil⟩⟩⟩⟩⟩⟩⟩) (List.forall_mem_cons.mpr ⟨⟨rfl, rfl⟩, fun t_ ht => absurd ht List.not_mem_nil⟩) (Nat.le_of_ble_eq_true rfl)) r6
      have F6' : wyF 2 h5 h6 := wyF_u (by omega) F6
      have R6a := wyF_w R5a H6.1 F6' na ni
      have t6 := (cl_s H6.1 hc_).2.1
      obtain ⟨h7, m7_, f7_, ld7⟩ := xwyW2A (v4_ := Int32.ofNat f_) (v6 := Int32.ofNat r_) (v7 := Int32.ofNat (wkC W_ V (isg (W_ c_)) 1 (stp W_ V r_ l))) (v8 := Int32.ofNat f_) H6.1 R6a.2.1.1.1 t6
      rw [i32s, i32p] at ld7
      obtain ⟨h8, ⟨H8, F8⟩, r8_⟩ := ih_ (r_ + 1) (f_ + wkC W_ V (isg (W_ c_)) 1 (stp W_ V r_ l)) h7 _ (by omega) (SX_fr H6 m7_ (fun c_ j_ _ => f7_ c_ j_)) (rW_all R6a m7_ f7_) (Or.inr rfl)
      rw [Nat.add_assoc] at r8_
      exact ⟨h8, ⟨H8, wyF_t (wyF_0 m1_ f1_) (wyF_t F2 (wyF_t (wyF_0 m3_ f3_) (wyF_t F4' (wyF_t (wyF_0 m5_ f5_) (wyF_t F6' (wyF_t (wyF_0 m7_ f7_) F8))))))⟩, fun D_ hD => ld1 D_ (by omega) _ (ld2 D_ (by omega) _ (ld3 D_ (by omega) _ (ld4 D_ (by omega) _ (ld5 D_ (by omega) _ (ld6 D_ (by omega) _ (ld7 D_ (by omega) _ (r8_ D_ hD)))))))⟩
    · obtain ⟨h1, m1_, f1_, ld1⟩ := xwyT2B (v4_ := Int32.ofNat f_) (v6 := Int32.ofNat r_) (v300 := V 1) H_.1 R_.2.1.1.1 s2_ (SX_v H_ (show ((1, 10), 1) ∈ wvX by decide)) (by rw [en, i32n (by omega), i32n (by omega)]; omega)
      have H1_ := SX_fr H_ m1_ (fun c_ j_ _ => f1_ c_ j_)
      have R1 := rW_all R_ m1_ f1_
      obtain ⟨h2, S2, R2, m2_, f2_, r2⟩ := copyFrom12 (a_ := 334) (ia := 335) H1_.1 (bcq_of (n_ := 334) (z_ := (6, 2)) H1_.1 rfl) (bcq_of (n_ := 335) (z_ := (20, 12)) H1_.1 rfl) (fxr_at H1_.1.2 (show fxk fxl 334 0 = some 335 by decide +kernel)) R1.2.2 R1.2.1
      have ld2 := ycv (d_ := 60) (mi := 129) (pc := 59) (cm := 39) (lo_ := [(6, .int (Int32.ofNat r_)), (4, .int (Int32.ofNat f_)), (5, .index 334), (0, .index 0), (1, .index a_), (2, .index (34 + 2 * c_)), (3, .int 2)]) (st_ := [.index a_, .index 334]) (as_ := [.index a_]) (s' := []) rfl rfl (bcq_of (n_ := 334) (z_ := (6, 2)) H1_.1 rfl) rfl (xcc_l (List.forall_mem_cons.mpr ⟨rfl, List.forall_mem_cons.mpr ⟨rfl, List.forall_mem_cons.mpr ⟨xidx_i (bcq_lt (bcq_of (n_ := 334) (z_ := (6, 2)) H1_.1 rfl)), List.forall_mem_cons.mpr ⟨xidx_i (bcq_lt (bcq_of (n_ := 0) (z_ := (11, 15)) H1_.1 rfl)), List.forall_mem_cons.mpr ⟨xidx_i (bcq_lt R1.2.1.1.1), List.forall_mem_cons.mpr ⟨xidx_i (bcq_lt (cl_s H1_.1 hc_).2.1), List.forall_mem_cons.mpr ⟨rfl, fun q_ hq => absurd hq List.not_mem_nil⟩⟩⟩⟩⟩⟩⟩) (fun t_ ht => absurd ht List.not_mem_nil) (Nat.le_of_ble_eq_true rfl)) r2
      have H2_ := SX_fr H1_ m2_ (fun c_ j_ hc_ => f2_ c_ j_ (fun q_ => by rw [q_] at hc_; exact absurd hc_ (by decide)) (fun q_ => by rw [q_] at hc_; exact absurd hc_ (by decide)))
      have F2 : wyF 2 h1 h2 := ⟨m2_, fun c_ j_ q1_ _ _ => f2_ c_ j_ (by omega) (by omega)⟩
      have R2a := wyF_w R1 H2_.1 F2 na ni
      have R2' : rW 334 335 h2 l := ⟨S2, R2, R1.2.2⟩
      obtain ⟨p1_, p2_⟩ := rck_ok (k_ := r_) H2_.1 r8
      have t2_ := (cl_s H2_.1 hc_).2.1
      obtain ⟨h3, m3_, f3_, ld3⟩ := xwyU2B (v4_ := Int32.ofNat f_) (v6 := Int32.ofNat r_) H2_.1 R2a.2.1.1.1 t2_ p2_ (by rw [i32t (by omega)]; exact p1_) ⟨by omega, by omega⟩
      have H3 := SX_fr H2_ m3_ (fun c_ j_ _ => f3_ c_ j_)
      have R3a := rW_all R2a m3_ f3_
      have t3_ := (cl_s H3.1 hc_).2.1
      obtain ⟨h4, ⟨H4, F4⟩, R4, ld4⟩ := c_sb (a_ := 334) (b_ := 335) (mi := 129) (pc := 78) (k_ := r_) (lo_ := [(6, .int (Int32.ofNat r_)), (4, .int (Int32.ofNat f_)), (5, .index 334), (0, .index 0), (1, .index a_), (2, .index (34 + 2 * c_)), (3, .int 2)]) (s' := []) rfl (xcc_l (List.forall_mem_cons.mpr ⟨rfl, List.forall_mem_cons.mpr ⟨rfl, List.forall_mem_cons.mpr ⟨xidx_i (bcq_lt (bcq_of (n_ := 334) (z_ := (6, 2)) H3.1 rfl)), List.forall_mem_cons.mpr ⟨xidx_i (bcq_lt (bcq_of (n_ := 0) (z_ := (11, 15)) H3.1 rfl)), List.forall_mem_cons.mpr ⟨xidx_i (bcq_lt R3a.2.1.1.1), List.forall_mem_cons.mpr ⟨xidx_i (bcq_lt t3_), List.forall_mem_cons.mpr ⟨rfl, fun q_ hq => absurd hq List.not_mem_nil⟩⟩⟩⟩⟩⟩⟩) (fun t_ ht => absurd ht List.not_mem_nil) (Nat.le_of_ble_eq_true rfl)) K_ H3 r8 (by decide) (by decide) (by decide) (rW_all R2' m3_ f3_)
      have F4' : wyF 2 h3 h4 := ⟨F4.1, fun c_ j_ q1_ q2_ q3_ => F4.2 c_ j_ (by omega) (by omega) q2_ q3_⟩
      have R4a := wyF_w R3a H4.1 F4' na ni
      have t4_ := (cl_s H4.1 hc_).2.1
      obtain ⟨h5, m5_, f5_, ld5⟩ := xwyV2B (v4_ := Int32.ofNat f_) (v6 := Int32.ofNat r_) H4.1 R4a.2.1.1.1 t4_
      have H5 := SX_fr H4 m5_ (fun c_ j_ _ => f5_ c_ j_)
      have R5a := rW_all R4a m5_ f5_
      have t5_ := (cl_s H5.1 hc_).2.1
      obtain ⟨h6, ⟨H6, F6⟩, r6⟩ := wyX1 (a_ := 334) (ia := 335) K_ hc_ (by decide) (by decide) h5 H5 (rW_all R4 m5_ f5_)
      have ld6 := ycv (d_ := 66) (mi := 129) (pc := 90) (cm := 129) (lo_ := [(6, .int (Int32.ofNat r_)), (4, .int (Int32.ofNat f_)), (5, .index 334), (0, .index 0), (1, .index a_), (2, .index (34 + 2 * c_)), (3, .int 2)]) (st_ := [.int 1, .index (34 + 2 * c_), .index 334, .index 0, .int (Int32.ofNat f_)]) (as_ := [.index 334, .index (34 + 2 * c_), .int 1]) (s' := [.int (Int32.ofNat f_)]) rfl rfl (bcq_of (n_ := 0) (z_ := (11, 15)) H5.1 rfl) rfl (xcc_l (List.forall_mem_cons.mpr ⟨rfl, List.forall_mem_cons.mpr ⟨rfl, List.forall_mem_cons.mpr ⟨xidx_i (bcq_lt (bcq_of (n_ := 334) (z_ := (6, 2)) H5.1 rfl)), List.forall_mem_cons.mpr ⟨xidx_i (bcq_lt (bcq_of (n_ := 0) (z_ := (11, 15)) H5.1 rfl)), List.forall_mem_cons.mpr ⟨xidx_i (bcq_lt R5a.2.1.1.1), List.forall_mem_cons.mpr ⟨xidx_i (bcq_lt t5_), List.forall_mem_cons.mpr ⟨rfl, fun q_ hq => absurd hq List.not_mem_nil⟩⟩⟩⟩⟩⟩⟩) (List.forall_mem_cons.mpr ⟨⟨rfl, rfl⟩, fun t_ ht => absurd ht List.not_mem_nil⟩) (Nat.le_of_ble_eq_true rfl)) r6
      have F6' : wyF 2 h5 h6 := wyF_u (by omega) F6
      have R6a := wyF_w R5a H6.1 F6' na ni
      have t6 := (cl_s H6.1 hc_).2.1
      obtain ⟨h7, m7_, f7_, ld7⟩ := xwyW2B (v4_ := Int32.ofNat f_) (v6 := Int32.ofNat r_) (v7 := Int32.ofNat (wkC W_ V (isg (W_ c_)) 1 (stp W_ V r_ l))) (v8 := Int32.ofNat f_) H6.1 R6a.2.1.1.1 t6
      rw [i32s, i32p] at ld7
      obtain ⟨h8, ⟨H8, F8⟩, r8_⟩ := ih_ (r_ + 1) (f_ + wkC W_ V (isg (W_ c_)) 1 (stp W_ V r_ l)) h7 _ (by omega) (SX_fr H6 m7_ (fun c_ j_ _ => f7_ c_ j_)) (rW_all R6a m7_ f7_) (Or.inr rfl)
      rw [Nat.add_assoc] at r8_
      exact ⟨h8, ⟨H8, wyF_t (wyF_0 m1_ f1_) (wyF_t F2 (wyF_t (wyF_0 m3_ f3_) (wyF_t F4' (wyF_t (wyF_0 m5_ f5_) (wyF_t F6' (wyF_t (wyF_0 m7_ f7_) F8))))))⟩, fun D_ hD => ld1 D_ (by omega) _ (ld2 D_ (by omega) _ (ld3 D_ (by omega) _ (ld4 D_ (by omega) _ (ld5 D_ (by omega) _ (ld6 D_ (by omega) _ (ld7 D_ (by omega) _ (r8_ D_ hD)))))))⟩
theorem wyX2 {a_ ia c_ : Nat} {l : List Int32} (K_ : okS W_ V) (hc_ : c_ < 12) (na : ¬ (332 ≤ a_ ∧ a_ < 332 + 2 * 2) ∧ (¬ a_ = 33 ∧ ¬ a_ = 69)) (ni : ¬ (332 ≤ ia ∧ ia < 332 + 2 * 2) ∧ (¬ ia = 33 ∧ ¬ ia = 69)) : ∀ (h_ : xH), SX W_ V h_ → rW a_ ia h_ l → ∃ h', (SX W_ V h' ∧ wyF 2 h_ h') ∧ ∀ D_, 68 ≤ D_ → xrun D_ 129 0 [(0, .index 0), (1, .index a_), (2, .index (34 + 2 * c_)), (3, .int 2)] [] h_ (some (.int (Int32.ofNat (wkC W_ V (isg (W_ c_)) 2 l))), h', []) := by
  intro h_ H_ R_
  have s2_ := (cl_s H_.1 hc_).2.1
  have ev_ : wkC W_ V (isg (W_ c_)) 2 l = (if l = W_ c_ then 1 else 0) + smR (fun r_ => wkC W_ V (isg (W_ c_)) 1 (stp W_ V r_ l)) 0 (nR V) := rfl
  rw [ev_]
  obtain ⟨h1, m1_, f1_, ld1⟩ := xwyE2 H_.1 R_.2.1.1.1 s2_
  have H1_ := SX_fr H_ m1_ (fun c_ j_ _ => f1_ c_ j_)
  have R1 := rW_all R_ m1_ f1_
  have RC := SX_w H1_ (cl_x hc_)
  obtain ⟨h2, m2_, f2_, r2⟩ := ilX H1_.1 R1.2.1 RC
  have ld2 := ycv (d_ := 62) (mi := 129) (pc := 2) (cm := 41) (lo_ := [(0, .index 0), (1, .index a_), (2, .index (34 + 2 * c_)), (3, .int 2)]) (st_ := [.index (34 + 2 * c_), .index a_]) (as_ := [.index (34 + 2 * c_)]) (s' := []) rfl rfl R1.2.1.1.1 rfl (xcc_l (List.forall_mem_cons.mpr ⟨xidx_i (bcq_lt (bcq_of (n_ := 0) (z_ := (11, 15)) H1_.1 rfl)), List.forall_mem_cons.mpr ⟨xidx_i (bcq_lt R1.2.1.1.1), List.forall_mem_cons.mpr ⟨xidx_i (bcq_lt (cl_s H1_.1 hc_).2.1), List.forall_mem_cons.mpr ⟨rfl, fun q_ hq => absurd hq List.not_mem_nil⟩⟩⟩⟩) (fun t_ ht => absurd ht List.not_mem_nil) (Nat.le_of_ble_eq_true rfl)) r2
  have H2_ := SX_fr H1_ m2_ (fun c_ j_ _ => f2_ c_ j_)
  have R2 := rW_all R1 m2_ f2_
  have t2_ := (cl_s H2_.1 hc_).2.1
  have F2 : wyF 2 h_ h2 := wyF_t (wyF_0 m1_ f1_) (wyF_0 m2_ f2_)
  by_cases q_ : l = W_ c_
  · rw [if_pos q_] at ld2 ⊢
    obtain ⟨h3, m3_, f3_, ld3⟩ := xwyG21 H2_.1 R2.2.1.1.1 t2_
    obtain ⟨h4, ⟨H4, F4⟩, r4⟩ := wyL2 (a_ := a_) (ia := ia) (l := l) K_ hc_ na ni (nR V) 0 1 h3 _ (by omega) (SX_fr H2_ m3_ (fun c_ j_ _ => f3_ c_ j_)) (rW_all R2 m3_ f3_) (Or.inl rfl)
    exact ⟨h4, ⟨H4, wyF_t F2 (wyF_t (wyF_0 m3_ f3_) F4)⟩, fun D_ hD => ld1 D_ (by omega) _ (ld2 D_ (by omega) _ (ld3 D_ (by omega) _ (r4 D_ (by omega))))⟩
  · rw [if_neg q_] at ld2 ⊢
    obtain ⟨h3, m3_, f3_, ld3⟩ := xwyG20 H2_.1 R2.2.1.1.1 t2_
    obtain ⟨h4, ⟨H4, F4⟩, r4⟩ := wyL2 (a_ := a_) (ia := ia) (l := l) K_ hc_ na ni (nR V) 0 0 h3 _ (by omega) (SX_fr H2_ m3_ (fun c_ j_ _ => f3_ c_ j_)) (rW_all R2 m3_ f3_) (Or.inl rfl)
    exact ⟨h4, ⟨H4, wyF_t F2 (wyF_t (wyF_0 m3_ f3_) F4)⟩, fun D_ hD => ld1 D_ (by omega) _ (ld2 D_ (by omega) _ (ld3 D_ (by omega) _ (r4 D_ (by omega))))⟩
theorem wyL3 {a_ ia c_ : Nat} {l : List Int32} (K_ : okS W_ V) (hc_ : c_ < 12) (na : ¬ (332 ≤ a_ ∧ a_ < 332 + 2 * 3) ∧ (¬ a_ = 33 ∧ ¬ a_ = 69)) (ni : ¬ (332 ≤ ia ∧ ia < 332 + 2 * 3) ∧ (¬ ia = 33 ∧ ¬ ia = 69)) : ∀ (n_ r_ f_ : Nat) (h_ : xH) (lo_ : xL), r_ + n_ = nR V → SX W_ V h_ → rW a_ ia h_ l → (lo_ = [(6, .int (Int32.ofNat r_)), (5, .index 336), (4, .int (Int32.ofNat f_)), (0, .index 0), (1, .index a_), (2, .index (34 + 2 * c_)), (3, .int 3)] ∨ lo_ = [(6, .int (Int32.ofNat r_)), (4, .int (Int32.ofNat f_)), (5, .index 336), (0, .index 0), (1, .index a_), (2, .index (34 + 2 * c_)), (3, .int 3)]) → ∃ h', (SX W_ V h' ∧ wyF 3 h_ h') ∧ ∀ D_, 70 ≤ D_ → xrun D_ 129 44 lo_ [] h_ (some (.int (Int32.ofNat (f_ + smR (fun r_ => wkC W_ V (isg (W_ c_)) 2 (stp W_ V r_ l)) r_ n_))), h', []) := by
  intro n_
  have n8 := (nR_le K_).1
  have en := (nR_le K_).2
  induction n_ with
  | zero =>
    intro r_ f_ h_ lo_ hi_ H_ R_ hd_
    have s2_ := (cl_s H_.1 hc_).2.1
    rcases hd_ with rfl | rfl
    · obtain ⟨h1, m1_, f1_, r1_⟩ := xwyX3A (v4_ := Int32.ofNat f_) (v6 := Int32.ofNat r_) (v300 := V 1) H_.1 R_.2.1.1.1 s2_ (SX_v H_ (show ((1, 10), 1) ∈ wvX by decide)) (by rw [en, i32n (by omega), i32n (by omega)]; omega)
      exact ⟨h1, ⟨SX_fr H_ m1_ (fun c_ j_ _ => f1_ c_ j_), wyF_0 m1_ f1_⟩, fun D_ hD => r1_ D_ (by omega)⟩
    · obtain ⟨h1, m1_, f1_, r1_⟩ := xwyX3B (v4_ := Int32.ofNat f_) (v6 := Int32.ofNat r_) (v300 := V 1) H_.1 R_.2.1.1.1 s2_ (SX_v H_ (show ((1, 10), 1) ∈ wvX by decide)) (by rw [en, i32n (by omega), i32n (by omega)]; omega)
      exact ⟨h1, ⟨SX_fr H_ m1_ (fun c_ j_ _ => f1_ c_ j_), wyF_0 m1_ f1_⟩, fun D_ hD => r1_ D_ (by omega)⟩
  | succ n_ ih_ =>
    intro r_ f_ h_ lo_ hi_ H_ R_ hd_
    have r8 : r_ < 8 := by omega
    have ir := i32n (i_ := r_) (by omega)
    have s2_ := (cl_s H_.1 hc_).2.1
    have es : smR (fun r_ => wkC W_ V (isg (W_ c_)) 2 (stp W_ V r_ l)) r_ (n_ + 1) = wkC W_ V (isg (W_ c_)) 2 (stp W_ V r_ l) + smR (fun r_ => wkC W_ V (isg (W_ c_)) 2 (stp W_ V r_ l)) (r_ + 1) n_ := rfl
    rw [es]
    rcases hd_ with rfl | rfl
    · obtain ⟨h1, m1_, f1_, ld1⟩ := xwyT3A (v4_ := Int32.ofNat f_) (v6 := Int32.ofNat r_) (v300 := V 1) H_.1 R_.2.1.1.1 s2_ (SX_v H_ (show ((1, 10), 1) ∈ wvX by decide)) (by rw [en, i32n (by omega), i32n (by omega)]; omega)
      have H1_ := SX_fr H_ m1_ (fun c_ j_ _ => f1_ c_ j_)
      have R1 := rW_all R_ m1_ f1_
      obtain ⟨h2, S2, R2, m2_, f2_, r2⟩ := copyFrom12 (a_ := 336) (ia := 337) H1_.1 (bcq_of (n_ := 336) (z_ := (6, 2)) H1_.1 rfl) (bcq_of (n_ := 337) (z_ := (20, 12)) H1_.1 rfl) (fxr_at H1_.1.2 (show fxk fxl 336 0 = some 337 by decide +kernel)) R1.2.2 R1.2.1
      have ld2 := ycv (d_ := 60) (mi := 129) (pc := 59) (cm := 39) (lo_ := [(6, .int (Int32.ofNat r_)), (5, .index 336), (4, .int (Int32.ofNat f_)), (0, .index 0), (1, .index a_), (2, .index (34 + 2 * c_)), (3, .int 3)]) (st_ := [.index a_, .index 336]) (as_ := [.index a_]) (s' := []) rfl rfl (bcq_of (n_ := 336) (z_ := (6, 2)) H1_.1 rfl) rfl (xcc_l (List.forall_mem_cons.mpr ⟨rfl, List.forall_mem_cons.mpr ⟨xidx_i (bcq_lt (bcq_of (n_ := 336) (z_ := (6, 2)) H1_.1 rfl)), List.forall_mem_cons.mpr ⟨rfl, List.forall_mem_cons.mpr ⟨xidx_i (bcq_lt (bcq_of (n_ := 0) (z_ := (11, 15)) H1_.1 rfl)), List.forall_mem_cons.mpr ⟨xidx_i (bcq_lt R1.2.1.1.1), List.forall_mem_cons.mpr ⟨xidx_i (bcq_lt (cl_s H1_.1 hc_).2.1), List.forall_mem_cons.mpr ⟨rfl, fun q_ hq => absurd hq List.not_mem_nil⟩⟩⟩⟩⟩⟩⟩) (fun t_ ht => absurd ht List.not_mem_nil) (Nat.le_of_ble_eq_true rfl)) r2
      have H2_ := SX_fr H1_ m2_ (fun c_ j_ hc_ => f2_ c_ j_ (fun q_ => by rw [q_] at hc_; exact absurd hc_ (by decide)) (fun q_ => by rw [q_] at hc_; exact absurd hc_ (by decide)))
      have F2 : wyF 3 h1 h2 := ⟨m2_, fun c_ j_ q1_ _ _ => f2_ c_ j_ (by omega) (by omega)⟩
      have R2a := wyF_w R1 H2_.1 F2 na ni
      have R2' : rW 336 337 h2 l := ⟨S2, R2, R1.2.2⟩
      obtain ⟨p1_, p2_⟩ := rck_ok (k_ := r_) H2_.1 r8
      have t2_ := (cl_s H2_.1 hc_).2.1
      obtain ⟨h3, m3_, f3_, ld3⟩ := xwyU3A (v4_ := Int32.ofNat f_) (v6 := Int32.ofNat r_) H2_.1 R2a.2.1.1.1 t2_ p2_ (by rw [i32t (by omega)]; exact p1_) ⟨by omega, by omega⟩
      have H3 := SX_fr H2_ m3_ (fun c_ j_ _ => f3_ c_ j_)
      have R3a := rW_all R2a m3_ f3_
      have t3_ := (cl_s H3.1 hc_).2.1
      obtain ⟨h4, ⟨H4, F4⟩, R4, ld4⟩ := c_sb (a_ := 336) (b_ := 337) (mi := 129) (pc := 78) (k_ := r_) (lo_ := [(6, .int (Int32.ofNat r_)), (5, .index 336), (4, .int (Int32.ofNat f_)), (0, .index 0), (1, .index a_), (2, .index (34 + 2 * c_)), (3, .int 3)]) (s' := []) rfl (xcc_l (List.forall_mem_cons.mpr ⟨rfl, List.forall_mem_cons.mpr ⟨xidx_i (bcq_lt (bcq_of (n_ := 336) (z_ := (6, 2)) H3.1 rfl)), List.forall_mem_cons.mpr ⟨rfl, List.forall_mem_cons.mpr ⟨xidx_i (bcq_lt (bcq_of (n_ := 0) (z_ := (11, 15)) H3.1 rfl)), List.forall_mem_cons.mpr ⟨xidx_i (bcq_lt R3a.2.1.1.1), List.forall_mem_cons.mpr ⟨xidx_i (bcq_lt t3_), List.forall_mem_cons.mpr ⟨rfl, fun q_ hq => absurd hq List.not_mem_nil⟩⟩⟩⟩⟩⟩⟩) (fun t_ ht => absurd ht List.not_mem_nil) (Nat.le_of_ble_eq_true rfl)) K_ H3 r8 (by decide) (by decide) (by decide) (rW_all R2' m3_ f3_)
      have F4' : wyF 3 h3 h4 := ⟨F4.1, fun c_ j_ q1_ q2_ q3_ => F4.2 c_ j_ (by omega) (by omega) q2_ q3_⟩
      have R4a := wyF_w R3a H4.1 F4' na ni
      have t4_ := (cl_s H4.1 hc_).2.1
      obtain ⟨h5, m5_, f5_, ld5⟩ := xwyV3A (v4_ := Int32.ofNat f_) (v6 := Int32.ofNat r_) H4.1 R4a.2.1.1.1 t4_
      have H5 := SX_fr H4 m5_ (fun c_ j_ _ => f5_ c_ j_)
      have R5a := rW_all R4a m5_ f5_
      have t5_ := (cl_s H5.1 hc_).2.1
      obtain ⟨h6, ⟨H6, F6⟩, r6⟩ := wyX2 (a_ := 336) (ia := 337) K_ hc_ (by decide) (by decide) h5 H5 (rW_all R4 m5_ f5_)
      have ld6 := ycv (d_ := 68) (mi := 129) (pc := 90) (cm := 129) (lo_ := [(6, .int (Int32.ofNat r_)), (5, .index 336), (4, .int (Int32.ofNat f_)), (0, .index 0), (1, .index a_), (2, .index (34 + 2 * c_)), (3, .int 3)]) (st_ := [.int 2, .index (34 + 2 * c_), .index 336, .index 0, .int (Int32.ofNat f_)]) (as_ := [.index 336, .index (34 + 2 * c_), .int 2]) (s' := [.int (Int32.ofNat f_)]) rfl rfl (bcq_of (n_ := 0) (z_ := (11, 15)) H5.1 rfl) rfl (xcc_l (List.forall_mem_cons.mpr ⟨rfl, List.forall_mem_cons.mpr ⟨xidx_i (bcq_lt (bcq_of (n_ := 336) (z_ := (6, 2)) H5.1 rfl)), List.forall_mem_cons.mpr ⟨rfl, List.forall_mem_cons.mpr ⟨xidx_i (bcq_lt (bcq_of (n_ := 0) (z_ := (11, 15)) H5.1 rfl)), List.forall_mem_cons.mpr ⟨xidx_i (bcq_lt R5a.2.1.1.1), List.forall_mem_cons.mpr ⟨xidx_i (bcq_lt t5_), List.forall_mem_cons.mpr ⟨rfl, fun q_ hq => absurd hq List.not_mem_nil⟩⟩⟩⟩⟩⟩⟩) (List.forall_mem_cons.mpr ⟨⟨rfl, rfl⟩, fun t_ ht => absurd ht List.not_mem_nil⟩) (Nat.le_of_ble_eq_true rfl)) r6
      have F6' : wyF 3 h5 h6 := wyF_u (by omega) F6
      have R6a := wyF_w R5a H6.1 F6' na ni
      have t6 := (cl_s H6.1 hc_).2.1
      obtain ⟨h7, m7_, f7_, ld7⟩ := xwyW3A (v4_ := Int32.ofNat f_) (v6 := Int32.ofNat r_) (v7 := Int32.ofNat (wkC W_ V (isg (W_ c_)) 2 (stp W_ V r_ l))) (v8 := Int32.ofNat f_) H6.1 R6a.2.1.1.1 t6
      rw [i32s, i32p] at ld7
      obtain ⟨h8, ⟨H8, F8⟩, r8_⟩ := ih_ (r_ + 1) (f_ + wkC W_ V (isg (W_ c_)) 2 (stp W_ V r_ l)) h7 _ (by omega) (SX_fr H6 m7_ (fun c_ j_ _ => f7_ c_ j_)) (rW_all R6a m7_ f7_) (Or.inr rfl)
      rw [Nat.add_assoc] at r8_
      exact ⟨h8, ⟨H8, wyF_t (wyF_0 m1_ f1_) (wyF_t F2 (wyF_t (wyF_0 m3_ f3_) (wyF_t F4' (wyF_t (wyF_0 m5_ f5_) (wyF_t F6' (wyF_t (wyF_0 m7_ f7_) F8))))))⟩, fun D_ hD => ld1 D_ (by omega) _ (ld2 D_ (by omega) _ (ld3 D_ (by omega) _ (ld4 D_ (by omega) _ (ld5 D_ (by omega) _ (ld6 D_ (by omega) _ (ld7 D_ (by omega) _ (r8_ D_ hD)))))))⟩
    · obtain ⟨h1, m1_, f1_, ld1⟩ := xwyT3B (v4_ := Int32.ofNat f_) (v6 := Int32.ofNat r_) (v300 := V 1) H_.1 R_.2.1.1.1 s2_ (SX_v H_ (show ((1, 10), 1) ∈ wvX by decide)) (by rw [en, i32n (by omega), i32n (by omega)]; omega)
      have H1_ := SX_fr H_ m1_ (fun c_ j_ _ => f1_ c_ j_)
      have R1 := rW_all R_ m1_ f1_
      obtain ⟨h2, S2, R2, m2_, f2_, r2⟩ := copyFrom12 (a_ := 336) (ia := 337) H1_.1 (bcq_of (n_ := 336) (z_ := (6, 2)) H1_.1 rfl) (bcq_of (n_ := 337) (z_ := (20, 12)) H1_.1 rfl) (fxr_at H1_.1.2 (show fxk fxl 336 0 = some 337 by decide +kernel)) R1.2.2 R1.2.1
      have ld2 := ycv (d_ := 60) (mi := 129) (pc := 59) (cm := 39) (lo_ := [(6, .int (Int32.ofNat r_)), (4, .int (Int32.ofNat f_)), (5, .index 336), (0, .index 0), (1, .index a_), (2, .index (34 + 2 * c_)), (3, .int 3)]) (st_ := [.index a_, .index 336]) (as_ := [.index a_]) (s' := []) rfl rfl (bcq_of (n_ := 336) (z_ := (6, 2)) H1_.1 rfl) rfl (xcc_l (List.forall_mem_cons.mpr ⟨rfl, List.forall_mem_cons.mpr ⟨rfl, List.forall_mem_cons.mpr ⟨xidx_i (bcq_lt (bcq_of (n_ := 336) (z_ := (6, 2)) H1_.1 rfl)), List.forall_mem_cons.mpr ⟨xidx_i (bcq_lt (bcq_of (n_ := 0) (z_ := (11, 15)) H1_.1 rfl)), List.forall_mem_cons.mpr ⟨xidx_i (bcq_lt R1.2.1.1.1), List.forall_mem_cons.mpr ⟨xidx_i (bcq_lt (cl_s H1_.1 hc_).2.1), List.forall_mem_cons.mpr ⟨rfl, fun q_ hq => absurd hq List.not_mem_nil⟩⟩⟩⟩⟩⟩⟩) (fun t_ ht => absurd ht List.not_mem_nil) (Nat.le_of_ble_eq_true rfl)) r2
      have H2_ := SX_fr H1_ m2_ (fun c_ j_ hc_ => f2_ c_ j_ (fun q_ => by rw [q_] at hc_; exact absurd hc_ (by decide)) (fun q_ => by rw [q_] at hc_; exact absurd hc_ (by decide)))
      have F2 : wyF 3 h1 h2 := ⟨m2_, fun c_ j_ q1_ _ _ => f2_ c_ j_ (by omega) (by omega)⟩
      have R2a := wyF_w R1 H2_.1 F2 na ni
      have R2' : rW 336 337 h2 l := ⟨S2, R2, R1.2.2⟩
      obtain ⟨p1_, p2_⟩ := rck_ok (k_ := r_) H2_.1 r8
      have t2_ := (cl_s H2_.1 hc_).2.1
      obtain ⟨h3, m3_, f3_, ld3⟩ := xwyU3B (v4_ := Int32.ofNat f_) (v6 := Int32.ofNat r_) H2_.1 R2a.2.1.1.1 t2_ p2_ (by rw [i32t (by omega)]; exact p1_) ⟨by omega, by omega⟩
      have H3 := SX_fr H2_ m3_ (fun c_ j_ _ => f3_ c_ j_)
      have R3a := rW_all R2a m3_ f3_
      have t3_ := (cl_s H3.1 hc_).2.1
      obtain ⟨h4, ⟨H4, F4⟩, R4, ld4⟩ := c_sb (a_ := 336) (b_ := 337) (mi := 129) (pc := 78) (k_ := r_) (lo_ := [(6, .int (Int32.ofNat r_)), (4, .int (Int32.ofNat f_)), (5, .index 336), (0, .index 0), (1, .index a_), (2, .index (34 + 2 * c_)), (3, .int 3)]) (s' := []) rfl (xcc_l (List.forall_mem_cons.mpr ⟨rfl, List.forall_mem_cons.mpr ⟨rfl, List.forall_mem_cons.mpr ⟨xidx_i (bcq_lt (bcq_of (n_ := 336) (z_ := (6, 2)) H3.1 rfl)), List.forall_mem_cons.mpr ⟨xidx_i (bcq_lt (bcq_of (n_ := 0) (z_ := (11, 15)) H3.1 rfl)), List.forall_mem_cons.mpr ⟨xidx_i (bcq_lt R3a.2.1.1.1), List.forall_mem_cons.mpr ⟨xidx_i (bcq_lt t3_), List.forall_mem_cons.mpr ⟨rfl, fun q_ hq => absurd hq List.not_mem_nil⟩⟩⟩⟩⟩⟩⟩) (fun t_ ht => absurd ht List.not_mem_nil) (Nat.le_of_ble_eq_true rfl)) K_ H3 r8 (by decide) (by decide) (by decide) (rW_all R2' m3_ f3_)
      have F4' : wyF 3 h3 h4 := ⟨F4.1, fun c_ j_ q1_ q2_ q3_ => F4.2 c_ j_ (by omega) (by omega) q2_ q3_⟩
      have R4a := wyF_w R3a H4.1 F4' na ni
      have t4_ := (cl_s H4.1 hc_).2.1
      obtain ⟨h5, m5_, f5_, ld5⟩ := xwyV3B (v4_ := Int32.ofNat f_) (v6 := Int32.ofNat r_) H4.1 R4a.2.1.1.1 t4_
      have H5 := SX_fr H4 m5_ (fun c_ j_ _ => f5_ c_ j_)
      have R5a := rW_all R4a m5_ f5_
      have t5_ := (cl_s H5.1 hc_).2.1
      obtain ⟨h6, ⟨H6, F6⟩, r6⟩ := wyX2 (a_ := 336) (ia := 337) K_ hc_ (by decide) (by decide) h5 H5 (rW_all R4 m5_ f5_)
      have ld6 := ycv (d_ := 68) (mi := 129) (pc := 90) (cm := 129) (lo_ := [(6, .int (Int32.ofNat r_)), (4, .int (Int32.ofNat f_)), (5, .index 336), (0, .index 0), (1, .index a_), (2, .index (34 + 2 * c_)), (3, .int 3)]) (st_ := [.int 2, .index (34 + 2 * c_), .index 336, .index 0, .int (Int32.ofNat f_)]) (as_ := [.index 336, .index (34 + 2 * c_), .int 2]) (s' := [.int (Int32.ofNat f_)]) rfl rfl (bcq_of (n_ := 0) (z_ := (11, 15)) H5.1 rfl) rfl (xcc_l (List.forall_mem_cons.mpr ⟨rfl, List.forall_mem_cons.mpr ⟨rfl, List.forall_mem_cons.mpr ⟨xidx_i (bcq_lt (bcq_of (n_ := 336) (z_ := (6, 2)) H5.1 rfl)), List.forall_mem_cons.mpr ⟨xidx_i (bcq_lt (bcq_of (n_ := 0) (z_ := (11, 15)) H5.1 rfl)), List.forall_mem_cons.mpr ⟨xidx_i (bcq_lt R5a.2.1.1.1), List.forall_mem_cons.mpr ⟨xidx_i (bcq_lt t5_), List.forall_mem_cons.mpr ⟨rfl, fun q_ hq => absurd hq List.not_mem_nil⟩⟩⟩⟩⟩⟩⟩) (List.forall_mem_cons.mpr ⟨⟨rfl, rfl⟩, fun t_ ht => absurd ht List.not_mem_nil⟩) (Nat.le_of_ble_eq_true rfl)) r6
      have F6' : wyF 3 h5 h6 := wyF_u (by omega) F6
      have R6a := wyF_w R5a H6.1 F6' na ni
      have t6 := (cl_s H6.1 hc_).2.1
      obtain ⟨h7, m7_, f7_, ld7⟩ := xwyW3B (v4_ := Int32.ofNat f_) (v6 := Int32.ofNat r_) (v7 := Int32.ofNat (wkC W_ V (isg (W_ c_)) 2 (stp W_ V r_ l))) (v8 := Int32.ofNat f_) H6.1 R6a.2.1.1.1 t6
      rw [i32s, i32p] at ld7
      obtain ⟨h8, ⟨H8, F8⟩, r8_⟩ := ih_ (r_ + 1) (f_ + wkC W_ V (isg (W_ c_)) 2 (stp W_ V r_ l)) h7 _ (by omega) (SX_fr H6 m7_ (fun c_ j_ _ => f7_ c_ j_)) (rW_all R6a m7_ f7_) (Or.inr rfl)
      rw [Nat.add_assoc] at r8_
      exact ⟨h8, ⟨H8, wyF_t (wyF_0 m1_ f1_) (wyF_t F2 (wyF_t (wyF_0 m3_ f3_) (wyF_t F4' (wyF_t (wyF_0 m5_ f5_) (wyF_t F6' (wyF_t (wyF_0 m7_ f7_) F8))))))⟩, fun D_ hD => ld1 D_ (by omega) _ (ld2 D_ (by omega) _ (ld3 D_ (by omega) _ (ld4 D_ (by omega) _ (ld5 D_ (by omega) _ (ld6 D_ (by omega) _ (ld7 D_ (by omega) _ (r8_ D_ hD)))))))⟩
theorem wyX3 {a_ ia c_ : Nat} {l : List Int32} (K_ : okS W_ V) (hc_ : c_ < 12) (na : ¬ (332 ≤ a_ ∧ a_ < 332 + 2 * 3) ∧ (¬ a_ = 33 ∧ ¬ a_ = 69)) (ni : ¬ (332 ≤ ia ∧ ia < 332 + 2 * 3) ∧ (¬ ia = 33 ∧ ¬ ia = 69)) : ∀ (h_ : xH), SX W_ V h_ → rW a_ ia h_ l → ∃ h', (SX W_ V h' ∧ wyF 3 h_ h') ∧ ∀ D_, 70 ≤ D_ → xrun D_ 129 0 [(0, .index 0), (1, .index a_), (2, .index (34 + 2 * c_)), (3, .int 3)] [] h_ (some (.int (Int32.ofNat (wkC W_ V (isg (W_ c_)) 3 l))), h', []) := by
  intro h_ H_ R_
  have s2_ := (cl_s H_.1 hc_).2.1
  have ev_ : wkC W_ V (isg (W_ c_)) 3 l = (if l = W_ c_ then 1 else 0) + smR (fun r_ => wkC W_ V (isg (W_ c_)) 2 (stp W_ V r_ l)) 0 (nR V) := rfl
  rw [ev_]
  obtain ⟨h1, m1_, f1_, ld1⟩ := xwyE3 H_.1 R_.2.1.1.1 s2_
  have H1_ := SX_fr H_ m1_ (fun c_ j_ _ => f1_ c_ j_)
  have R1 := rW_all R_ m1_ f1_
  have RC := SX_w H1_ (cl_x hc_)
  obtain ⟨h2, m2_, f2_, r2⟩ := ilX H1_.1 R1.2.1 RC
  have ld2 := ycv (d_ := 62) (mi := 129) (pc := 2) (cm := 41) (lo_ := [(0, .index 0), (1, .index a_), (2, .index (34 + 2 * c_)), (3, .int 3)]) (st_ := [.index (34 + 2 * c_), .index a_]) (as_ := [.index (34 + 2 * c_)]) (s' := []) rfl rfl R1.2.1.1.1 rfl (xcc_l (List.forall_mem_cons.mpr ⟨xidx_i (bcq_lt (bcq_of (n_ := 0) (z_ := (11, 15)) H1_.1 rfl)), List.forall_mem_cons.mpr ⟨xidx_i (bcq_lt R1.2.1.1.1), List.forall_mem_cons.mpr ⟨xidx_i (bcq_lt (cl_s H1_.1 hc_).2.1), List.forall_mem_cons.mpr ⟨rfl, fun q_ hq => absurd hq List.not_mem_nil⟩⟩⟩⟩) (fun t_ ht => absurd ht List.not_mem_nil) (Nat.le_of_ble_eq_true rfl)) r2
  have H2_ := SX_fr H1_ m2_ (fun c_ j_ _ => f2_ c_ j_)
  have R2 := rW_all R1 m2_ f2_
  have t2_ := (cl_s H2_.1 hc_).2.1
  have F2 : wyF 3 h_ h2 := wyF_t (wyF_0 m1_ f1_) (wyF_0 m2_ f2_)
  by_cases q_ : l = W_ c_
  · rw [if_pos q_] at ld2 ⊢
    obtain ⟨h3, m3_, f3_, ld3⟩ := xwyG31 H2_.1 R2.2.1.1.1 t2_
    obtain ⟨h4, ⟨H4, F4⟩, r4⟩ := wyL3 (a_ := a_) (ia := ia) (l := l) K_ hc_ na ni (nR V) 0 1 h3 _ (by omega) (SX_fr H2_ m3_ (fun c_ j_ _ => f3_ c_ j_)) (rW_all R2 m3_ f3_) (Or.inl rfl)
    exact ⟨h4, ⟨H4, wyF_t F2 (wyF_t (wyF_0 m3_ f3_) F4)⟩, fun D_ hD => ld1 D_ (by omega) _ (ld2 D_ (by omega) _ (ld3 D_ (by omega) _ (r4 D_ (by omega))))⟩
  · rw [if_neg q_] at ld2 ⊢
    obtain ⟨h3, m3_, f3_, ld3⟩ := xwyG30 H2_.1 R2.2.1.1.1 t2_
    obtain ⟨h4, ⟨H4, F4⟩, r4⟩ := wyL3 (a_ := a_) (ia := ia) (l := l) K_ hc_ na ni (nR V) 0 0 h3 _ (by omega) (SX_fr H2_ m3_ (fun c_ j_ _ => f3_ c_ j_)) (rW_all R2 m3_ f3_) (Or.inl rfl)
    exact ⟨h4, ⟨H4, wyF_t F2 (wyF_t (wyF_0 m3_ f3_) F4)⟩, fun D_ hD => ld1 D_ (by omega) _ (ld2 D_ (by omega) _ (ld3 D_ (by omega) _ (r4 D_ (by omega))))⟩
end
theorem x_ways {W_ : Nat → List Int32} {V : Nat → Int32} {h_ : xH} {z_ y_ k_ : Int32} (B_ : bInv bZ bIj h_) (K_ : okS W_ V) (H_ : SX W_ V h_) : ∃ h', ysm h_ h' ∧ (SX (waysF W_ V z_ y_ k_).1 (waysF W_ V z_ y_ k_).2.1 h' ∧ ∀ D_, 74 ≤ D_ → xrun D_ 92 0 [(0, .index 0), (1, .int z_), (2, .int y_), (3, .int k_)] [] h_ (some (.int (waysF W_ V z_ y_ k_).2.2), h', [])) := by
  obtain ⟨o1, oy⟩ := xerr (k_ := 1) B_ (by omega)
  have zz := z0_
  have z3 : (3 : Int32).toInt = 3 := rfl
  unfold waysF
  obtain ⟨h0, m0_, e_⟩ := xwaE (v1_ := z_) (v2 := y_) (v3 := k_) H_.1 (xNc H_) oy
  rcases e_ with ⟨g1, g2, g3_, g4, g5_, g6, f_, r_⟩ | ⟨g1, w0_, f_, r_⟩ | ⟨g1, g2, w0_, f_, r_⟩ | ⟨g1, g2, g3_, w0_, f_, r_⟩ | ⟨g1, g2, g3_, g4, w0_, f_, r_⟩ | ⟨g1, g2, g3_, g4, g5_, w0_, f_, r_⟩ | ⟨g1, g2, g3_, g4, g5_, g6, w0_, f_, r_⟩
  rotate_left
  · rw [pif_f (fun q_ => by omega)]; exact ⟨h0, m0_, SX_e H_ m0_ f_, fun D_ hD => r_ D_ (by omega)⟩
  · rw [pif_f (fun q_ => by omega)]; exact ⟨h0, m0_, SX_e H_ m0_ f_, fun D_ hD => r_ D_ (by omega)⟩
  · rw [pif_f (fun q_ => by omega)]; exact ⟨h0, m0_, SX_e H_ m0_ f_, fun D_ hD => r_ D_ (by omega)⟩
  · rw [pif_f (fun q_ => by omega)]; exact ⟨h0, m0_, SX_e H_ m0_ f_, fun D_ hD => r_ D_ (by omega)⟩
  · rw [pif_f (fun q_ => by omega)]; exact ⟨h0, m0_, SX_e H_ m0_ f_, fun D_ hD => r_ D_ (by omega)⟩
  · rw [pif_f (fun q_ => by omega)]; exact ⟨h0, m0_, SX_e H_ m0_ f_, fun D_ hD => r_ D_ (by omega)⟩
  have H0 := SX_fr H_ m0_ (fun c_ j_ _ => f_ c_ j_)
  obtain ⟨c_, hc_, hN_, rfl, ec⟩ := isC_n (z_ := z_) K_ ⟨by omega, by omega⟩
  obtain ⟨c2_, hc2, hN2, rfl, ec2⟩ := isC_n (z_ := y_) K_ ⟨by omega, by omega⟩
  rw [pif_t ⟨⟨⟨by omega, by omega⟩, by omega, by omega⟩, by omega, by omega⟩, ec, ec2]
  obtain ⟨s1_, s2_, s3_⟩ := cl_s H0.1 hc_
  obtain ⟨u1_, u2_, u3⟩ := cl_s H0.1 hc2
  obtain ⟨h1, m1_, f1_, ld1⟩ := xwaG (v1_ := Int32.ofNat c_) (v2 := Int32.ofNat c2_) (v3 := k_) H0.1 s2_ u2_ (by rw [ec]; exact s1_) (by rw [ec2]; exact u1_) ⟨by omega, by omega⟩ ⟨by omega, by omega⟩
  have H1_ := SX_fr H0 m1_ (fun c_ j_ _ => f1_ c_ j_)
  have RC := SX_w H1_ (cl_x hc_)
  have RA_ : rW (34 + 2 * c_) (35 + 2 * c_) h1 (W_ c_) := ⟨H1_.1, RC, RC.2.2.1⟩
  have t2_ := (cl_s H1_.1 hc2).2.1
  have k4_ : k_ = 0 ∨ (k_ = 1 ∨ (k_ = 2 ∨ k_ = 3)) := by
    by_cases q0 : k_.toInt = 0
    · exact Or.inl (Int32.toInt_inj.mp q0)
    · by_cases q1_ : k_.toInt = 1
      · exact Or.inr (Or.inl (Int32.toInt_inj.mp q1_))
      · by_cases q2_ : k_.toInt = 2
        · exact Or.inr (Or.inr (Or.inl (Int32.toInt_inj.mp q2_)))
        · have q3_ : k_.toInt = 3 := by omega
          exact Or.inr (Or.inr (Or.inr (Int32.toInt_inj.mp q3_)))
  have r5_ : ∃ h2, (SX W_ V h2 ∧ wyF 3 h1 h2) ∧ ∀ D_, 70 ≤ D_ → xrun D_ 129 0 [(0, .index 0), (1, .index (34 + 2 * c_)), (2, .index (34 + 2 * c2_)), (3, .int k_)] [] h1 (some (.int (Int32.ofNat (wkC W_ V (isg (W_ c2_)) k_.toInt.toNat (W_ c_)))), h2, []) := by
    rcases k4_ with rfl | rfl | rfl | rfl
    · obtain ⟨h2, ⟨H2_, F2⟩, r2⟩ := wyX0 K_ hc2 ⟨by omega, by omega, by omega⟩ ⟨by omega, by omega, by omega⟩ h1 H1_ RA_
      exact ⟨h2, ⟨H2_, wyF_u (by omega) F2⟩, fun D_ hD => r2 D_ (by omega)⟩
    · obtain ⟨h2, ⟨H2_, F2⟩, r2⟩ := wyX1 K_ hc2 ⟨by omega, by omega, by omega⟩ ⟨by omega, by omega, by omega⟩ h1 H1_ RA_
      exact ⟨h2, ⟨H2_, wyF_u (by omega) F2⟩, fun D_ hD => r2 D_ (by omega)⟩
    · obtain ⟨h2, ⟨H2_, F2⟩, r2⟩ := wyX2 K_ hc2 ⟨by omega, by omega, by omega⟩ ⟨by omega, by omega, by omega⟩ h1 H1_ RA_
      exact ⟨h2, ⟨H2_, wyF_u (by omega) F2⟩, fun D_ hD => r2 D_ (by omega)⟩
    · obtain ⟨h2, ⟨H2_, F2⟩, r2⟩ := wyX3 K_ hc2 ⟨by omega, by omega, by omega⟩ ⟨by omega, by omega, by omega⟩ h1 H1_ RA_
      exact ⟨h2, ⟨H2_, F2⟩, fun D_ hD => r2 D_ (by omega)⟩
  obtain ⟨h2, ⟨H2_, F2⟩, r2⟩ := r5_
  have ld2 := ycv (d_ := 70) (mi := 92) (pc := 51) (cm := 129) (lo_ := [(0, .index 0), (1, .int (Int32.ofNat c_)), (2, .int (Int32.ofNat c2_)), (3, .int k_)]) (st_ := [.int k_, .index (34 + 2 * c2_), .index (34 + 2 * c_), .index 0]) (as_ := [.index (34 + 2 * c_), .index (34 + 2 * c2_), .int k_]) (s' := []) rfl rfl (bcq_of (n_ := 0) (z_ := (11, 15)) H1_.1 rfl) rfl (xcc_l (List.forall_mem_cons.mpr ⟨xidx_i (bcq_lt (bcq_of (n_ := 0) (z_ := (11, 15)) H1_.1 rfl)), List.forall_mem_cons.mpr ⟨rfl, List.forall_mem_cons.mpr ⟨rfl, List.forall_mem_cons.mpr ⟨rfl, fun q_ hq => absurd hq List.not_mem_nil⟩⟩⟩⟩) (fun t_ ht => absurd ht List.not_mem_nil) (Nat.le_of_ble_eq_true rfl)) r2
  obtain ⟨h3, m3_, f3_, r3⟩ := xwaR (v1_ := Int32.ofNat c_) (v2 := Int32.ofNat c2_) (v3 := k_) (v5 := Int32.ofNat (wkC W_ V (isg (W_ c2_)) k_.toInt.toNat (W_ c_))) H2_.1
  exact ⟨h3, ysm_tr m0_ (ysm_tr m1_ (ysm_tr F2.1 m3_)), SX_fr H2_ m3_ (fun c_ j_ _ => f3_ c_ j_), fun D_ hD => r_ D_ (by omega) _ (ld1 D_ (by omega) _ (ld2 D_ (by omega) _ (r3 D_ (by omega))))⟩
-- ===== the reference
section
variable {W_ : Nat → List Int32} {V : Nat → Int32} {h_ : xH}
theorem wys_lp (K_ : okS W_ V) {c_ j_ : Nat} (hc_ : c_ < 12) (hj : 10 ^ j_ ≤ 1000) {g_ : List Int32} {x2_ x3 : Int32} : ∀ (n_ r_ f_ : Nat) (h_ : xH), r_ + n_ = 10 ^ j_ → SM W_ V h_ → (∀ j_, j_ < 768 → ∃ y_ : Int32, bpat h_ 339 j_ = some (.int y_)) → rM 344 h_ g_ → ∃ h', (SM W_ V h' ∧ ysm h_ h') ∧ ∀ D_, 70 ≤ D_ → xrun D_ 194 85 [(6, .int (Int32.ofNat r_)), (5, .int (Int32.ofNat f_)), (4, .int (Int32.ofNat (10 ^ j_ - 1))), (0, .index 338), (1, .int (Int32.ofNat c_)), (2, .int x2_), (3, .int x3)] [] h_ (some (.int (Int32.ofNat (f_ + smR (wy1 W_ V g_ (W_ c_)) r_ n_))), h', []) := by
  intro n_
  have p0_ : 0 < 10 ^ j_ := Nat.pow_pos (by omega)
  have ej := i32n (i_ := 10 ^ j_ - 1) (by omega)
  induction n_ with
  | zero =>
    intro r_ f_ h_ hi_ H_ hz G_
    have er := i32n (i_ := r_) (by omega)
    obtain ⟨h1, m1_, f1_, r1_⟩ := mwaX (v1_ := Int32.ofNat c_) (v2 := x2_) (v3 := x3) (v4_ := Int32.ofNat (10 ^ j_ - 1)) (v5 := Int32.ofNat f_) (v6 := Int32.ofNat r_) H_.1 (by omega)
    exact ⟨h1, ⟨SM_fr H_ m1_ (fun c_ j_ _ => f1_ c_ j_), m1_⟩, fun D_ hD => r1_ D_ (by omega)⟩
  | succ n_ ih_ =>
    intro r_ f_ h_ hi_ H_ hz G_
    have er := i32n (i_ := r_) (by omega)
    have es : smR (wy1 W_ V g_ (W_ c_)) r_ (n_ + 1) = wy1 W_ V g_ (W_ c_) r_ + smR (wy1 W_ V g_ (W_ c_)) (r_ + 1) n_ := rfl
    rw [es]
    obtain ⟨h1, m1_, f1_, ld1⟩ := mwaT (v1_ := Int32.ofNat c_) (v2 := x2_) (v3 := x3) (v4_ := Int32.ofNat (10 ^ j_ - 1)) (v5 := Int32.ofNat f_) (v6 := Int32.ofNat r_) H_.1 (by omega)
    have H1_ := SM_fr H_ m1_ (fun c_ j_ _ => f1_ c_ j_)
    obtain ⟨h2, ⟨H2_, F2⟩, e2_⟩ := c_isw (mi := 194) (pc := 97) (lo_ := [(6, .int (Int32.ofNat r_)), (5, .int (Int32.ofNat f_)), (4, .int (Int32.ofNat (10 ^ j_ - 1))), (0, .index 338), (1, .int (Int32.ofNat c_)), (2, .int x2_), (3, .int x3)]) (z_ := Int32.ofNat r_) (s' := [.int (Int32.ofNat f_)]) rfl (xcc_l (List.forall_mem_cons.mpr ⟨rfl, List.forall_mem_cons.mpr ⟨rfl, List.forall_mem_cons.mpr ⟨rfl, List.forall_mem_cons.mpr ⟨xidx_i (bcq_lt (bcq_of (n_ := 338) (z_ := (12, 26)) H1_.1 rfl)), List.forall_mem_cons.mpr ⟨rfl, List.forall_mem_cons.mpr ⟨rfl, List.forall_mem_cons.mpr ⟨rfl, fun q_ hq => absurd hq List.not_mem_nil⟩⟩⟩⟩⟩⟩⟩) (List.forall_mem_cons.mpr ⟨⟨rfl, rfl⟩, fun t_ ht => absurd ht List.not_mem_nil⟩) (Nat.le_of_ble_eq_true rfl)) K_ H1_
    have G2_ := rM_all (rM_all G_ m1_ f1_) F2.1 F2.2
    rcases e2_ with ⟨gw, ld2⟩ | ⟨gw, ld2⟩
    · obtain ⟨h3, m3_, f3_, ld3⟩ := mwaU (v1_ := Int32.ofNat c_) (v2 := x2_) (v3 := x3) (v4_ := Int32.ofNat (10 ^ j_ - 1)) (v5 := Int32.ofNat f_) (v6 := Int32.ofNat r_) (v8 := Int32.ofNat f_) H2_.1
      have H3 := SM_fr H2_ m3_ (fun c_ j_ _ => f3_ c_ j_)
      obtain ⟨h4, ⟨H4, F4⟩, G4, r4⟩ := cbM (z_ := Int32.ofNat r_) K_ hc_ gw H3 (fun j_ hj => by rw [f3_, F2.2, f1_]; exact hz j_ hj) (rM_all G2_ m3_ f3_)
      have ld4 := ycv (d_ := 68) (mi := 194) (pc := 111) (cm := 192) (lo_ := [(6, .int (Int32.ofNat r_)), (5, .int (Int32.ofNat f_)), (4, .int (Int32.ofNat (10 ^ j_ - 1))), (0, .index 338), (1, .int (Int32.ofNat c_)), (2, .int x2_), (3, .int x3)]) (st_ := [.index 344, .int (Int32.ofNat r_), .int (Int32.ofNat c_), .index 338, .int (Int32.ofNat f_)]) (as_ := [.int (Int32.ofNat c_), .int (Int32.ofNat r_), .index 344]) (s' := [.int (Int32.ofNat f_)]) rfl rfl (bcq_of (n_ := 338) (z_ := (12, 26)) H3.1 rfl) rfl (xcc_l (List.forall_mem_cons.mpr ⟨rfl, List.forall_mem_cons.mpr ⟨rfl, List.forall_mem_cons.mpr ⟨rfl, List.forall_mem_cons.mpr ⟨xidx_i (bcq_lt (bcq_of (n_ := 338) (z_ := (12, 26)) H3.1 rfl)), List.forall_mem_cons.mpr ⟨rfl, List.forall_mem_cons.mpr ⟨rfl, List.forall_mem_cons.mpr ⟨rfl, fun q_ hq => absurd hq List.not_mem_nil⟩⟩⟩⟩⟩⟩⟩) (List.forall_mem_cons.mpr ⟨⟨rfl, rfl⟩, fun t_ ht => absurd ht List.not_mem_nil⟩) (Nat.le_of_ble_eq_true rfl)) r4
      have ei : (if hrd W_ V (Int32.ofNat r_) (W_ c_) = g_ then (1 : Int32) else 0) = Int32.ofNat (wy1 W_ V g_ (W_ c_) r_) := by
        unfold wy1 isg
        rw [pif_t gw]
        split <;> rfl
      rw [ei] at ld4
      obtain ⟨h5, m5_, f5_, ld5⟩ := mwaV (v1_ := Int32.ofNat c_) (v2 := x2_) (v3 := x3) (v4_ := Int32.ofNat (10 ^ j_ - 1)) (v5 := Int32.ofNat f_) (v6 := Int32.ofNat r_) (v7 := Int32.ofNat (wy1 W_ V g_ (W_ c_) r_)) (v8 := Int32.ofNat f_) H4.1
      rw [i32s, i32p] at ld5
      obtain ⟨h6, ⟨H6, M6_⟩, r6⟩ := ih_ (r_ + 1) (f_ + wy1 W_ V g_ (W_ c_) r_) h5 (by omega) (SM_fr H4 m5_ (fun c_ j_ _ => f5_ c_ j_)) (fun j_ hj => by rw [f5_, F4.2 _ _ (by omega) (by omega) (by omega), f3_, F2.2, f1_]; exact hz j_ hj) (rM_all G4 m5_ f5_)
      rw [Nat.add_assoc] at r6
      exact ⟨h6, ⟨H6, ysm_tr m1_ (ysm_tr F2.1 (ysm_tr m3_ (ysm_tr F4.1 (ysm_tr m5_ M6_))))⟩, fun D_ hD => ld1 D_ (by omega) _ (ld2 D_ (by omega) _ (ld3 D_ (by omega) _ (ld4 D_ (by omega) _ (ld5 D_ (by omega) _ (r6 D_ hD)))))⟩
    · have ez : wy1 W_ V g_ (W_ c_) r_ = 0 := pif_f gw
      obtain ⟨h3, m3_, f3_, ld3⟩ := mwaW (v1_ := Int32.ofNat c_) (v2 := x2_) (v3 := x3) (v4_ := Int32.ofNat (10 ^ j_ - 1)) (v5 := Int32.ofNat f_) (v6 := Int32.ofNat r_) (v8 := Int32.ofNat f_) H2_.1
      rw [i32s, Int32.add_zero] at ld3
      obtain ⟨h6, ⟨H6, M6_⟩, r6⟩ := ih_ (r_ + 1) f_ h3 (by omega) (SM_fr H2_ m3_ (fun c_ j_ _ => f3_ c_ j_)) (fun j_ hj => by rw [f3_, F2.2, f1_]; exact hz j_ hj) (rM_all G2_ m3_ f3_)
      rw [ez, Nat.zero_add]
      exact ⟨h6, ⟨H6, ysm_tr m1_ (ysm_tr F2.1 (ysm_tr m3_ M6_))⟩, fun D_ hD => ld1 D_ (by omega) _ (ld2 D_ (by omega) _ (ld3 D_ (by omega) _ (r6 D_ hD)))⟩
end
theorem m_ways {W_ : Nat → List Int32} {V : Nat → Int32} {h_ : xH} {z_ y_ k_ : Int32} (B_ : bInv bZ bIj h_) (K_ : okS W_ V) (H_ : SM W_ V h_) : ∃ h', ysm h_ h' ∧ (SM (waysF W_ V z_ y_ k_).1 (waysF W_ V z_ y_ k_).2.1 h' ∧ ∀ D_, 74 ≤ D_ → xrun D_ 194 0 [(0, .index 338), (1, .int z_), (2, .int y_), (3, .int k_)] [] h_ (some (.int (waysF W_ V z_ y_ k_).2.2), h', [])) := by
  obtain ⟨o1, oy⟩ := merr (k_ := 1) B_ (by omega)
  have zz := z0_
  have z3 : (3 : Int32).toInt = 3 := rfl
  have kN_ := okN K_
  have n1_ := i32j (V 0) kN_.1 (by omega)
  have hz := m339 B_
  unfold waysF
  obtain ⟨h0, m0_, e_⟩ := mwaE (v1_ := z_) (v2 := y_) (v3 := k_) H_.1 (mNc H_) oy
  rcases e_ with ⟨g1, g2, g3_, g4, g5_, g6, f_, r_⟩ | ⟨g1, w0_, f_, r_⟩ | ⟨g1, g2, w0_, f_, r_⟩ | ⟨g1, g2, g3_, w0_, f_, r_⟩ | ⟨g1, g2, g3_, g4, w0_, f_, r_⟩ | ⟨g1, g2, g3_, g4, g5_, w0_, f_, r_⟩ | ⟨g1, g2, g3_, g4, g5_, g6, w0_, f_, r_⟩
  rotate_left
  · rw [pif_f (fun q_ => by omega)]; exact ⟨h0, m0_, SM_e H_ m0_ f_, fun D_ hD => r_ D_ (by omega)⟩
  · rw [pif_f (fun q_ => by omega)]; exact ⟨h0, m0_, SM_e H_ m0_ f_, fun D_ hD => r_ D_ (by omega)⟩
  · rw [pif_f (fun q_ => by omega)]; exact ⟨h0, m0_, SM_e H_ m0_ f_, fun D_ hD => r_ D_ (by omega)⟩
  · rw [pif_f (fun q_ => by omega)]; exact ⟨h0, m0_, SM_e H_ m0_ f_, fun D_ hD => r_ D_ (by omega)⟩
  · rw [pif_f (fun q_ => by omega)]; exact ⟨h0, m0_, SM_e H_ m0_ f_, fun D_ hD => r_ D_ (by omega)⟩
  · rw [pif_f (fun q_ => by omega)]; exact ⟨h0, m0_, SM_e H_ m0_ f_, fun D_ hD => r_ D_ (by omega)⟩
  have H0 := SM_fr H_ m0_ (fun c_ j_ _ => f_ c_ j_)
  obtain ⟨c_, hc_, hN_, rfl, ec⟩ := isC_n (z_ := z_) K_ ⟨by omega, by omega⟩
  obtain ⟨c2_, hc2, hN2, rfl, ec2⟩ := isC_n (z_ := y_) K_ ⟨by omega, by omega⟩
  rw [pif_t ⟨⟨⟨by omega, by omega⟩, by omega, by omega⟩, by omega, by omega⟩, ec, ec2]
  have k4_ : k_ = 0 ∨ (k_ = 1 ∨ (k_ = 2 ∨ k_ = 3)) := by
    by_cases q0 : k_.toInt = 0
    · exact Or.inl (Int32.toInt_inj.mp q0)
    · by_cases q1_ : k_.toInt = 1
      · exact Or.inr (Or.inl (Int32.toInt_inj.mp q1_))
      · by_cases q2_ : k_.toInt = 2
        · exact Or.inr (Or.inr (Or.inl (Int32.toInt_inj.mp q2_)))
        · have q3_ : k_.toInt = 3 := by omega
          exact Or.inr (Or.inr (Or.inr (Int32.toInt_inj.mp q3_)))
  obtain ⟨h1, m1_, f1_, ld1⟩ := mwaG (v1_ := Int32.ofNat c_) (v2 := Int32.ofNat c2_) (v3 := k_) H0.1
  rw [i34e hc2] at ld1
  have H1_ := SM_fr H0 m1_ (fun c_ j_ _ => f1_ c_ j_)
  obtain ⟨h1', ⟨H1', F1_⟩, R1, ld1'⟩ := c_take (mi := 194) (pc := 43) (lo_ := [(0, .index 338), (1, .int (Int32.ofNat c_)), (2, .int (Int32.ofNat c2_)), (3, .int k_)]) (b_ := 344) (s' := []) rfl (xcc_l (List.forall_mem_cons.mpr ⟨xidx_i (bcq_lt (bcq_of (n_ := 338) (z_ := (12, 26)) H1_.1 rfl)), List.forall_mem_cons.mpr ⟨rfl, List.forall_mem_cons.mpr ⟨rfl, List.forall_mem_cons.mpr ⟨rfl, fun q_ hq => absurd hq List.not_mem_nil⟩⟩⟩⟩) (fun t_ ht => absurd ht List.not_mem_nil) (Nat.le_of_ble_eq_true rfl)) K_ H1_ (Or.inr (Or.inr rfl)) hc2 (fun j_ hj => by rw [f1_, f_]; exact hz j_ hj)
  have hz1 : ∀ j_, j_ < 768 → ∃ y_ : Int32, bpat h1' 339 j_ = some (.int y_) := fun j_ hj => by rw [F1_.2 _ _ (by omega), f1_, f_]; exact hz j_ hj
  have r5_ : ∃ h2, (SM W_ V h2 ∧ ysm h1' h2) ∧ ∀ D_, 70 ≤ D_ → xrun D_ 194 46 [(0, .index 338), (1, .int (Int32.ofNat c_)), (2, .int (Int32.ofNat c2_)), (3, .int k_)] [] h1' (some (.int (Int32.ofNat (wkC W_ V (isg (W_ c2_)) k_.toInt.toNat (W_ c_)))), h2, []) := by
    rcases k4_ with rfl | rfl | rfl | rfl
    · obtain ⟨h2, m2_, f2_, ld2⟩ := mwaH0 (v1_ := Int32.ofNat c_) (v2 := Int32.ofNat c2_) H1'.1
      obtain ⟨h3, ⟨H3, M3_⟩, r3⟩ := wys_lp (g_ := W_ c2_) (x2_ := Int32.ofNat c2_) (x3 := 0) (j_ := 0) K_ hc_ (by decide) (10 ^ 0) 0 0 h2 (Nat.zero_add _) (SM_fr H1' m2_ (fun c_ j_ _ => f2_ c_ j_)) (fun j_ hj => by rw [f2_]; exact hz1 j_ hj) (rM_all R1 m2_ f2_)
      rw [Nat.zero_add, wy1_C (nR_le K_).1 (by decide)] at r3
      exact ⟨h3, ⟨H3, ysm_tr m2_ M3_⟩, fun D_ hD => ld2 D_ (by omega) _ (r3 D_ hD)⟩
    · obtain ⟨h2, m2_, f2_, ld2⟩ := mwaH1 (v1_ := Int32.ofNat c_) (v2 := Int32.ofNat c2_) H1'.1
      obtain ⟨h3, ⟨H3, M3_⟩, r3⟩ := wys_lp (g_ := W_ c2_) (x2_ := Int32.ofNat c2_) (x3 := 1) (j_ := 1) K_ hc_ (by decide) (10 ^ 1) 0 0 h2 (Nat.zero_add _) (SM_fr H1' m2_ (fun c_ j_ _ => f2_ c_ j_)) (fun j_ hj => by rw [f2_]; exact hz1 j_ hj) (rM_all R1 m2_ f2_)
      rw [Nat.zero_add, wy1_C (nR_le K_).1 (by decide)] at r3
      exact ⟨h3, ⟨H3, ysm_tr m2_ M3_⟩, fun D_ hD => ld2 D_ (by omega) _ (r3 D_ hD)⟩
    · obtain ⟨h2, m2_, f2_, ld2⟩ := mwaH2 (v1_ := Int32.ofNat c_) (v2 := Int32.ofNat c2_) H1'.1
      obtain ⟨h3, ⟨H3, M3_⟩, r3⟩ := wys_lp (g_ := W_ c2_) (x2_ := Int32.ofNat c2_) (x3 := 2) (j_ := 2) K_ hc_ (by decide) (10 ^ 2) 0 0 h2 (Nat.zero_add _) (SM_fr H1' m2_ (fun c_ j_ _ => f2_ c_ j_)) (fun j_ hj => by rw [f2_]; exact hz1 j_ hj) (rM_all R1 m2_ f2_)
      rw [Nat.zero_add, wy1_C (nR_le K_).1 (by decide)] at r3
      exact ⟨h3, ⟨H3, ysm_tr m2_ M3_⟩, fun D_ hD => ld2 D_ (by omega) _ (r3 D_ hD)⟩
    · obtain ⟨h2, m2_, f2_, ld2⟩ := mwaH3 (v1_ := Int32.ofNat c_) (v2 := Int32.ofNat c2_) H1'.1
      obtain ⟨h3, ⟨H3, M3_⟩, r3⟩ := wys_lp (g_ := W_ c2_) (x2_ := Int32.ofNat c2_) (x3 := 3) (j_ := 3) K_ hc_ (by decide) (10 ^ 3) 0 0 h2 (Nat.zero_add _) (SM_fr H1' m2_ (fun c_ j_ _ => f2_ c_ j_)) (fun j_ hj => by rw [f2_]; exact hz1 j_ hj) (rM_all R1 m2_ f2_)
      rw [Nat.zero_add, wy1_C (nR_le K_).1 (by decide)] at r3
      exact ⟨h3, ⟨H3, ysm_tr m2_ M3_⟩, fun D_ hD => ld2 D_ (by omega) _ (r3 D_ hD)⟩
  obtain ⟨h2, ⟨H2_, M2_⟩, r2⟩ := r5_
  exact ⟨h2, ysm_tr m0_ (ysm_tr m1_ (ysm_tr F1_.1 M2_)), H2_, fun D_ hD => r_ D_ (by omega) _ (ld1 D_ (by omega) _ (ld1' D_ (by omega) _ (r2 D_ (by omega))))⟩
