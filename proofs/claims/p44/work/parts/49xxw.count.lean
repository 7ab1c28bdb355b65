-- ===== count
-- xct0: 6 steps, 0 ends, 1 returns
def xct0_L : List (Nat × Nat × Nat) := []
def xct0_O : yO := [(0, .int 0, .index 1), (1, .int 9, .arg 300)]
def xct0_A : yA := (yZ xct0_L, [], [], [], [])
def xct0_C : List xB := []
def xct0_ss : List yS := []
def xct0_rs : List yR := [(some (.arg 300), [(0, .int 0, .index 1), (1, .int 9, .arg 300)], [], [])]
theorem xct0_w : ywa xct0_A xct0_ss xct0_rs = true := by decide +kernel
theorem xct0_k : yis (yev xct0_A 3000 60 116 [] (0, [(0, .index 0), (1, .int 0)], [], xct0_O, xct0_C, [])) xct0_ss xct0_rs = true := by decide +kernel
def xct0_r (v300 : Int32) (k_ : Nat) : Value := bif Nat.beq k_ 300 then .int v300 else (.int 0)
def xct0_s (n_ : Nat) : Nat := 0
theorem xct0 {h_ : xH} {v300 : Int32} (hs : sHp h_) (o0_ : bpat h_ 1 9 = some (.int v300)) : ∃ h', ysm h_ h' ∧ (((∀ a_ j_ : Nat, bpat h' a_ j_ = bpat h_ a_ j_) ∧ (∀ D_, 60 ≤ D_ → xrun D_ 116 0 [(0, .index 0), (1, .int (0 : Int32))] [] h_ (some (.int v300), h', [])))) := by
  have hA : yas xct0_A (xct0_r v300) (yg xct0_s) := ⟨fun q_ hq => absurd hq List.not_mem_nil, fun q_ hq => absurd hq List.not_mem_nil, fun q_ hq => absurd hq List.not_mem_nil, fun n_ hn => yg_lo hn, fun q_ hq => absurd hq List.not_mem_nil⟩
  have Hs : ysh xct0_A.1 (yg xct0_s) h_ := ysh_of2 hs (fun q_ hq => absurd hq List.not_mem_nil)
  have Ho : ymem (xct0_r v300) (yg xct0_s) xct0_O h_ := List.forall_mem_cons.mpr ⟨bpat_some (fxr_at hs.2 (show fxk fxl 0 0 = some 1 by decide +kernel)), List.forall_mem_cons.mpr ⟨bpat_some o0_, fun q_ hq => absurd hq List.not_mem_nil⟩⟩
  have HC : ∀ q_ ∈ xct0_C, xhold (xct0_r v300) q_ := fun q_ hq => absurd hq List.not_mem_nil
  rcases yrun (yis_ok xct0_k) hA Hs Ho HC with ⟨q_, hq, h', K_, G_⟩ | ⟨q_, hq, h', K_, G_⟩
  · cases hq
  · have e_ := List.mem_singleton.mp hq
    subst e_
    exact ⟨h', yfr_sm K_.2.2.2 hs K_.1 (ywa_r xct0_w List.mem_cons_self), ⟨fun a_ j_ => yfr_bp K_.2.2.2 (fun q_ hq => absurd hq List.not_mem_nil), G_⟩⟩
-- mct0: 7 steps, 0 ends, 1 returns
def mct0_L : List (Nat × Nat × Nat) := []
def mct0_O : yO := [(338, .int 0, .index 339), (339, .int 0, .arg 300)]
def mct0_A : yA := (yZ mct0_L, [], [], [], [])
def mct0_C : List xB := []
def mct0_ss : List yS := []
def mct0_rs : List yR := [(some (.arg 300), [(338, .int 0, .index 339), (339, .int 0, .arg 300)], [], [])]
theorem mct0_w : ywa mct0_A mct0_ss mct0_rs = true := by decide +kernel
theorem mct0_k : yis (yev mct0_A 3000 60 236 [] (0, [(0, .index 338), (1, .int 0)], [], mct0_O, mct0_C, [])) mct0_ss mct0_rs = true := by decide +kernel
def mct0_r (v300 : Int32) (k_ : Nat) : Value := bif Nat.beq k_ 300 then .int v300 else (.int 0)
def mct0_s (n_ : Nat) : Nat := 0
theorem mct0 {h_ : xH} {v300 : Int32} (hs : sHp h_) (o0_ : bpat h_ 339 0 = some (.int v300)) : ∃ h', ysm h_ h' ∧ (((∀ a_ j_ : Nat, bpat h' a_ j_ = bpat h_ a_ j_) ∧ (∀ D_, 60 ≤ D_ → xrun D_ 236 0 [(0, .index 338), (1, .int (0 : Int32))] [] h_ (some (.int v300), h', [])))) := by
  have hA : yas mct0_A (mct0_r v300) (yg mct0_s) := ⟨fun q_ hq => absurd hq List.not_mem_nil, fun q_ hq => absurd hq List.not_mem_nil, fun q_ hq => absurd hq List.not_mem_nil, fun n_ hn => yg_lo hn, fun q_ hq => absurd hq List.not_mem_nil⟩
  have Hs : ysh mct0_A.1 (yg mct0_s) h_ := ysh_of2 hs (fun q_ hq => absurd hq List.not_mem_nil)
  have Ho : ymem (mct0_r v300) (yg mct0_s) mct0_O h_ := List.forall_mem_cons.mpr ⟨bpat_some (fxr_at hs.2 (show fxk fxl 338 0 = some 339 by decide +kernel)), List.forall_mem_cons.mpr ⟨bpat_some o0_, fun q_ hq => absurd hq List.not_mem_nil⟩⟩
  have HC : ∀ q_ ∈ mct0_C, xhold (mct0_r v300) q_ := fun q_ hq => absurd hq List.not_mem_nil
  rcases yrun (yis_ok mct0_k) hA Hs Ho HC with ⟨q_, hq, h', K_, G_⟩ | ⟨q_, hq, h', K_, G_⟩
  · cases hq
  · have e_ := List.mem_singleton.mp hq
    subst e_
    exact ⟨h', yfr_sm K_.2.2.2 hs K_.1 (ywa_r mct0_w List.mem_cons_self), ⟨fun a_ j_ => yfr_bp K_.2.2.2 (fun q_ hq => absurd hq List.not_mem_nil), G_⟩⟩
-- xct1: 6 steps, 0 ends, 1 returns
def xct1_L : List (Nat × Nat × Nat) := []
def xct1_O : yO := [(0, .int 0, .index 1), (1, .int 10, .arg 300)]
def xct1_A : yA := (yZ xct1_L, [], [], [], [])
def xct1_C : List xB := []
def xct1_ss : List yS := []
def xct1_rs : List yR := [(some (.arg 300), [(0, .int 0, .index 1), (1, .int 10, .arg 300)], [], [])]
theorem xct1_w : ywa xct1_A xct1_ss xct1_rs = true := by decide +kernel
theorem xct1_k : yis (yev xct1_A 3000 60 116 [] (0, [(0, .index 0), (1, .int 1)], [], xct1_O, xct1_C, [])) xct1_ss xct1_rs = true := by decide +kernel
def xct1_r (v300 : Int32) (k_ : Nat) : Value := bif Nat.beq k_ 300 then .int v300 else (.int 0)
def xct1_s (n_ : Nat) : Nat := 0
theorem xct1 {h_ : xH} {v300 : Int32} (hs : sHp h_) (o0_ : bpat h_ 1 10 = some (.int v300)) : ∃ h', ysm h_ h' ∧ (((∀ a_ j_ : Nat, bpat h' a_ j_ = bpat h_ a_ j_) ∧ (∀ D_, 60 ≤ D_ → xrun D_ 116 0 [(0, .index 0), (1, .int (1 : Int32))] [] h_ (some (.int v300), h', [])))) := by
  have hA : yas xct1_A (xct1_r v300) (yg xct1_s) := ⟨fun q_ hq => absurd hq List.not_mem_nil, fun q_ hq => absurd hq List.not_mem_nil, fun q_ hq => absurd hq List.not_mem_nil, fun n_ hn => yg_lo hn, fun q_ hq => absurd hq List.not_mem_nil⟩
  have Hs : ysh xct1_A.1 (yg xct1_s) h_ := ysh_of2 hs (fun q_ hq => absurd hq List.not_mem_nil)
  have Ho : ymem (xct1_r v300) (yg xct1_s) xct1_O h_ := List.forall_mem_cons.mpr ⟨bpat_some (fxr_at hs.2 (show fxk fxl 0 0 = some 1 by decide +kernel)), List.forall_mem_cons.mpr ⟨bpat_some o0_, fun q_ hq => absurd hq List.not_mem_nil⟩⟩
  have HC : ∀ q_ ∈ xct1_C, xhold (xct1_r v300) q_ := fun q_ hq => absurd hq List.not_mem_nil
  rcases yrun (yis_ok xct1_k) hA Hs Ho HC with ⟨q_, hq, h', K_, G_⟩ | ⟨q_, hq, h', K_, G_⟩
  · cases hq
  · have e_ := List.mem_singleton.mp hq
    subst e_
    exact ⟨h', yfr_sm K_.2.2.2 hs K_.1 (ywa_r xct1_w List.mem_cons_self), ⟨fun a_ j_ => yfr_bp K_.2.2.2 (fun q_ hq => absurd hq List.not_mem_nil), G_⟩⟩
-- mct1: 7 steps, 0 ends, 1 returns
def mct1_L : List (Nat × Nat × Nat) := []
def mct1_O : yO := [(338, .int 0, .index 339), (339, .int 1, .arg 300)]
def mct1_A : yA := (yZ mct1_L, [], [], [], [])
def mct1_C : List xB := []
def mct1_ss : List yS := []
def mct1_rs : List yR := [(some (.arg 300), [(338, .int 0, .index 339), (339, .int 1, .arg 300)], [], [])]
theorem mct1_w : ywa mct1_A mct1_ss mct1_rs = true := by decide +kernel
theorem mct1_k : yis (yev mct1_A 3000 60 236 [] (0, [(0, .index 338), (1, .int 1)], [], mct1_O, mct1_C, [])) mct1_ss mct1_rs = true := by decide +kernel
def mct1_r (v300 : Int32) (k_ : Nat) : Value := bif Nat.beq k_ 300 then .int v300 else (.int 0)
def mct1_s (n_ : Nat) : Nat := 0
theorem mct1 {h_ : xH} {v300 : Int32} (hs : sHp h_) (o0_ : bpat h_ 339 1 = some (.int v300)) : ∃ h', ysm h_ h' ∧ (((∀ a_ j_ : Nat, bpat h' a_ j_ = bpat h_ a_ j_) ∧ (∀ D_, 60 ≤ D_ → xrun D_ 236 0 [(0, .index 338), (1, .int (1 : Int32))] [] h_ (some (.int v300), h', [])))) := by
  have hA : yas mct1_A (mct1_r v300) (yg mct1_s) := ⟨fun q_ hq => absurd hq List.not_mem_nil, fun q_ hq => absurd hq List.not_mem_nil, fun q_ hq => absurd hq List.not_mem_nil, fun n_ hn => yg_lo hn, fun q_ hq => absurd hq List.not_mem_nil⟩
  have Hs : ysh mct1_A.1 (yg mct1_s) h_ := ysh_of2 hs (fun q_ hq => absurd hq List.not_mem_nil)
  have Ho : ymem (mct1_r v300) (yg mct1_s) mct1_O h_ := List.forall_mem_cons.mpr ⟨bpat_some (fxr_at hs.2 (show fxk fxl 338 0 = some 339 by decide +kernel)), List.forall_mem_cons.mpr ⟨bpat_some o0_, fun q_ hq => absurd hq List.not_mem_nil⟩⟩
  have HC : ∀ q_ ∈ mct1_C, xhold (mct1_r v300) q_ := fun q_ hq => absurd hq List.not_mem_nil
  rcases yrun (yis_ok mct1_k) hA Hs Ho HC with ⟨q_, hq, h', K_, G_⟩ | ⟨q_, hq, h', K_, G_⟩
  · cases hq
  · have e_ := List.mem_singleton.mp hq
    subst e_
    exact ⟨h', yfr_sm K_.2.2.2 hs K_.1 (ywa_r mct1_w List.mem_cons_self), ⟨fun a_ j_ => yfr_bp K_.2.2.2 (fun q_ hq => absurd hq List.not_mem_nil), G_⟩⟩
-- xct2: 6 steps, 0 ends, 1 returns
def xct2_L : List (Nat × Nat × Nat) := []
def xct2_O : yO := [(0, .int 0, .index 1), (1, .int 11, .arg 300)]
def xct2_A : yA := (yZ xct2_L, [], [], [], [])
def xct2_C : List xB := []
def xct2_ss : List yS := []
def xct2_rs : List yR := [(some (.arg 300), [(0, .int 0, .index 1), (1, .int 11, .arg 300)], [], [])]
theorem xct2_w : ywa xct2_A xct2_ss xct2_rs = true := by decide +kernel
theorem xct2_k : yis (yev xct2_A 3000 60 116 [] (0, [(0, .index 0), (1, .int 2)], [], xct2_O, xct2_C, [])) xct2_ss xct2_rs = true := by decide +kernel
def xct2_r (v300 : Int32) (k_ : Nat) : Value := bif Nat.beq k_ 300 then .int v300 else (.int 0)
def xct2_s (n_ : Nat) : Nat := 0
theorem xct2 {h_ : xH} {v300 : Int32} (hs : sHp h_) (o0_ : bpat h_ 1 11 = some (.int v300)) : ∃ h', ysm h_ h' ∧ (((∀ a_ j_ : Nat, bpat h' a_ j_ = bpat h_ a_ j_) ∧ (∀ D_, 60 ≤ D_ → xrun D_ 116 0 [(0, .index 0), (1, .int (2 : Int32))] [] h_ (some (.int v300), h', [])))) := by
  have hA : yas xct2_A (xct2_r v300) (yg xct2_s) := ⟨fun q_ hq => absurd hq List.not_mem_nil, fun q_ hq => absurd hq List.not_mem_nil, fun q_ hq => absurd hq List.not_mem_nil, fun n_ hn => yg_lo hn, fun q_ hq => absurd hq List.not_mem_nil⟩
  have Hs : ysh xct2_A.1 (yg xct2_s) h_ := ysh_of2 hs (fun q_ hq => absurd hq List.not_mem_nil)
  have Ho : ymem (xct2_r v300) (yg xct2_s) xct2_O h_ := List.forall_mem_cons.mpr ⟨bpat_some (fxr_at hs.2 (show fxk fxl 0 0 = some 1 by decide +kernel)), List.forall_mem_cons.mpr ⟨bpat_some o0_, fun q_ hq => absurd hq List.not_mem_nil⟩⟩
  have HC : ∀ q_ ∈ xct2_C, xhold (xct2_r v300) q_ := fun q_ hq => absurd hq List.not_mem_nil
  rcases yrun (yis_ok xct2_k) hA Hs Ho HC with ⟨q_, hq, h', K_, G_⟩ | ⟨q_, hq, h', K_, G_⟩
  · cases hq
  · have e_ := List.mem_singleton.mp hq
    subst e_
    exact ⟨h', yfr_sm K_.2.2.2 hs K_.1 (ywa_r xct2_w List.mem_cons_self), ⟨fun a_ j_ => yfr_bp K_.2.2.2 (fun q_ hq => absurd hq List.not_mem_nil), G_⟩⟩
-- mct2: 7 steps, 0 ends, 1 returns
def mct2_L : List (Nat × Nat × Nat) := []
def mct2_O : yO := [(338, .int 0, .index 339), (339, .int 2, .arg 300)]
def mct2_A : yA := (yZ mct2_L, [], [], [], [])
def mct2_C : List xB := []
def mct2_ss : List yS := []
def mct2_rs : List yR := [(some (.arg 300), [(338, .int 0, .index 339), (339, .int 2, .arg 300)], [], [])]
theorem mct2_w : ywa mct2_A mct2_ss mct2_rs = true := by decide +kernel
theorem mct2_k : yis (yev mct2_A 3000 60 236 [] (0, [(0, .index 338), (1, .int 2)], [], mct2_O, mct2_C, [])) mct2_ss mct2_rs = true := by decide +kernel
def mct2_r (v300 : Int32) (k_ : Nat) : Value := bif Nat.beq k_ 300 then .int v300 else (.int 0)
def mct2_s (n_ : Nat) : Nat := 0
theorem mct2 {h_ : xH} {v300 : Int32} (hs : sHp h_) (o0_ : bpat h_ 339 2 = some (.int v300)) : ∃ h', ysm h_ h' ∧ (((∀ a_ j_ : Nat, bpat h' a_ j_ = bpat h_ a_ j_) ∧ (∀ D_, 60 ≤ D_ → xrun D_ 236 0 [(0, .index 338), (1, .int (2 : Int32))] [] h_ (some (.int v300), h', [])))) := by
  have hA : yas mct2_A (mct2_r v300) (yg mct2_s) := ⟨fun q_ hq => absurd hq List.not_mem_nil, fun q_ hq => absurd hq List.not_mem_nil, fun q_ hq => absurd hq List.not_mem_nil, fun n_ hn => yg_lo hn, fun q_ hq => absurd hq List.not_mem_nil⟩
  have Hs : ysh mct2_A.1 (yg mct2_s) h_ := ysh_of2 hs (fun q_ hq => absurd hq List.not_mem_nil)
  have Ho : ymem (mct2_r v300) (yg mct2_s) mct2_O h_ := List.forall_mem_cons.mpr ⟨bpat_some (fxr_at hs.2 (show fxk fxl 338 0 = some 339 by decide +kernel)), List.forall_mem_cons.mpr ⟨bpat_some o0_, fun q_ hq => absurd hq List.not_mem_nil⟩⟩
  have HC : ∀ q_ ∈ mct2_C, xhold (mct2_r v300) q_ := fun q_ hq => absurd hq List.not_mem_nil
  rcases yrun (yis_ok mct2_k) hA Hs Ho HC with ⟨q_, hq, h', K_, G_⟩ | ⟨q_, hq, h', K_, G_⟩
  · cases hq
  · have e_ := List.mem_singleton.mp hq
    subst e_
    exact ⟨h', yfr_sm K_.2.2.2 hs K_.1 (ywa_r mct2_w List.mem_cons_self), ⟨fun a_ j_ => yfr_bp K_.2.2.2 (fun q_ hq => absurd hq List.not_mem_nil), G_⟩⟩
-- xct3: 7 steps, 0 ends, 1 returns
def xct3_L : List (Nat × Nat × Nat) := []
def xct3_O : yO := [(0, .int 0, .index 1), (1, .int 7, .index 13), (13, .int 1, .arg 300)]
def xct3_A : yA := (yZ xct3_L, [], [], [], [])
def xct3_C : List xB := []
def xct3_ss : List yS := []
def xct3_rs : List yR := [(some (.arg 300), [(0, .int 0, .index 1), (1, .int 7, .index 13), (13, .int 1, .arg 300)], [], [])]
theorem xct3_w : ywa xct3_A xct3_ss xct3_rs = true := by decide +kernel
theorem xct3_k : yis (yev xct3_A 3000 60 116 [] (0, [(0, .index 0), (1, .int 3)], [], xct3_O, xct3_C, [])) xct3_ss xct3_rs = true := by decide +kernel
def xct3_r (v300 : Int32) (k_ : Nat) : Value := bif Nat.beq k_ 300 then .int v300 else (.int 0)
def xct3_s (n_ : Nat) : Nat := 0
theorem xct3 {h_ : xH} {v300 : Int32} (hs : sHp h_) (o0_ : bpat h_ 13 1 = some (.int v300)) : ∃ h', ysm h_ h' ∧ (((∀ a_ j_ : Nat, bpat h' a_ j_ = bpat h_ a_ j_) ∧ (∀ D_, 60 ≤ D_ → xrun D_ 116 0 [(0, .index 0), (1, .int (3 : Int32))] [] h_ (some (.int v300), h', [])))) := by
  have hA : yas xct3_A (xct3_r v300) (yg xct3_s) := ⟨fun q_ hq => absurd hq List.not_mem_nil, fun q_ hq => absurd hq List.not_mem_nil, fun q_ hq => absurd hq List.not_mem_nil, fun n_ hn => yg_lo hn, fun q_ hq => absurd hq List.not_mem_nil⟩
  have Hs : ysh xct3_A.1 (yg xct3_s) h_ := ysh_of2 hs (fun q_ hq => absurd hq List.not_mem_nil)
  have Ho : ymem (xct3_r v300) (yg xct3_s) xct3_O h_ := List.forall_mem_cons.mpr ⟨bpat_some (fxr_at hs.2 (show fxk fxl 0 0 = some 1 by decide +kernel)), List.forall_mem_cons.mpr ⟨bpat_some (fxr_at hs.2 (show fxk fxl 1 7 = some 13 by decide +kernel)), List.forall_mem_cons.mpr ⟨bpat_some o0_, fun q_ hq => absurd hq List.not_mem_nil⟩⟩⟩
  have HC : ∀ q_ ∈ xct3_C, xhold (xct3_r v300) q_ := fun q_ hq => absurd hq List.not_mem_nil
  rcases yrun (yis_ok xct3_k) hA Hs Ho HC with ⟨q_, hq, h', K_, G_⟩ | ⟨q_, hq, h', K_, G_⟩
  · cases hq
  · have e_ := List.mem_singleton.mp hq
    subst e_
    exact ⟨h', yfr_sm K_.2.2.2 hs K_.1 (ywa_r xct3_w List.mem_cons_self), ⟨fun a_ j_ => yfr_bp K_.2.2.2 (fun q_ hq => absurd hq List.not_mem_nil), G_⟩⟩
-- mct3: 7 steps, 0 ends, 1 returns
def mct3_L : List (Nat × Nat × Nat) := []
def mct3_O : yO := [(338, .int 0, .index 339), (339, .int 3, .arg 300)]
def mct3_A : yA := (yZ mct3_L, [], [], [], [])
def mct3_C : List xB := []
def mct3_ss : List yS := []
def mct3_rs : List yR := [(some (.arg 300), [(338, .int 0, .index 339), (339, .int 3, .arg 300)], [], [])]
theorem mct3_w : ywa mct3_A mct3_ss mct3_rs = true := by decide +kernel
theorem mct3_k : yis (yev mct3_A 3000 60 236 [] (0, [(0, .index 338), (1, .int 3)], [], mct3_O, mct3_C, [])) mct3_ss mct3_rs = true := by decide +kernel
def mct3_r (v300 : Int32) (k_ : Nat) : Value := bif Nat.beq k_ 300 then .int v300 else (.int 0)
def mct3_s (n_ : Nat) : Nat := 0
theorem mct3 {h_ : xH} {v300 : Int32} (hs : sHp h_) (o0_ : bpat h_ 339 3 = some (.int v300)) : ∃ h', ysm h_ h' ∧ (((∀ a_ j_ : Nat, bpat h' a_ j_ = bpat h_ a_ j_) ∧ (∀ D_, 60 ≤ D_ → xrun D_ 236 0 [(0, .index 338), (1, .int (3 : Int32))] [] h_ (some (.int v300), h', [])))) := by
  have hA : yas mct3_A (mct3_r v300) (yg mct3_s) := ⟨fun q_ hq => absurd hq List.not_mem_nil, fun q_ hq => absurd hq List.not_mem_nil, fun q_ hq => absurd hq List.not_mem_nil, fun n_ hn => yg_lo hn, fun q_ hq => absurd hq List.not_mem_nil⟩
  have Hs : ysh mct3_A.1 (yg mct3_s) h_ := ysh_of2 hs (fun q_ hq => absurd hq List.not_mem_nil)
  have Ho : ymem (mct3_r v300) (yg mct3_s) mct3_O h_ := List.forall_mem_cons.mpr ⟨bpat_some (fxr_at hs.2 (show fxk fxl 338 0 = some 339 by decide +kernel)), List.forall_mem_cons.mpr ⟨bpat_some o0_, fun q_ hq => absurd hq List.not_mem_nil⟩⟩
  have HC : ∀ q_ ∈ mct3_C, xhold (mct3_r v300) q_ := fun q_ hq => absurd hq List.not_mem_nil
  rcases yrun (yis_ok mct3_k) hA Hs Ho HC with ⟨q_, hq, h', K_, G_⟩ | ⟨q_, hq, h', K_, G_⟩
  · cases hq
  · have e_ := List.mem_singleton.mp hq
    subst e_
    exact ⟨h', yfr_sm K_.2.2.2 hs K_.1 (ywa_r mct3_w List.mem_cons_self), ⟨fun a_ j_ => yfr_bp K_.2.2.2 (fun q_ hq => absurd hq List.not_mem_nil), G_⟩⟩
-- xct4: 7 steps, 0 ends, 1 returns
def xct4_L : List (Nat × Nat × Nat) := []
def xct4_O : yO := [(0, .int 0, .index 1), (1, .int 8, .index 15), (15, .int 2, .arg 300)]
def xct4_A : yA := (yZ xct4_L, [], [], [], [])
def xct4_C : List xB := []
def xct4_ss : List yS := []
def xct4_rs : List yR := [(some (.arg 300), [(0, .int 0, .index 1), (1, .int 8, .index 15), (15, .int 2, .arg 300)], [], [])]
theorem xct4_w : ywa xct4_A xct4_ss xct4_rs = true := by decide +kernel
theorem xct4_k : yis (yev xct4_A 3000 60 116 [] (0, [(0, .index 0), (1, .int 4)], [], xct4_O, xct4_C, [])) xct4_ss xct4_rs = true := by decide +kernel
def xct4_r (v300 : Int32) (k_ : Nat) : Value := bif Nat.beq k_ 300 then .int v300 else (.int 0)
def xct4_s (n_ : Nat) : Nat := 0
theorem xct4 {h_ : xH} {v300 : Int32} (hs : sHp h_) (o0_ : bpat h_ 15 2 = some (.int v300)) : ∃ h', ysm h_ h' ∧ (((∀ a_ j_ : Nat, bpat h' a_ j_ = bpat h_ a_ j_) ∧ (∀ D_, 60 ≤ D_ → xrun D_ 116 0 [(0, .index 0), (1, .int (4 : Int32))] [] h_ (some (.int v300), h', [])))) := by
  have hA : yas xct4_A (xct4_r v300) (yg xct4_s) := ⟨fun q_ hq => absurd hq List.not_mem_nil, fun q_ hq => absurd hq List.not_mem_nil, fun q_ hq => absurd hq List.not_mem_nil, fun n_ hn => yg_lo hn, fun q_ hq => absurd hq List.not_mem_nil⟩
  have Hs : ysh xct4_A.1 (yg xct4_s) h_ := ysh_of2 hs (fun q_ hq => absurd hq List.not_mem_nil)
  have Ho : ymem (xct4_r v300) (yg xct4_s) xct4_O h_ := List.forall_mem_cons.mpr ⟨bpat_some (fxr_at hs.2 (show fxk fxl 0 0 = some 1 by decide +kernel)), List.forall_mem_cons.mpr ⟨bpat_some (fxr_at hs.2 (show fxk fxl 1 8 = some 15 by decide +kernel)), List.forall_mem_cons.mpr ⟨bpat_some o0_, fun q_ hq => absurd hq List.not_mem_nil⟩⟩⟩
  have HC : ∀ q_ ∈ xct4_C, xhold (xct4_r v300) q_ := fun q_ hq => absurd hq List.not_mem_nil
  rcases yrun (yis_ok xct4_k) hA Hs Ho HC with ⟨q_, hq, h', K_, G_⟩ | ⟨q_, hq, h', K_, G_⟩
  · cases hq
  · have e_ := List.mem_singleton.mp hq
    subst e_
    exact ⟨h', yfr_sm K_.2.2.2 hs K_.1 (ywa_r xct4_w List.mem_cons_self), ⟨fun a_ j_ => yfr_bp K_.2.2.2 (fun q_ hq => absurd hq List.not_mem_nil), G_⟩⟩
-- mct4: 7 steps, 0 ends, 1 returns
def mct4_L : List (Nat × Nat × Nat) := []
def mct4_O : yO := [(338, .int 0, .index 339), (339, .int 4, .arg 300)]
def mct4_A : yA := (yZ mct4_L, [], [], [], [])
def mct4_C : List xB := []
def mct4_ss : List yS := []
def mct4_rs : List yR := [(some (.arg 300), [(338, .int 0, .index 339), (339, .int 4, .arg 300)], [], [])]
theorem mct4_w : ywa mct4_A mct4_ss mct4_rs = true := by decide +kernel
theorem mct4_k : yis (yev mct4_A 3000 60 236 [] (0, [(0, .index 338), (1, .int 4)], [], mct4_O, mct4_C, [])) mct4_ss mct4_rs = true := by decide +kernel
def mct4_r (v300 : Int32) (k_ : Nat) : Value := bif Nat.beq k_ 300 then .int v300 else (.int 0)
def mct4_s (n_ : Nat) : Nat := 0
theorem mct4 {h_ : xH} {v300 : Int32} (hs : sHp h_) (o0_ : bpat h_ 339 4 = some (.int v300)) : ∃ h', ysm h_ h' ∧ (((∀ a_ j_ : Nat, bpat h' a_ j_ = bpat h_ a_ j_) ∧ (∀ D_, 60 ≤ D_ → xrun D_ 236 0 [(0, .index 338), (1, .int (4 : Int32))] [] h_ (some (.int v300), h', [])))) := by
  have hA : yas mct4_A (mct4_r v300) (yg mct4_s) := ⟨fun q_ hq => absurd hq List.not_mem_nil, fun q_ hq => absurd hq List.not_mem_nil, fun q_ hq => absurd hq List.not_mem_nil, fun n_ hn => yg_lo hn, fun q_ hq => absurd hq List.not_mem_nil⟩
  have Hs : ysh mct4_A.1 (yg mct4_s) h_ := ysh_of2 hs (fun q_ hq => absurd hq List.not_mem_nil)
  have Ho : ymem (mct4_r v300) (yg mct4_s) mct4_O h_ := List.forall_mem_cons.mpr ⟨bpat_some (fxr_at hs.2 (show fxk fxl 338 0 = some 339 by decide +kernel)), List.forall_mem_cons.mpr ⟨bpat_some o0_, fun q_ hq => absurd hq List.not_mem_nil⟩⟩
  have HC : ∀ q_ ∈ mct4_C, xhold (mct4_r v300) q_ := fun q_ hq => absurd hq List.not_mem_nil
  rcases yrun (yis_ok mct4_k) hA Hs Ho HC with ⟨q_, hq, h', K_, G_⟩ | ⟨q_, hq, h', K_, G_⟩
  · cases hq
  · have e_ := List.mem_singleton.mp hq
    subst e_
    exact ⟨h', yfr_sm K_.2.2.2 hs K_.1 (ywa_r mct4_w List.mem_cons_self), ⟨fun a_ j_ => yfr_bp K_.2.2.2 (fun q_ hq => absurd hq List.not_mem_nil), G_⟩⟩
-- xct5: 6 steps, 0 ends, 1 returns
def xct5_L : List (Nat × Nat × Nat) := []
def xct5_O : yO := [(0, .int 0, .index 1), (1, .int 12, .arg 300)]
def xct5_A : yA := (yZ xct5_L, [], [], [], [])
def xct5_C : List xB := []
def xct5_ss : List yS := []
def xct5_rs : List yR := [(some (.arg 300), [(0, .int 0, .index 1), (1, .int 12, .arg 300)], [], [])]
theorem xct5_w : ywa xct5_A xct5_ss xct5_rs = true := by decide +kernel
theorem xct5_k : yis (yev xct5_A 3000 60 116 [] (0, [(0, .index 0), (1, .int 5)], [], xct5_O, xct5_C, [])) xct5_ss xct5_rs = true := by decide +kernel
def xct5_r (v300 : Int32) (k_ : Nat) : Value := bif Nat.beq k_ 300 then .int v300 else (.int 0)
def xct5_s (n_ : Nat) : Nat := 0
theorem xct5 {h_ : xH} {v300 : Int32} (hs : sHp h_) (o0_ : bpat h_ 1 12 = some (.int v300)) : ∃ h', ysm h_ h' ∧ (((∀ a_ j_ : Nat, bpat h' a_ j_ = bpat h_ a_ j_) ∧ (∀ D_, 60 ≤ D_ → xrun D_ 116 0 [(0, .index 0), (1, .int (5 : Int32))] [] h_ (some (.int v300), h', [])))) := by
  have hA : yas xct5_A (xct5_r v300) (yg xct5_s) := ⟨fun q_ hq => absurd hq List.not_mem_nil, fun q_ hq => absurd hq List.not_mem_nil, fun q_ hq => absurd hq List.not_mem_nil, fun n_ hn => yg_lo hn, fun q_ hq => absurd hq List.not_mem_nil⟩
  have Hs : ysh xct5_A.1 (yg xct5_s) h_ := ysh_of2 hs (fun q_ hq => absurd hq List.not_mem_nil)
  have Ho : ymem (xct5_r v300) (yg xct5_s) xct5_O h_ := List.forall_mem_cons.mpr ⟨bpat_some (fxr_at hs.2 (show fxk fxl 0 0 = some 1 by decide +kernel)), List.forall_mem_cons.mpr ⟨bpat_some o0_, fun q_ hq => absurd hq List.not_mem_nil⟩⟩
  have HC : ∀ q_ ∈ xct5_C, xhold (xct5_r v300) q_ := fun q_ hq => absurd hq List.not_mem_nil
  rcases yrun (yis_ok xct5_k) hA Hs Ho HC with ⟨q_, hq, h', K_, G_⟩ | ⟨q_, hq, h', K_, G_⟩
  · cases hq
  · have e_ := List.mem_singleton.mp hq
    subst e_
    exact ⟨h', yfr_sm K_.2.2.2 hs K_.1 (ywa_r xct5_w List.mem_cons_self), ⟨fun a_ j_ => yfr_bp K_.2.2.2 (fun q_ hq => absurd hq List.not_mem_nil), G_⟩⟩
-- mct5: 7 steps, 0 ends, 1 returns
def mct5_L : List (Nat × Nat × Nat) := []
def mct5_O : yO := [(338, .int 0, .index 339), (339, .int 5, .arg 300)]
def mct5_A : yA := (yZ mct5_L, [], [], [], [])
def mct5_C : List xB := []
def mct5_ss : List yS := []
def mct5_rs : List yR := [(some (.arg 300), [(338, .int 0, .index 339), (339, .int 5, .arg 300)], [], [])]
theorem mct5_w : ywa mct5_A mct5_ss mct5_rs = true := by decide +kernel
theorem mct5_k : yis (yev mct5_A 3000 60 236 [] (0, [(0, .index 338), (1, .int 5)], [], mct5_O, mct5_C, [])) mct5_ss mct5_rs = true := by decide +kernel
def mct5_r (v300 : Int32) (k_ : Nat) : Value := bif Nat.beq k_ 300 then .int v300 else (.int 0)
def mct5_s (n_ : Nat) : Nat := 0
theorem mct5 {h_ : xH} {v300 : Int32} (hs : sHp h_) (o0_ : bpat h_ 339 5 = some (.int v300)) : ∃ h', ysm h_ h' ∧ (((∀ a_ j_ : Nat, bpat h' a_ j_ = bpat h_ a_ j_) ∧ (∀ D_, 60 ≤ D_ → xrun D_ 236 0 [(0, .index 338), (1, .int (5 : Int32))] [] h_ (some (.int v300), h', [])))) := by
  have hA : yas mct5_A (mct5_r v300) (yg mct5_s) := ⟨fun q_ hq => absurd hq List.not_mem_nil, fun q_ hq => absurd hq List.not_mem_nil, fun q_ hq => absurd hq List.not_mem_nil, fun n_ hn => yg_lo hn, fun q_ hq => absurd hq List.not_mem_nil⟩
  have Hs : ysh mct5_A.1 (yg mct5_s) h_ := ysh_of2 hs (fun q_ hq => absurd hq List.not_mem_nil)
  have Ho : ymem (mct5_r v300) (yg mct5_s) mct5_O h_ := List.forall_mem_cons.mpr ⟨bpat_some (fxr_at hs.2 (show fxk fxl 338 0 = some 339 by decide +kernel)), List.forall_mem_cons.mpr ⟨bpat_some o0_, fun q_ hq => absurd hq List.not_mem_nil⟩⟩
  have HC : ∀ q_ ∈ mct5_C, xhold (mct5_r v300) q_ := fun q_ hq => absurd hq List.not_mem_nil
  rcases yrun (yis_ok mct5_k) hA Hs Ho HC with ⟨q_, hq, h', K_, G_⟩ | ⟨q_, hq, h', K_, G_⟩
  · cases hq
  · have e_ := List.mem_singleton.mp hq
    subst e_
    exact ⟨h', yfr_sm K_.2.2.2 hs K_.1 (ywa_r mct5_w List.mem_cons_self), ⟨fun a_ j_ => yfr_bp K_.2.2.2 (fun q_ hq => absurd hq List.not_mem_nil), G_⟩⟩
-- xct6: 7 steps, 0 ends, 1 returns
def xct6_L : List (Nat × Nat × Nat) := []
def xct6_O : yO := [(0, .int 0, .index 1), (1, .int 3, .index 5), (5, .int 1, .arg 300)]
def xct6_A : yA := (yZ xct6_L, [], [], [], [])
def xct6_C : List xB := []
def xct6_ss : List yS := []
def xct6_rs : List yR := [(some (.arg 300), [(0, .int 0, .index 1), (1, .int 3, .index 5), (5, .int 1, .arg 300)], [], [])]
theorem xct6_w : ywa xct6_A xct6_ss xct6_rs = true := by decide +kernel
theorem xct6_k : yis (yev xct6_A 3000 60 116 [] (0, [(0, .index 0), (1, .int 6)], [], xct6_O, xct6_C, [])) xct6_ss xct6_rs = true := by decide +kernel
def xct6_r (v300 : Int32) (k_ : Nat) : Value := bif Nat.beq k_ 300 then .int v300 else (.int 0)
def xct6_s (n_ : Nat) : Nat := 0
theorem xct6 {h_ : xH} {v300 : Int32} (hs : sHp h_) (o0_ : bpat h_ 5 1 = some (.int v300)) : ∃ h', ysm h_ h' ∧ (((∀ a_ j_ : Nat, bpat h' a_ j_ = bpat h_ a_ j_) ∧ (∀ D_, 60 ≤ D_ → xrun D_ 116 0 [(0, .index 0), (1, .int (6 : Int32))] [] h_ (some (.int v300), h', [])))) := by
  have hA : yas xct6_A (xct6_r v300) (yg xct6_s) := ⟨fun q_ hq => absurd hq List.not_mem_nil, fun q_ hq => absurd hq List.not_mem_nil, fun q_ hq => absurd hq List.not_mem_nil, fun n_ hn => yg_lo hn, fun q_ hq => absurd hq List.not_mem_nil⟩
  have Hs : ysh xct6_A.1 (yg xct6_s) h_ := ysh_of2 hs (fun q_ hq => absurd hq List.not_mem_nil)
  have Ho : ymem (xct6_r v300) (yg xct6_s) xct6_O h_ := List.forall_mem_cons.mpr ⟨bpat_some (fxr_at hs.2 (show fxk fxl 0 0 = some 1 by decide +kernel)), List.forall_mem_cons.mpr ⟨bpat_some (fxr_at hs.2 (show fxk fxl 1 3 = some 5 by decide +kernel)), List.forall_mem_cons.mpr ⟨bpat_some o0_, fun q_ hq => absurd hq List.not_mem_nil⟩⟩⟩
  have HC : ∀ q_ ∈ xct6_C, xhold (xct6_r v300) q_ := fun q_ hq => absurd hq List.not_mem_nil
  rcases yrun (yis_ok xct6_k) hA Hs Ho HC with ⟨q_, hq, h', K_, G_⟩ | ⟨q_, hq, h', K_, G_⟩
  · cases hq
  · have e_ := List.mem_singleton.mp hq
    subst e_
    exact ⟨h', yfr_sm K_.2.2.2 hs K_.1 (ywa_r xct6_w List.mem_cons_self), ⟨fun a_ j_ => yfr_bp K_.2.2.2 (fun q_ hq => absurd hq List.not_mem_nil), G_⟩⟩
-- mct6: 7 steps, 0 ends, 1 returns
def mct6_L : List (Nat × Nat × Nat) := []
def mct6_O : yO := [(338, .int 0, .index 339), (339, .int 6, .arg 300)]
def mct6_A : yA := (yZ mct6_L, [], [], [], [])
def mct6_C : List xB := []
def mct6_ss : List yS := []
def mct6_rs : List yR := [(some (.arg 300), [(338, .int 0, .index 339), (339, .int 6, .arg 300)], [], [])]
theorem mct6_w : ywa mct6_A mct6_ss mct6_rs = true := by decide +kernel
theorem mct6_k : yis (yev mct6_A 3000 60 236 [] (0, [(0, .index 338), (1, .int 6)], [], mct6_O, mct6_C, [])) mct6_ss mct6_rs = true := by decide +kernel
def mct6_r (v300 : Int32) (k_ : Nat) : Value := bif Nat.beq k_ 300 then .int v300 else (.int 0)
def mct6_s (n_ : Nat) : Nat := 0
theorem mct6 {h_ : xH} {v300 : Int32} (hs : sHp h_) (o0_ : bpat h_ 339 6 = some (.int v300)) : ∃ h', ysm h_ h' ∧ (((∀ a_ j_ : Nat, bpat h' a_ j_ = bpat h_ a_ j_) ∧ (∀ D_, 60 ≤ D_ → xrun D_ 236 0 [(0, .index 338), (1, .int (6 : Int32))] [] h_ (some (.int v300), h', [])))) := by
  have hA : yas mct6_A (mct6_r v300) (yg mct6_s) := ⟨fun q_ hq => absurd hq List.not_mem_nil, fun q_ hq => absurd hq List.not_mem_nil, fun q_ hq => absurd hq List.not_mem_nil, fun n_ hn => yg_lo hn, fun q_ hq => absurd hq List.not_mem_nil⟩
  have Hs : ysh mct6_A.1 (yg mct6_s) h_ := ysh_of2 hs (fun q_ hq => absurd hq List.not_mem_nil)
  have Ho : ymem (mct6_r v300) (yg mct6_s) mct6_O h_ := List.forall_mem_cons.mpr ⟨bpat_some (fxr_at hs.2 (show fxk fxl 338 0 = some 339 by decide +kernel)), List.forall_mem_cons.mpr ⟨bpat_some o0_, fun q_ hq => absurd hq List.not_mem_nil⟩⟩
  have HC : ∀ q_ ∈ mct6_C, xhold (mct6_r v300) q_ := fun q_ hq => absurd hq List.not_mem_nil
  rcases yrun (yis_ok mct6_k) hA Hs Ho HC with ⟨q_, hq, h', K_, G_⟩ | ⟨q_, hq, h', K_, G_⟩
  · cases hq
  · have e_ := List.mem_singleton.mp hq
    subst e_
    exact ⟨h', yfr_sm K_.2.2.2 hs K_.1 (ywa_r mct6_w List.mem_cons_self), ⟨fun a_ j_ => yfr_bp K_.2.2.2 (fun q_ hq => absurd hq List.not_mem_nil), G_⟩⟩
-- xct7: 7 steps, 0 ends, 1 returns
def xct7_L : List (Nat × Nat × Nat) := []
def xct7_O : yO := [(0, .int 0, .index 1), (1, .int 4, .index 7), (7, .int 1, .arg 300)]
def xct7_A : yA := (yZ xct7_L, [], [], [], [])
def xct7_C : List xB := []
def xct7_ss : List yS := []
def xct7_rs : List yR := [(some (.arg 300), [(0, .int 0, .index 1), (1, .int 4, .index 7), (7, .int 1, .arg 300)], [], [])]
theorem xct7_w : ywa xct7_A xct7_ss xct7_rs = true := by decide +kernel
theorem xct7_k : yis (yev xct7_A 3000 60 116 [] (0, [(0, .index 0), (1, .int 7)], [], xct7_O, xct7_C, [])) xct7_ss xct7_rs = true := by decide +kernel
def xct7_r (v300 : Int32) (k_ : Nat) : Value := bif Nat.beq k_ 300 then .int v300 else (.int 0)
def xct7_s (n_ : Nat) : Nat := 0
theorem xct7 {h_ : xH} {v300 : Int32} (hs : sHp h_) (o0_ : bpat h_ 7 1 = some (.int v300)) : ∃ h', ysm h_ h' ∧ (((∀ a_ j_ : Nat, bpat h' a_ j_ = bpat h_ a_ j_) ∧ (∀ D_, 60 ≤ D_ → xrun D_ 116 0 [(0, .index 0), (1, .int (7 : Int32))] [] h_ (some (.int v300), h', [])))) := by
  have hA : yas xct7_A (xct7_r v300) (yg xct7_s) := ⟨fun q_ hq => absurd hq List.not_mem_nil, fun q_ hq => absurd hq List.not_mem_nil, fun q_ hq => absurd hq List.not_mem_nil, fun n_ hn => yg_lo hn, fun q_ hq => absurd hq List.not_mem_nil⟩
  have Hs : ysh xct7_A.1 (yg xct7_s) h_ := ysh_of2 hs (fun q_ hq => absurd hq List.not_mem_nil)
  have Ho : ymem (xct7_r v300) (yg xct7_s) xct7_O h_ := List.forall_mem_cons.mpr ⟨bpat_some (fxr_at hs.2 (show fxk fxl 0 0 = some 1 by decide +kernel)), List.forall_mem_cons.mpr ⟨bpat_some (fxr_at hs.2 (show fxk fxl 1 4 = some 7 by decide +kernel)), List.forall_mem_cons.mpr ⟨bpat_some o0_, fun q_ hq => absurd hq List.not_mem_nil⟩⟩⟩
  have HC : ∀ q_ ∈ xct7_C, xhold (xct7_r v300) q_ := fun q_ hq => absurd hq List.not_mem_nil
  rcases yrun (yis_ok xct7_k) hA Hs Ho HC with ⟨q_, hq, h', K_, G_⟩ | ⟨q_, hq, h', K_, G_⟩
  · cases hq
  · have e_ := List.mem_singleton.mp hq
    subst e_
    exact ⟨h', yfr_sm K_.2.2.2 hs K_.1 (ywa_r xct7_w List.mem_cons_self), ⟨fun a_ j_ => yfr_bp K_.2.2.2 (fun q_ hq => absurd hq List.not_mem_nil), G_⟩⟩
-- mct7: 7 steps, 0 ends, 1 returns
def mct7_L : List (Nat × Nat × Nat) := []
def mct7_O : yO := [(338, .int 0, .index 339), (339, .int 7, .arg 300)]
def mct7_A : yA := (yZ mct7_L, [], [], [], [])
def mct7_C : List xB := []
def mct7_ss : List yS := []
def mct7_rs : List yR := [(some (.arg 300), [(338, .int 0, .index 339), (339, .int 7, .arg 300)], [], [])]
theorem mct7_w : ywa mct7_A mct7_ss mct7_rs = true := by decide +kernel
theorem mct7_k : yis (yev mct7_A 3000 60 236 [] (0, [(0, .index 338), (1, .int 7)], [], mct7_O, mct7_C, [])) mct7_ss mct7_rs = true := by decide +kernel
def mct7_r (v300 : Int32) (k_ : Nat) : Value := bif Nat.beq k_ 300 then .int v300 else (.int 0)
def mct7_s (n_ : Nat) : Nat := 0
theorem mct7 {h_ : xH} {v300 : Int32} (hs : sHp h_) (o0_ : bpat h_ 339 7 = some (.int v300)) : ∃ h', ysm h_ h' ∧ (((∀ a_ j_ : Nat, bpat h' a_ j_ = bpat h_ a_ j_) ∧ (∀ D_, 60 ≤ D_ → xrun D_ 236 0 [(0, .index 338), (1, .int (7 : Int32))] [] h_ (some (.int v300), h', [])))) := by
  have hA : yas mct7_A (mct7_r v300) (yg mct7_s) := ⟨fun q_ hq => absurd hq List.not_mem_nil, fun q_ hq => absurd hq List.not_mem_nil, fun q_ hq => absurd hq List.not_mem_nil, fun n_ hn => yg_lo hn, fun q_ hq => absurd hq List.not_mem_nil⟩
  have Hs : ysh mct7_A.1 (yg mct7_s) h_ := ysh_of2 hs (fun q_ hq => absurd hq List.not_mem_nil)
  have Ho : ymem (mct7_r v300) (yg mct7_s) mct7_O h_ := List.forall_mem_cons.mpr ⟨bpat_some (fxr_at hs.2 (show fxk fxl 338 0 = some 339 by decide +kernel)), List.forall_mem_cons.mpr ⟨bpat_some o0_, fun q_ hq => absurd hq List.not_mem_nil⟩⟩
  have HC : ∀ q_ ∈ mct7_C, xhold (mct7_r v300) q_ := fun q_ hq => absurd hq List.not_mem_nil
  rcases yrun (yis_ok mct7_k) hA Hs Ho HC with ⟨q_, hq, h', K_, G_⟩ | ⟨q_, hq, h', K_, G_⟩
  · cases hq
  · have e_ := List.mem_singleton.mp hq
    subst e_
    exact ⟨h', yfr_sm K_.2.2.2 hs K_.1 (ywa_r mct7_w List.mem_cons_self), ⟨fun a_ j_ => yfr_bp K_.2.2.2 (fun q_ hq => absurd hq List.not_mem_nil), G_⟩⟩
-- xct8: 7 steps, 0 ends, 1 returns
def xct8_L : List (Nat × Nat × Nat) := []
def xct8_O : yO := [(0, .int 6, .index 310), (310, .int 0, .index 311), (311, .int 1, .arg 300)]
def xct8_A : yA := (yZ xct8_L, [], [], [], [])
def xct8_C : List xB := []
def xct8_ss : List yS := []
def xct8_rs : List yR := [(some (.arg 300), [(0, .int 6, .index 310), (310, .int 0, .index 311), (311, .int 1, .arg 300)], [], [])]
theorem xct8_w : ywa xct8_A xct8_ss xct8_rs = true := by decide +kernel
theorem xct8_k : yis (yev xct8_A 3000 60 116 [] (0, [(0, .index 0), (1, .int 8)], [], xct8_O, xct8_C, [])) xct8_ss xct8_rs = true := by decide +kernel
def xct8_r (v300 : Int32) (k_ : Nat) : Value := bif Nat.beq k_ 300 then .int v300 else (.int 0)
def xct8_s (n_ : Nat) : Nat := 0
theorem xct8 {h_ : xH} {v300 : Int32} (hs : sHp h_) (o0_ : bpat h_ 311 1 = some (.int v300)) : ∃ h', ysm h_ h' ∧ (((∀ a_ j_ : Nat, bpat h' a_ j_ = bpat h_ a_ j_) ∧ (∀ D_, 60 ≤ D_ → xrun D_ 116 0 [(0, .index 0), (1, .int (8 : Int32))] [] h_ (some (.int v300), h', [])))) := by
  have hA : yas xct8_A (xct8_r v300) (yg xct8_s) := ⟨fun q_ hq => absurd hq List.not_mem_nil, fun q_ hq => absurd hq List.not_mem_nil, fun q_ hq => absurd hq List.not_mem_nil, fun n_ hn => yg_lo hn, fun q_ hq => absurd hq List.not_mem_nil⟩
  have Hs : ysh xct8_A.1 (yg xct8_s) h_ := ysh_of2 hs (fun q_ hq => absurd hq List.not_mem_nil)
  have Ho : ymem (xct8_r v300) (yg xct8_s) xct8_O h_ := List.forall_mem_cons.mpr ⟨bpat_some (fxr_at hs.2 (show fxk fxl 0 6 = some 310 by decide +kernel)), List.forall_mem_cons.mpr ⟨bpat_some (fxr_at hs.2 (show fxk fxl 310 0 = some 311 by decide +kernel)), List.forall_mem_cons.mpr ⟨bpat_some o0_, fun q_ hq => absurd hq List.not_mem_nil⟩⟩⟩
  have HC : ∀ q_ ∈ xct8_C, xhold (xct8_r v300) q_ := fun q_ hq => absurd hq List.not_mem_nil
  rcases yrun (yis_ok xct8_k) hA Hs Ho HC with ⟨q_, hq, h', K_, G_⟩ | ⟨q_, hq, h', K_, G_⟩
  · cases hq
  · have e_ := List.mem_singleton.mp hq
    subst e_
    exact ⟨h', yfr_sm K_.2.2.2 hs K_.1 (ywa_r xct8_w List.mem_cons_self), ⟨fun a_ j_ => yfr_bp K_.2.2.2 (fun q_ hq => absurd hq List.not_mem_nil), G_⟩⟩
-- mct8: 5 steps, 0 ends, 1 returns
def mct8_L : List (Nat × Nat × Nat) := []
def mct8_O : yO := [(338, .int 19, .arg 300)]
def mct8_A : yA := (yZ mct8_L, [], [], [], [])
def mct8_C : List xB := []
def mct8_ss : List yS := []
def mct8_rs : List yR := [(some (.arg 300), [(338, .int 19, .arg 300)], [], [])]
theorem mct8_w : ywa mct8_A mct8_ss mct8_rs = true := by decide +kernel
theorem mct8_k : yis (yev mct8_A 3000 60 236 [] (0, [(0, .index 338), (1, .int 8)], [], mct8_O, mct8_C, [])) mct8_ss mct8_rs = true := by decide +kernel
def mct8_r (v300 : Int32) (k_ : Nat) : Value := bif Nat.beq k_ 300 then .int v300 else (.int 0)
def mct8_s (n_ : Nat) : Nat := 0
theorem mct8 {h_ : xH} {v300 : Int32} (hs : sHp h_) (o0_ : bpat h_ 338 19 = some (.int v300)) : ∃ h', ysm h_ h' ∧ (((∀ a_ j_ : Nat, bpat h' a_ j_ = bpat h_ a_ j_) ∧ (∀ D_, 60 ≤ D_ → xrun D_ 236 0 [(0, .index 338), (1, .int (8 : Int32))] [] h_ (some (.int v300), h', [])))) := by
  have hA : yas mct8_A (mct8_r v300) (yg mct8_s) := ⟨fun q_ hq => absurd hq List.not_mem_nil, fun q_ hq => absurd hq List.not_mem_nil, fun q_ hq => absurd hq List.not_mem_nil, fun n_ hn => yg_lo hn, fun q_ hq => absurd hq List.not_mem_nil⟩
  have Hs : ysh mct8_A.1 (yg mct8_s) h_ := ysh_of2 hs (fun q_ hq => absurd hq List.not_mem_nil)
  have Ho : ymem (mct8_r v300) (yg mct8_s) mct8_O h_ := List.forall_mem_cons.mpr ⟨bpat_some o0_, fun q_ hq => absurd hq List.not_mem_nil⟩
  have HC : ∀ q_ ∈ mct8_C, xhold (mct8_r v300) q_ := fun q_ hq => absurd hq List.not_mem_nil
  rcases yrun (yis_ok mct8_k) hA Hs Ho HC with ⟨q_, hq, h', K_, G_⟩ | ⟨q_, hq, h', K_, G_⟩
  · cases hq
  · have e_ := List.mem_singleton.mp hq
    subst e_
    exact ⟨h', yfr_sm K_.2.2.2 hs K_.1 (ywa_r mct8_w List.mem_cons_self), ⟨fun a_ j_ => yfr_bp K_.2.2.2 (fun q_ hq => absurd hq List.not_mem_nil), G_⟩⟩
-- xct9: 6 steps, 0 ends, 1 returns
def xct9_L : List (Nat × Nat × Nat) := []
def xct9_O : yO := [(0, .int 0, .index 1), (1, .int 13, .arg 300)]
def xct9_A : yA := (yZ xct9_L, [], [], [], [])
def xct9_C : List xB := []
def xct9_ss : List yS := []
def xct9_rs : List yR := [(some (.arg 300), [(0, .int 0, .index 1), (1, .int 13, .arg 300)], [], [])]
theorem xct9_w : ywa xct9_A xct9_ss xct9_rs = true := by decide +kernel
theorem xct9_k : yis (yev xct9_A 3000 60 116 [] (0, [(0, .index 0), (1, .int 9)], [], xct9_O, xct9_C, [])) xct9_ss xct9_rs = true := by decide +kernel
def xct9_r (v300 : Int32) (k_ : Nat) : Value := bif Nat.beq k_ 300 then .int v300 else (.int 0)
def xct9_s (n_ : Nat) : Nat := 0
theorem xct9 {h_ : xH} {v300 : Int32} (hs : sHp h_) (o0_ : bpat h_ 1 13 = some (.int v300)) : ∃ h', ysm h_ h' ∧ (((∀ a_ j_ : Nat, bpat h' a_ j_ = bpat h_ a_ j_) ∧ (∀ D_, 60 ≤ D_ → xrun D_ 116 0 [(0, .index 0), (1, .int (9 : Int32))] [] h_ (some (.int v300), h', [])))) := by
  have hA : yas xct9_A (xct9_r v300) (yg xct9_s) := ⟨fun q_ hq => absurd hq List.not_mem_nil, fun q_ hq => absurd hq List.not_mem_nil, fun q_ hq => absurd hq List.not_mem_nil, fun n_ hn => yg_lo hn, fun q_ hq => absurd hq List.not_mem_nil⟩
  have Hs : ysh xct9_A.1 (yg xct9_s) h_ := ysh_of2 hs (fun q_ hq => absurd hq List.not_mem_nil)
  have Ho : ymem (xct9_r v300) (yg xct9_s) xct9_O h_ := List.forall_mem_cons.mpr ⟨bpat_some (fxr_at hs.2 (show fxk fxl 0 0 = some 1 by decide +kernel)), List.forall_mem_cons.mpr ⟨bpat_some o0_, fun q_ hq => absurd hq List.not_mem_nil⟩⟩
  have HC : ∀ q_ ∈ xct9_C, xhold (xct9_r v300) q_ := fun q_ hq => absurd hq List.not_mem_nil
  rcases yrun (yis_ok xct9_k) hA Hs Ho HC with ⟨q_, hq, h', K_, G_⟩ | ⟨q_, hq, h', K_, G_⟩
  · cases hq
  · have e_ := List.mem_singleton.mp hq
    subst e_
    exact ⟨h', yfr_sm K_.2.2.2 hs K_.1 (ywa_r xct9_w List.mem_cons_self), ⟨fun a_ j_ => yfr_bp K_.2.2.2 (fun q_ hq => absurd hq List.not_mem_nil), G_⟩⟩
-- mct9: 7 steps, 0 ends, 1 returns
def mct9_L : List (Nat × Nat × Nat) := []
def mct9_O : yO := [(338, .int 0, .index 339), (339, .int 8, .arg 300)]
def mct9_A : yA := (yZ mct9_L, [], [], [], [])
def mct9_C : List xB := []
def mct9_ss : List yS := []
def mct9_rs : List yR := [(some (.arg 300), [(338, .int 0, .index 339), (339, .int 8, .arg 300)], [], [])]
theorem mct9_w : ywa mct9_A mct9_ss mct9_rs = true := by decide +kernel
theorem mct9_k : yis (yev mct9_A 3000 60 236 [] (0, [(0, .index 338), (1, .int 9)], [], mct9_O, mct9_C, [])) mct9_ss mct9_rs = true := by decide +kernel
def mct9_r (v300 : Int32) (k_ : Nat) : Value := bif Nat.beq k_ 300 then .int v300 else (.int 0)
def mct9_s (n_ : Nat) : Nat := 0
theorem mct9 {h_ : xH} {v300 : Int32} (hs : sHp h_) (o0_ : bpat h_ 339 8 = some (.int v300)) : ∃ h', ysm h_ h' ∧ (((∀ a_ j_ : Nat, bpat h' a_ j_ = bpat h_ a_ j_) ∧ (∀ D_, 60 ≤ D_ → xrun D_ 236 0 [(0, .index 338), (1, .int (9 : Int32))] [] h_ (some (.int v300), h', [])))) := by
  have hA : yas mct9_A (mct9_r v300) (yg mct9_s) := ⟨fun q_ hq => absurd hq List.not_mem_nil, fun q_ hq => absurd hq List.not_mem_nil, fun q_ hq => absurd hq List.not_mem_nil, fun n_ hn => yg_lo hn, fun q_ hq => absurd hq List.not_mem_nil⟩
  have Hs : ysh mct9_A.1 (yg mct9_s) h_ := ysh_of2 hs (fun q_ hq => absurd hq List.not_mem_nil)
  have Ho : ymem (mct9_r v300) (yg mct9_s) mct9_O h_ := List.forall_mem_cons.mpr ⟨bpat_some (fxr_at hs.2 (show fxk fxl 338 0 = some 339 by decide +kernel)), List.forall_mem_cons.mpr ⟨bpat_some o0_, fun q_ hq => absurd hq List.not_mem_nil⟩⟩
  have HC : ∀ q_ ∈ mct9_C, xhold (mct9_r v300) q_ := fun q_ hq => absurd hq List.not_mem_nil
  rcases yrun (yis_ok mct9_k) hA Hs Ho HC with ⟨q_, hq, h', K_, G_⟩ | ⟨q_, hq, h', K_, G_⟩
  · cases hq
  · have e_ := List.mem_singleton.mp hq
    subst e_
    exact ⟨h', yfr_sm K_.2.2.2 hs K_.1 (ywa_r mct9_w List.mem_cons_self), ⟨fun a_ j_ => yfr_bp K_.2.2.2 (fun q_ hq => absurd hq List.not_mem_nil), G_⟩⟩
-- xctI: 1 steps, 1 ends, 0 returns
def xctI_L : List (Nat × Nat × Nat) := []
def xctI_O : yO := []
def xctI_A : yA := (yZ xctI_L, [], [], [], [])
def xctI_C : List xB := []
def xctI_ss : List yS := [(1, [(0, .index 0), (1, .arg 1)], [.arg 1], [], [], [])]
def xctI_rs : List yR := []
theorem xctI_w : ywa xctI_A xctI_ss xctI_rs = true := by decide +kernel
theorem xctI_k : yis (yev xctI_A 3000 60 116 [1] (0, [(0, .index 0), (1, .arg 1)], [], xctI_O, xctI_C, [])) xctI_ss xctI_rs = true := by decide +kernel
def xctI_r (v1_ : Int32) (k_ : Nat) : Value := bif Nat.beq k_ 1 then .int v1_ else (.int 0)
def xctI_s (n_ : Nat) : Nat := 0
theorem xctI {h_ : xH} {v1_ : Int32} (hs : sHp h_) : ∃ h', ysm h_ h' ∧ (((∀ a_ j_ : Nat, bpat h' a_ j_ = bpat h_ a_ j_) ∧ (bldD 60 116 0 [(0, .index 0), (1, .int v1_)] [] h_ 1 [(0, .index 0), (1, .int v1_)] [.int v1_] h'))) := by
  have hA : yas xctI_A (xctI_r v1_) (yg xctI_s) := ⟨fun q_ hq => absurd hq List.not_mem_nil, fun q_ hq => absurd hq List.not_mem_nil, fun q_ hq => absurd hq List.not_mem_nil, fun n_ hn => yg_lo hn, fun q_ hq => absurd hq List.not_mem_nil⟩
  have Hs : ysh xctI_A.1 (yg xctI_s) h_ := ysh_of2 hs (fun q_ hq => absurd hq List.not_mem_nil)
  have Ho : ymem (xctI_r v1_) (yg xctI_s) xctI_O h_ := fun q_ hq => absurd hq List.not_mem_nil
  have HC : ∀ q_ ∈ xctI_C, xhold (xctI_r v1_) q_ := fun q_ hq => absurd hq List.not_mem_nil
  rcases yrun (yis_ok xctI_k) hA Hs Ho HC with ⟨q_, hq, h', K_, G_⟩ | ⟨q_, hq, h', K_, G_⟩
  · have e_ := List.mem_singleton.mp hq
    subst e_
    exact ⟨h', yfr_sm K_.2.2.2 hs K_.1 (ywa_s xctI_w List.mem_cons_self), ⟨fun a_ j_ => yfr_bp K_.2.2.2 (fun q_ hq => absurd hq List.not_mem_nil), G_⟩⟩
  · cases hq
-- mctI: 1 steps, 1 ends, 0 returns
def mctI_L : List (Nat × Nat × Nat) := []
def mctI_O : yO := []
def mctI_A : yA := (yZ mctI_L, [], [], [], [])
def mctI_C : List xB := []
def mctI_ss : List yS := [(1, [(0, .index 338), (1, .arg 1)], [.arg 1], [], [], [])]
def mctI_rs : List yR := []
theorem mctI_w : ywa mctI_A mctI_ss mctI_rs = true := by decide +kernel
theorem mctI_k : yis (yev mctI_A 3000 60 236 [1] (0, [(0, .index 338), (1, .arg 1)], [], mctI_O, mctI_C, [])) mctI_ss mctI_rs = true := by decide +kernel
def mctI_r (v1_ : Int32) (k_ : Nat) : Value := bif Nat.beq k_ 1 then .int v1_ else (.int 0)
def mctI_s (n_ : Nat) : Nat := 0
theorem mctI {h_ : xH} {v1_ : Int32} (hs : sHp h_) : ∃ h', ysm h_ h' ∧ (((∀ a_ j_ : Nat, bpat h' a_ j_ = bpat h_ a_ j_) ∧ (bldD 60 236 0 [(0, .index 338), (1, .int v1_)] [] h_ 1 [(0, .index 338), (1, .int v1_)] [.int v1_] h'))) := by
  have hA : yas mctI_A (mctI_r v1_) (yg mctI_s) := ⟨fun q_ hq => absurd hq List.not_mem_nil, fun q_ hq => absurd hq List.not_mem_nil, fun q_ hq => absurd hq List.not_mem_nil, fun n_ hn => yg_lo hn, fun q_ hq => absurd hq List.not_mem_nil⟩
  have Hs : ysh mctI_A.1 (yg mctI_s) h_ := ysh_of2 hs (fun q_ hq => absurd hq List.not_mem_nil)
  have Ho : ymem (mctI_r v1_) (yg mctI_s) mctI_O h_ := fun q_ hq => absurd hq List.not_mem_nil
  have HC : ∀ q_ ∈ mctI_C, xhold (mctI_r v1_) q_ := fun q_ hq => absurd hq List.not_mem_nil
  rcases yrun (yis_ok mctI_k) hA Hs Ho HC with ⟨q_, hq, h', K_, G_⟩ | ⟨q_, hq, h', K_, G_⟩
  · have e_ := List.mem_singleton.mp hq
    subst e_
    exact ⟨h', yfr_sm K_.2.2.2 hs K_.1 (ywa_s mctI_w List.mem_cons_self), ⟨fun a_ j_ => yfr_bp K_.2.2.2 (fun q_ hq => absurd hq List.not_mem_nil), G_⟩⟩
  · cases hq
-- xctD: 16 steps, 0 ends, 1 returns
def xctD_L : List (Nat × Nat × Nat) := []
def xctD_O : yO := [(0, .int 13, .index 323), (323, .int 1, .arg 400)]
def xctD_A : yA := (yZ xctD_L, [], [], [], [])
def xctD_C : List xB := []
def xctD_ss : List yS := []
def xctD_rs : List yR := [(some (.int (Int32.ofInt (-1000001))), [(323, .int 1, .add (.arg 400) (.int 1)), (0, .int 13, .index 323)], [], [(323, .int 1)])]
theorem xctD_w : ywa xctD_A xctD_ss xctD_rs = true := by decide +kernel
theorem xctD_k : yis (yev xctD_A 3000 60 116 [] (151, [(0, .index 0), (1, .arg 1)], [], xctD_O, xctD_C, [])) xctD_ss xctD_rs = true := by decide +kernel
def xctD_r (v1_ v400 : Int32) (k_ : Nat) : Value := bif Nat.beq k_ 1 then .int v1_ else (bif Nat.beq k_ 400 then .int v400 else (.int 0))
def xctD_s (n_ : Nat) : Nat := 0
theorem xctD {h_ : xH} {v1_ v400 : Int32} (hs : sHp h_) (o0_ : bpat h_ 323 1 = some (.int v400)) : ∃ h', ysm h_ h' ∧ (((bpat h' 323 1 = some (.int (v400 + (1 : Int32)))) ∧ (∀ a_ j_ : Nat, ¬ (a_ = 323 ∧ j_ = 1) → bpat h' a_ j_ = bpat h_ a_ j_) ∧ (∀ D_, 60 ≤ D_ → xrun D_ 116 151 [(0, .index 0), (1, .int v1_)] [] h_ (some (.int (Int32.ofInt (-1000001))), h', [])))) := by
  have hA : yas xctD_A (xctD_r v1_ v400) (yg xctD_s) := ⟨fun q_ hq => absurd hq List.not_mem_nil, fun q_ hq => absurd hq List.not_mem_nil, fun q_ hq => absurd hq List.not_mem_nil, fun n_ hn => yg_lo hn, fun q_ hq => absurd hq List.not_mem_nil⟩
  have Hs : ysh xctD_A.1 (yg xctD_s) h_ := ysh_of2 hs (fun q_ hq => absurd hq List.not_mem_nil)
  have Ho : ymem (xctD_r v1_ v400) (yg xctD_s) xctD_O h_ := List.forall_mem_cons.mpr ⟨bpat_some (fxr_at hs.2 (show fxk fxl 0 13 = some 323 by decide +kernel)), List.forall_mem_cons.mpr ⟨bpat_some o0_, fun q_ hq => absurd hq List.not_mem_nil⟩⟩
  have HC : ∀ q_ ∈ xctD_C, xhold (xctD_r v1_ v400) q_ := fun q_ hq => absurd hq List.not_mem_nil
  rcases yrun (yis_ok xctD_k) hA Hs Ho HC with ⟨q_, hq, h', K_, G_⟩ | ⟨q_, hq, h', K_, G_⟩
  · cases hq
  · have e_ := List.mem_singleton.mp hq
    subst e_
    exact ⟨h', yfr_sm K_.2.2.2 hs K_.1 (ywa_r xctD_w List.mem_cons_self), ⟨bpat_of (K_.2.1 _ List.mem_cons_self), fun a_ j_ n0_ => yfr_bp K_.2.2.2 (List.forall_mem_cons.mpr ⟨fun e_ => n0_ ⟨e_.1.symm, e_.2.symm⟩, fun q_ hq => absurd hq List.not_mem_nil⟩), G_⟩⟩
-- mctD: 16 steps, 0 ends, 1 returns
def mctD_L : List (Nat × Nat × Nat) := []
def mctD_O : yO := [(338, .int 3, .index 341), (341, .int 1, .arg 400)]
def mctD_A : yA := (yZ mctD_L, [], [], [], [])
def mctD_C : List xB := []
def mctD_ss : List yS := []
def mctD_rs : List yR := [(some (.int (Int32.ofInt (-1000001))), [(341, .int 1, .add (.arg 400) (.int 1)), (338, .int 3, .index 341)], [], [(341, .int 1)])]
theorem mctD_w : ywa mctD_A mctD_ss mctD_rs = true := by decide +kernel
theorem mctD_k : yis (yev mctD_A 3000 60 236 [] (127, [(0, .index 338), (1, .arg 1)], [], mctD_O, mctD_C, [])) mctD_ss mctD_rs = true := by decide +kernel
def mctD_r (v1_ v400 : Int32) (k_ : Nat) : Value := bif Nat.beq k_ 1 then .int v1_ else (bif Nat.beq k_ 400 then .int v400 else (.int 0))
def mctD_s (n_ : Nat) : Nat := 0
theorem mctD {h_ : xH} {v1_ v400 : Int32} (hs : sHp h_) (o0_ : bpat h_ 341 1 = some (.int v400)) : ∃ h', ysm h_ h' ∧ (((bpat h' 341 1 = some (.int (v400 + (1 : Int32)))) ∧ (∀ a_ j_ : Nat, ¬ (a_ = 341 ∧ j_ = 1) → bpat h' a_ j_ = bpat h_ a_ j_) ∧ (∀ D_, 60 ≤ D_ → xrun D_ 236 127 [(0, .index 338), (1, .int v1_)] [] h_ (some (.int (Int32.ofInt (-1000001))), h', [])))) := by
  have hA : yas mctD_A (mctD_r v1_ v400) (yg mctD_s) := ⟨fun q_ hq => absurd hq List.not_mem_nil, fun q_ hq => absurd hq List.not_mem_nil, fun q_ hq => absurd hq List.not_mem_nil, fun n_ hn => yg_lo hn, fun q_ hq => absurd hq List.not_mem_nil⟩
  have Hs : ysh mctD_A.1 (yg mctD_s) h_ := ysh_of2 hs (fun q_ hq => absurd hq List.not_mem_nil)
  have Ho : ymem (mctD_r v1_ v400) (yg mctD_s) mctD_O h_ := List.forall_mem_cons.mpr ⟨bpat_some (fxr_at hs.2 (show fxk fxl 338 3 = some 341 by decide +kernel)), List.forall_mem_cons.mpr ⟨bpat_some o0_, fun q_ hq => absurd hq List.not_mem_nil⟩⟩
  have HC : ∀ q_ ∈ mctD_C, xhold (mctD_r v1_ v400) q_ := fun q_ hq => absurd hq List.not_mem_nil
  rcases yrun (yis_ok mctD_k) hA Hs Ho HC with ⟨q_, hq, h', K_, G_⟩ | ⟨q_, hq, h', K_, G_⟩
  · cases hq
  · have e_ := List.mem_singleton.mp hq
    subst e_
    exact ⟨h', yfr_sm K_.2.2.2 hs K_.1 (ywa_r mctD_w List.mem_cons_self), ⟨bpat_of (K_.2.1 _ List.mem_cons_self), fun a_ j_ n0_ => yfr_bp K_.2.2.2 (List.forall_mem_cons.mpr ⟨fun e_ => n0_ ⟨e_.1.symm, e_.2.symm⟩, fun q_ hq => absurd hq List.not_mem_nil⟩), G_⟩⟩
/-- what count answers -/
def cntL (W_ : Nat → List Int32) (V : Nat → Int32) (S_ : List eCo × (Int32 × Nat)) (t_ : Int32) : List Int32 := [V 0, V 1, S_.2.1, Int32.ofNat S_.1.length, Int32.ofNat S_.2.2, V 3, Int32.ofNat (W_ 20).length, Int32.ofNat (W_ 21).length, t_, V 4]
def cntF (W_ : Nat → List Int32) (V : Nat → Int32) (S_ : List eCo × (Int32 × Nat)) (t_ z_ : Int32) : Int32 := if 0 ≤ z_.toInt ∧ z_.toInt ≤ 9 then (cntL W_ V S_ t_).getD z_.toInt.toNat 0 else Int32.ofInt (-1000001)
theorem x_cnt {W_ : Nat → List Int32} {V : Nat → Int32} {S_ : List eCo × (Int32 × Nat)} {h_ : xH} {t_ z_ : Int32} (B_ : bInv bZ bIj h_) (H_ : SX W_ V h_) (X_ : EXc S_.1 S_.2.1 S_.2.2 h_) (ot : bpat h_ 311 1 = some (.int t_)) : ∃ h', ysm h_ h' ∧ ∀ D_, 60 ≤ D_ → xrun D_ 116 0 [(0, .index 0), (1, .int z_)] [] h_ (some (.int (cntF W_ V S_ t_ z_)), h', []) := by
  obtain ⟨y_, oy⟩ := xerr (k_ := 1) B_ (by omega)
  have o3_ := X_.2.1.2.2.2.1.2
  rw [List.length_map] at o3_
  have o6 : bpat h_ 5 1 = some (.int (Int32.ofNat (W_ 20).length)) := (H_.2.1.2 _ (show (5, 6, 60, 20) ∈ wrX by decide)).2.1.2
  have o7 : bpat h_ 7 1 = some (.int (Int32.ofNat (W_ 21).length)) := (H_.2.1.2 _ (show (7, 8, 24, 21) ∈ wrX by decide)).2.1.2
  by_cases g_ : 0 ≤ z_.toInt ∧ z_.toInt ≤ 9
  · have k_ : z_.toInt = 0 ∨ (z_.toInt = 1 ∨ (z_.toInt = 2 ∨ (z_.toInt = 3 ∨ (z_.toInt = 4 ∨ (z_.toInt = 5 ∨ (z_.toInt = 6 ∨ (z_.toInt = 7 ∨ (z_.toInt = 8 ∨ (z_.toInt = 9))))))))) := by omega
    rcases k_ with e_ | e_ | e_ | e_ | e_ | e_ | e_ | e_ | e_ | e_
    · have ez : z_ = (0 : Int32) := Int32.toInt_inj.mp (e_.trans rfl)
      subst ez
      obtain ⟨h1, m_, f_, r_⟩ := xct0 H_.1 (SX_v H_ (show ((1, 9), 0) ∈ wvX by decide))
      exact ⟨h1, m_, fun D_ hD => by rw [show cntF W_ V S_ t_ 0 = _ from if_pos ⟨by decide, by decide⟩]; exact r_ D_ hD⟩
    · have ez : z_ = (1 : Int32) := Int32.toInt_inj.mp (e_.trans rfl)
      subst ez
      obtain ⟨h1, m_, f_, r_⟩ := xct1 H_.1 (SX_v H_ (show ((1, 10), 1) ∈ wvX by decide))
      exact ⟨h1, m_, fun D_ hD => by rw [show cntF W_ V S_ t_ 1 = _ from if_pos ⟨by decide, by decide⟩]; exact r_ D_ hD⟩
    · have ez : z_ = (2 : Int32) := Int32.toInt_inj.mp (e_.trans rfl)
      subst ez
      obtain ⟨h1, m_, f_, r_⟩ := xct2 H_.1 X_.1.1
      exact ⟨h1, m_, fun D_ hD => by rw [show cntF W_ V S_ t_ 2 = _ from if_pos ⟨by decide, by decide⟩]; exact r_ D_ hD⟩
    · have ez : z_ = (3 : Int32) := Int32.toInt_inj.mp (e_.trans rfl)
      subst ez
      obtain ⟨h1, m_, f_, r_⟩ := xct3 H_.1 o3_
      exact ⟨h1, m_, fun D_ hD => by rw [show cntF W_ V S_ t_ 3 = _ from if_pos ⟨by decide, by decide⟩]; exact r_ D_ hD⟩
    · have ez : z_ = (4 : Int32) := Int32.toInt_inj.mp (e_.trans rfl)
      subst ez
      obtain ⟨h1, m_, f_, r_⟩ := xct4 H_.1 X_.2.2.1
      exact ⟨h1, m_, fun D_ hD => by rw [show cntF W_ V S_ t_ 4 = _ from if_pos ⟨by decide, by decide⟩]; exact r_ D_ hD⟩
    · have ez : z_ = (5 : Int32) := Int32.toInt_inj.mp (e_.trans rfl)
      subst ez
      obtain ⟨h1, m_, f_, r_⟩ := xct5 H_.1 (SX_v H_ (show ((1, 12), 3) ∈ wvX by decide))
      exact ⟨h1, m_, fun D_ hD => by rw [show cntF W_ V S_ t_ 5 = _ from if_pos ⟨by decide, by decide⟩]; exact r_ D_ hD⟩
    · have ez : z_ = (6 : Int32) := Int32.toInt_inj.mp (e_.trans rfl)
      subst ez
      obtain ⟨h1, m_, f_, r_⟩ := xct6 H_.1 o6
      exact ⟨h1, m_, fun D_ hD => by rw [show cntF W_ V S_ t_ 6 = _ from if_pos ⟨by decide, by decide⟩]; exact r_ D_ hD⟩
    · have ez : z_ = (7 : Int32) := Int32.toInt_inj.mp (e_.trans rfl)
      subst ez
      obtain ⟨h1, m_, f_, r_⟩ := xct7 H_.1 o7
      exact ⟨h1, m_, fun D_ hD => by rw [show cntF W_ V S_ t_ 7 = _ from if_pos ⟨by decide, by decide⟩]; exact r_ D_ hD⟩
    · have ez : z_ = (8 : Int32) := Int32.toInt_inj.mp (e_.trans rfl)
      subst ez
      obtain ⟨h1, m_, f_, r_⟩ := xct8 H_.1 ot
      exact ⟨h1, m_, fun D_ hD => by rw [show cntF W_ V S_ t_ 8 = _ from if_pos ⟨by decide, by decide⟩]; exact r_ D_ hD⟩
    · have ez : z_ = (9 : Int32) := Int32.toInt_inj.mp (e_.trans rfl)
      subst ez
      obtain ⟨h1, m_, f_, r_⟩ := xct9 H_.1 (SX_v H_ (show ((1, 13), 4) ∈ wvX by decide))
      exact ⟨h1, m_, fun D_ hD => by rw [show cntF W_ V S_ t_ 9 = _ from if_pos ⟨by decide, by decide⟩]; exact r_ D_ hD⟩
  · rw [show cntF W_ V S_ t_ z_ = _ from if_neg g_]
    obtain ⟨h0, m0_, f0_, l0⟩ := xctI (v1_ := z_) H_.1
    have l1 : bldD 0 116 1 [(0, .index 0), (1, .int z_)] [.int z_] h0 151 [(0, .index 0), (1, .int z_)] [] h0 := yts (df := 150) (low_ := 0) (high_ := 9) (offs := #[55, 63, 71, 79, 90, 101, 109, 120, 131, 142]) (ln := 55) (ax := []) rfl (by omega) rfl
    obtain ⟨h1, m1_, w1_, f1_, r_⟩ := xctD (v1_ := z_) m0_.1 ((f0_ _ _).trans oy)
    exact ⟨h1, ysm_tr m0_ m1_, fun D_ hD => l0 D_ (by omega) _ (l1 D_ (by omega) _ (r_ D_ (by omega)))⟩
theorem m_cnt {W_ : Nat → List Int32} {V : Nat → Int32} {S_ : List eCo × (Int32 × Nat)} {h_ : xH} {t_ z_ : Int32} (B_ : bInv bZ bIj h_) (H_ : SM W_ V h_) (X_ : EMb 339 (tmEc S_.1) S_.2.1 S_.2.2 h_) (ot : bpat h_ 338 19 = some (.int t_)) : ∃ h', ysm h_ h' ∧ ∀ D_, 60 ≤ D_ → xrun D_ 236 0 [(0, .index 338), (1, .int z_)] [] h_ (some (.int (cntF W_ V S_ t_ z_)), h', []) := by
  obtain ⟨y_, oy⟩ := merr (k_ := 1) B_ (by omega)
  have o3_ := X_.1.2
  unfold tmEc at o3_
  rw [List.length_map] at o3_
  have o6 : bpat h_ 339 6 = some (.int (Int32.ofNat (W_ 20).length)) := (H_.2.1.1.2.1 _ (show (6, 684, 1, 60, 20) ∈ wrM by decide)).1
  have o7 : bpat h_ 339 7 = some (.int (Int32.ofNat (W_ 21).length)) := (H_.2.1.1.2.1 _ (show (7, 744, 1, 24, 21) ∈ wrM by decide)).1
  by_cases g_ : 0 ≤ z_.toInt ∧ z_.toInt ≤ 9
  · have k_ : z_.toInt = 0 ∨ (z_.toInt = 1 ∨ (z_.toInt = 2 ∨ (z_.toInt = 3 ∨ (z_.toInt = 4 ∨ (z_.toInt = 5 ∨ (z_.toInt = 6 ∨ (z_.toInt = 7 ∨ (z_.toInt = 8 ∨ (z_.toInt = 9))))))))) := by omega
    rcases k_ with e_ | e_ | e_ | e_ | e_ | e_ | e_ | e_ | e_ | e_
    · have ez : z_ = (0 : Int32) := Int32.toInt_inj.mp (e_.trans rfl)
      subst ez
      obtain ⟨h1, m_, f_, r_⟩ := mct0 H_.1 (mNc H_)
      exact ⟨h1, m_, fun D_ hD => by rw [show cntF W_ V S_ t_ 0 = _ from if_pos ⟨by decide, by decide⟩]; exact r_ D_ hD⟩
    · have ez : z_ = (1 : Int32) := Int32.toInt_inj.mp (e_.trans rfl)
      subst ez
      obtain ⟨h1, m_, f_, r_⟩ := mct1 H_.1 (SM_v H_ (show (1, 1) ∈ wvM by decide))
      exact ⟨h1, m_, fun D_ hD => by rw [show cntF W_ V S_ t_ 1 = _ from if_pos ⟨by decide, by decide⟩]; exact r_ D_ hD⟩
    · have ez : z_ = (2 : Int32) := Int32.toInt_inj.mp (e_.trans rfl)
      subst ez
      obtain ⟨h1, m_, f_, r_⟩ := mct2 H_.1 X_.1.1
      exact ⟨h1, m_, fun D_ hD => by rw [show cntF W_ V S_ t_ 2 = _ from if_pos ⟨by decide, by decide⟩]; exact r_ D_ hD⟩
    · have ez : z_ = (3 : Int32) := Int32.toInt_inj.mp (e_.trans rfl)
      subst ez
      obtain ⟨h1, m_, f_, r_⟩ := mct3 H_.1 o3_
      exact ⟨h1, m_, fun D_ hD => by rw [show cntF W_ V S_ t_ 3 = _ from if_pos ⟨by decide, by decide⟩]; exact r_ D_ hD⟩
    · have ez : z_ = (4 : Int32) := Int32.toInt_inj.mp (e_.trans rfl)
      subst ez
      obtain ⟨h1, m_, f_, r_⟩ := mct4 H_.1 X_.2.1
      exact ⟨h1, m_, fun D_ hD => by rw [show cntF W_ V S_ t_ 4 = _ from if_pos ⟨by decide, by decide⟩]; exact r_ D_ hD⟩
    · have ez : z_ = (5 : Int32) := Int32.toInt_inj.mp (e_.trans rfl)
      subst ez
      obtain ⟨h1, m_, f_, r_⟩ := mct5 H_.1 (SM_v H_ (show (5, 3) ∈ wvM by decide))
      exact ⟨h1, m_, fun D_ hD => by rw [show cntF W_ V S_ t_ 5 = _ from if_pos ⟨by decide, by decide⟩]; exact r_ D_ hD⟩
    · have ez : z_ = (6 : Int32) := Int32.toInt_inj.mp (e_.trans rfl)
      subst ez
      obtain ⟨h1, m_, f_, r_⟩ := mct6 H_.1 o6
      exact ⟨h1, m_, fun D_ hD => by rw [show cntF W_ V S_ t_ 6 = _ from if_pos ⟨by decide, by decide⟩]; exact r_ D_ hD⟩
    · have ez : z_ = (7 : Int32) := Int32.toInt_inj.mp (e_.trans rfl)
      subst ez
      obtain ⟨h1, m_, f_, r_⟩ := mct7 H_.1 o7
      exact ⟨h1, m_, fun D_ hD => by rw [show cntF W_ V S_ t_ 7 = _ from if_pos ⟨by decide, by decide⟩]; exact r_ D_ hD⟩
    · have ez : z_ = (8 : Int32) := Int32.toInt_inj.mp (e_.trans rfl)
      subst ez
      obtain ⟨h1, m_, f_, r_⟩ := mct8 H_.1 ot
      exact ⟨h1, m_, fun D_ hD => by rw [show cntF W_ V S_ t_ 8 = _ from if_pos ⟨by decide, by decide⟩]; exact r_ D_ hD⟩
    · have ez : z_ = (9 : Int32) := Int32.toInt_inj.mp (e_.trans rfl)
      subst ez
      obtain ⟨h1, m_, f_, r_⟩ := mct9 H_.1 H_.2.1.2
      exact ⟨h1, m_, fun D_ hD => by rw [show cntF W_ V S_ t_ 9 = _ from if_pos ⟨by decide, by decide⟩]; exact r_ D_ hD⟩
  · rw [show cntF W_ V S_ t_ z_ = _ from if_neg g_]
    obtain ⟨h0, m0_, f0_, l0⟩ := mctI (v1_ := z_) H_.1
    have l1 : bldD 0 236 1 [(0, .index 338), (1, .int z_)] [.int z_] h0 127 [(0, .index 338), (1, .int z_)] [] h0 := yts (df := 126) (low_ := 0) (high_ := 9) (offs := #[55, 62, 69, 76, 83, 90, 97, 105, 113, 118]) (ln := 55) (ax := []) rfl (by omega) rfl
    obtain ⟨h1, m1_, w1_, f1_, r_⟩ := mctD (v1_ := z_) m0_.1 ((f0_ _ _).trans oy)
    exact ⟨h1, ysm_tr m0_ m1_, fun D_ hD => l0 D_ (by omega) _ (l1 D_ (by omega) _ (r_ D_ (by omega)))⟩
