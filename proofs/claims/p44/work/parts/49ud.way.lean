-- ===== ways asked by the reference
-- eiw: 26 steps, 3 ends, 0 returns
def eiw_L : List (Nat × Nat × Nat) := []
def eiw_O : yO := []
def eiw_A : yA := (yZ eiw_L, [], [], [], [])
def eiw_C : List xB := []
def eiw_ss : List yS := [(11, [(3, .arg 1), (2, .int 0), (0, .index 338), (1, .arg 1)], [], [], [(.lt, .arg 1, .int 0, true)], []),
  (11, [(3, .arg 1), (2, .int 0), (0, .index 338), (1, .arg 1)], [], [], [(.le, .arg 1, .int 9999, false), (.lt, .arg 1, .int 0, false)], []),
  (11, [(3, .arg 1), (2, .int 1), (0, .index 338), (1, .arg 1)], [], [], [(.le, .arg 1, .int 9999, true), (.lt, .arg 1, .int 0, false)], [])]
def eiw_rs : List yR := []
theorem eiw_w : ywa eiw_A eiw_ss eiw_rs = true := by decide +kernel
theorem eiw_k : yis (yev eiw_A 3000 60 152 [11] (0, [(0, .index 338), (1, .arg 1)], [], eiw_O, eiw_C, [])) eiw_ss eiw_rs = true := by decide +kernel
def eiw_r (v1_ : Int32) (k_ : Nat) : Value := bif Nat.beq k_ 1 then .int v1_ else (.int 0)
def eiw_s (n_ : Nat) : Nat := 0
theorem eiw {h_ : xH} {v1_ : Int32} (hs : sHp h_) : ∃ h', ysm h_ h' ∧ (((v1_.toInt < (0 : Int32).toInt) ∧ (∀ a_ j_ : Nat, bpat h' a_ j_ = bpat h_ a_ j_) ∧ (bldD 60 152 0 [(0, .index 338), (1, .int v1_)] [] h_ 11 [(3, .int v1_), (2, .int (0 : Int32)), (0, .index 338), (1, .int v1_)] [] h'))
  ∨ (((9999 : Int32).toInt < v1_.toInt) ∧ ((0 : Int32).toInt ≤ v1_.toInt) ∧ (∀ a_ j_ : Nat, bpat h' a_ j_ = bpat h_ a_ j_) ∧ (bldD 60 152 0 [(0, .index 338), (1, .int v1_)] [] h_ 11 [(3, .int v1_), (2, .int (0 : Int32)), (0, .index 338), (1, .int v1_)] [] h'))
  ∨ ((v1_.toInt ≤ (9999 : Int32).toInt) ∧ ((0 : Int32).toInt ≤ v1_.toInt) ∧ (∀ a_ j_ : Nat, bpat h' a_ j_ = bpat h_ a_ j_) ∧ (bldD 60 152 0 [(0, .index 338), (1, .int v1_)] [] h_ 11 [(3, .int v1_), (2, .int (1 : Int32)), (0, .index 338), (1, .int v1_)] [] h'))) := by
  have hA : yas eiw_A (eiw_r v1_) (yg eiw_s) := ⟨fun q_ hq => absurd hq List.not_mem_nil, fun q_ hq => absurd hq List.not_mem_nil, fun q_ hq => absurd hq List.not_mem_nil, fun n_ hn => yg_lo hn, fun q_ hq => absurd hq List.not_mem_nil⟩
  have Hs : ysh eiw_A.1 (yg eiw_s) h_ := ysh_of2 hs (fun q_ hq => absurd hq List.not_mem_nil)
  have Ho : ymem (eiw_r v1_) (yg eiw_s) eiw_O h_ := fun q_ hq => absurd hq List.not_mem_nil
  have HC : ∀ q_ ∈ eiw_C, xhold (eiw_r v1_) q_ := fun q_ hq => absurd hq List.not_mem_nil
  rcases yrun (yis_ok eiw_k) hA Hs Ho HC with ⟨q_, hq, h', K_, G_⟩ | ⟨q_, hq, h', K_, G_⟩
  · rcases List.mem_cons.mp hq with e_ | hq
    · subst e_
      exact ⟨h', yfr_sm K_.2.2.2 hs K_.1 (ywa_s eiw_w List.mem_cons_self), Or.inl (⟨xq_ltT rfl rfl (K_.2.2.1 _ List.mem_cons_self), fun a_ j_ => yfr_bp K_.2.2.2 (fun q_ hq => absurd hq List.not_mem_nil), G_⟩)⟩
    rcases List.mem_cons.mp hq with e_ | hq
    · subst e_
      exact ⟨h', yfr_sm K_.2.2.2 hs K_.1 (ywa_s eiw_w (List.mem_cons_of_mem _ List.mem_cons_self)), Or.inr (Or.inl (⟨xq_leF rfl rfl (K_.2.2.1 _ List.mem_cons_self), xq_ltF rfl rfl (K_.2.2.1 _ (List.mem_cons_of_mem _ List.mem_cons_self)), fun a_ j_ => yfr_bp K_.2.2.2 (fun q_ hq => absurd hq List.not_mem_nil), G_⟩))⟩
    have e_ := List.mem_singleton.mp hq
    subst e_
    exact ⟨h', yfr_sm K_.2.2.2 hs K_.1 (ywa_s eiw_w (List.mem_cons_of_mem _ (List.mem_cons_of_mem _ List.mem_cons_self))), Or.inr (Or.inr (⟨xq_leT rfl rfl (K_.2.2.1 _ List.mem_cons_self), xq_ltF rfl rfl (K_.2.2.1 _ (List.mem_cons_of_mem _ List.mem_cons_self)), fun a_ j_ => yfr_bp K_.2.2.2 (fun q_ hq => absurd hq List.not_mem_nil), G_⟩))⟩
  · cases hq
-- tiw: 54 steps, 3 ends, 0 returns
def tiw_L : List (Nat × Nat × Nat) := []
def tiw_O : yO := [(338, .int 0, .index 339), (339, .int 1, .arg 310)]
def tiw_A : yA := (yZ tiw_L, [], [], [], [])
def tiw_C : List xB := [(.le, .arg 3, .int 0, false)]
def tiw_ss : List yS := [(11, [(3, .div (.arg 3) (.int 10)), (2, .int 0), (0, .index 338), (1, .arg 1)], [], [(338, .int 0, .index 339), (339, .int 1, .arg 310)], [(.lt, .sub (.rem (.arg 3) (.int 10)) (.int 1), .int 0, true), (.le, .arg 3, .int 0, false)], []),
  (11, [(3, .div (.arg 3) (.int 10)), (2, .int 0), (0, .index 338), (1, .arg 1)], [], [(338, .int 0, .index 339), (339, .int 1, .arg 310)], [(.le, .sub (.rem (.arg 3) (.int 10)) (.int 1), .sub (.arg 310) (.int 1), false), (.lt, .sub (.rem (.arg 3) (.int 10)) (.int 1), .int 0, false), (.le, .arg 3, .int 0, false)], []),
  (11, [(3, .div (.arg 3) (.int 10)), (2, .int 1), (0, .index 338), (1, .arg 1)], [], [(338, .int 0, .index 339), (339, .int 1, .arg 310)], [(.le, .sub (.rem (.arg 3) (.int 10)) (.int 1), .sub (.arg 310) (.int 1), true), (.lt, .sub (.rem (.arg 3) (.int 10)) (.int 1), .int 0, false), (.le, .arg 3, .int 0, false)], [])]
def tiw_rs : List yR := []
theorem tiw_w : ywa tiw_A tiw_ss tiw_rs = true := by decide +kernel
theorem tiw_k : yis (yev tiw_A 3000 60 152 [11] (11, [(3, .arg 3), (2, .int 1), (0, .index 338), (1, .arg 1)], [], tiw_O, tiw_C, [])) tiw_ss tiw_rs = true := by decide +kernel
def tiw_r (v1_ v3 v310 : Int32) (k_ : Nat) : Value := bif Nat.beq k_ 1 then .int v1_ else (bif Nat.beq k_ 3 then .int v3 else (bif Nat.beq k_ 310 then .int v310 else (.int 0)))
def tiw_s (n_ : Nat) : Nat := 0
theorem tiw {h_ : xH} {v1_ v3 v310 : Int32} (hs : sHp h_) (o0_ : bpat h_ 339 1 = some (.int v310)) (c0_ : (0 : Int32).toInt < v3.toInt) : ∃ h', ysm h_ h' ∧ (((((v3 - v3 / (10 : Int32) * (10 : Int32)) - (1 : Int32)).toInt < (0 : Int32).toInt) ∧ (∀ a_ j_ : Nat, bpat h' a_ j_ = bpat h_ a_ j_) ∧ (bldD 60 152 11 [(3, .int v3), (2, .int (1 : Int32)), (0, .index 338), (1, .int v1_)] [] h_ 11 [(3, .int (v3 / (10 : Int32))), (2, .int (0 : Int32)), (0, .index 338), (1, .int v1_)] [] h'))
  ∨ (((v310 - (1 : Int32)).toInt < ((v3 - v3 / (10 : Int32) * (10 : Int32)) - (1 : Int32)).toInt) ∧ ((0 : Int32).toInt ≤ ((v3 - v3 / (10 : Int32) * (10 : Int32)) - (1 : Int32)).toInt) ∧ (∀ a_ j_ : Nat, bpat h' a_ j_ = bpat h_ a_ j_) ∧ (bldD 60 152 11 [(3, .int v3), (2, .int (1 : Int32)), (0, .index 338), (1, .int v1_)] [] h_ 11 [(3, .int (v3 / (10 : Int32))), (2, .int (0 : Int32)), (0, .index 338), (1, .int v1_)] [] h'))
  ∨ ((((v3 - v3 / (10 : Int32) * (10 : Int32)) - (1 : Int32)).toInt ≤ (v310 - (1 : Int32)).toInt) ∧ ((0 : Int32).toInt ≤ ((v3 - v3 / (10 : Int32) * (10 : Int32)) - (1 : Int32)).toInt) ∧ (∀ a_ j_ : Nat, bpat h' a_ j_ = bpat h_ a_ j_) ∧ (bldD 60 152 11 [(3, .int v3), (2, .int (1 : Int32)), (0, .index 338), (1, .int v1_)] [] h_ 11 [(3, .int (v3 / (10 : Int32))), (2, .int (1 : Int32)), (0, .index 338), (1, .int v1_)] [] h'))) := by
  have hA : yas tiw_A (tiw_r v1_ v3 v310) (yg tiw_s) := ⟨fun q_ hq => absurd hq List.not_mem_nil, fun q_ hq => absurd hq List.not_mem_nil, fun q_ hq => absurd hq List.not_mem_nil, fun n_ hn => yg_lo hn, fun q_ hq => absurd hq List.not_mem_nil⟩
  have Hs : ysh tiw_A.1 (yg tiw_s) h_ := ysh_of2 hs (fun q_ hq => absurd hq List.not_mem_nil)
  have Ho : ymem (tiw_r v1_ v3 v310) (yg tiw_s) tiw_O h_ := List.forall_mem_cons.mpr ⟨bpat_some (fxr_at hs.2 (show fxk fxl 338 0 = some 339 by decide +kernel)), List.forall_mem_cons.mpr ⟨bpat_some o0_, fun q_ hq => absurd hq List.not_mem_nil⟩⟩
  have HC : ∀ q_ ∈ tiw_C, xhold (tiw_r v1_ v3 v310) q_ := List.forall_mem_cons.mpr ⟨xh_leF c0_, fun q_ hq => absurd hq List.not_mem_nil⟩
  rcases yrun (yis_ok tiw_k) hA Hs Ho HC with ⟨q_, hq, h', K_, G_⟩ | ⟨q_, hq, h', K_, G_⟩
  · rcases List.mem_cons.mp hq with e_ | hq
    · subst e_
      exact ⟨h', yfr_sm K_.2.2.2 hs K_.1 (ywa_s tiw_w List.mem_cons_self), Or.inl (⟨xq_ltT (yv_sub2 rfl rfl) rfl (K_.2.2.1 _ List.mem_cons_self), fun a_ j_ => yfr_bp K_.2.2.2 (fun q_ hq => absurd hq List.not_mem_nil), G_⟩)⟩
    rcases List.mem_cons.mp hq with e_ | hq
    · subst e_
      exact ⟨h', yfr_sm K_.2.2.2 hs K_.1 (ywa_s tiw_w (List.mem_cons_of_mem _ List.mem_cons_self)), Or.inr (Or.inl (⟨xq_leF (yv_sub2 rfl rfl) (yv_sub2 rfl rfl) (K_.2.2.1 _ List.mem_cons_self), xq_ltF (yv_sub2 rfl rfl) rfl (K_.2.2.1 _ (List.mem_cons_of_mem _ List.mem_cons_self)), fun a_ j_ => yfr_bp K_.2.2.2 (fun q_ hq => absurd hq List.not_mem_nil), G_⟩))⟩
    have e_ := List.mem_singleton.mp hq
    subst e_
    exact ⟨h', yfr_sm K_.2.2.2 hs K_.1 (ywa_s tiw_w (List.mem_cons_of_mem _ (List.mem_cons_of_mem _ List.mem_cons_self))), Or.inr (Or.inr (⟨xq_leT (yv_sub2 rfl rfl) (yv_sub2 rfl rfl) (K_.2.2.1 _ List.mem_cons_self), xq_ltF (yv_sub2 rfl rfl) rfl (K_.2.2.1 _ (List.mem_cons_of_mem _ List.mem_cons_self)), fun a_ j_ => yfr_bp K_.2.2.2 (fun q_ hq => absurd hq List.not_mem_nil), G_⟩))⟩
  · cases hq
-- xiw: 4 steps, 0 ends, 1 returns
def xiw_L : List (Nat × Nat × Nat) := []
def xiw_O : yO := []
def xiw_A : yA := (yZ xiw_L, [], [], [], [])
def xiw_C : List xB := [(.le, .arg 3, .int 0, true)]
def xiw_ss : List yS := []
def xiw_rs : List yR := [(some (.int 1), [], [(.le, .arg 3, .int 0, true)], [])]
theorem xiw_w : ywa xiw_A xiw_ss xiw_rs = true := by decide +kernel
theorem xiw_k : yis (yev xiw_A 3000 60 152 [] (11, [(3, .arg 3), (2, .int 1), (0, .index 338), (1, .arg 1)], [], xiw_O, xiw_C, [])) xiw_ss xiw_rs = true := by decide +kernel
def xiw_r (v1_ v3 : Int32) (k_ : Nat) : Value := bif Nat.beq k_ 1 then .int v1_ else (bif Nat.beq k_ 3 then .int v3 else (.int 0))
def xiw_s (n_ : Nat) : Nat := 0
theorem xiw {h_ : xH} {v1_ v3 : Int32} (hs : sHp h_) (c0_ : v3.toInt ≤ (0 : Int32).toInt) : ∃ h', ysm h_ h' ∧ (((∀ a_ j_ : Nat, bpat h' a_ j_ = bpat h_ a_ j_) ∧ (∀ D_, 60 ≤ D_ → xrun D_ 152 11 [(3, .int v3), (2, .int (1 : Int32)), (0, .index 338), (1, .int v1_)] [] h_ (some (.int (1 : Int32)), h', [])))) := by
  have hA : yas xiw_A (xiw_r v1_ v3) (yg xiw_s) := ⟨fun q_ hq => absurd hq List.not_mem_nil, fun q_ hq => absurd hq List.not_mem_nil, fun q_ hq => absurd hq List.not_mem_nil, fun n_ hn => yg_lo hn, fun q_ hq => absurd hq List.not_mem_nil⟩
  have Hs : ysh xiw_A.1 (yg xiw_s) h_ := ysh_of2 hs (fun q_ hq => absurd hq List.not_mem_nil)
  have Ho : ymem (xiw_r v1_ v3) (yg xiw_s) xiw_O h_ := fun q_ hq => absurd hq List.not_mem_nil
  have HC : ∀ q_ ∈ xiw_C, xhold (xiw_r v1_ v3) q_ := List.forall_mem_cons.mpr ⟨xh_leT c0_, fun q_ hq => absurd hq List.not_mem_nil⟩
  rcases yrun (yis_ok xiw_k) hA Hs Ho HC with ⟨q_, hq, h', K_, G_⟩ | ⟨q_, hq, h', K_, G_⟩
  · cases hq
  · have e_ := List.mem_singleton.mp hq
    subst e_
    exact ⟨h', yfr_sm K_.2.2.2 hs K_.1 (ywa_r xiw_w List.mem_cons_self), ⟨fun a_ j_ => yfr_bp K_.2.2.2 (fun q_ hq => absurd hq List.not_mem_nil), G_⟩⟩
-- yiw: 8 steps, 0 ends, 2 returns
def yiw_L : List (Nat × Nat × Nat) := []
def yiw_O : yO := []
def yiw_A : yA := (yZ yiw_L, [], [], [], [])
def yiw_C : List xB := []
def yiw_ss : List yS := []
def yiw_rs : List yR := [(some (.int 0), [], [(.le, .arg 3, .int 0, true)], []),
  (some (.int 0), [], [(.le, .arg 3, .int 0, false)], [])]
theorem yiw_w : ywa yiw_A yiw_ss yiw_rs = true := by decide +kernel
theorem yiw_k : yis (yev yiw_A 3000 60 152 [] (11, [(3, .arg 3), (2, .int 0), (0, .index 338), (1, .arg 1)], [], yiw_O, yiw_C, [])) yiw_ss yiw_rs = true := by decide +kernel
def yiw_r (v1_ v3 : Int32) (k_ : Nat) : Value := bif Nat.beq k_ 1 then .int v1_ else (bif Nat.beq k_ 3 then .int v3 else (.int 0))
def yiw_s (n_ : Nat) : Nat := 0
theorem yiw {h_ : xH} {v1_ v3 : Int32} (hs : sHp h_) : ∃ h', ysm h_ h' ∧ (((v3.toInt ≤ (0 : Int32).toInt) ∧ (∀ a_ j_ : Nat, bpat h' a_ j_ = bpat h_ a_ j_) ∧ (∀ D_, 60 ≤ D_ → xrun D_ 152 11 [(3, .int v3), (2, .int (0 : Int32)), (0, .index 338), (1, .int v1_)] [] h_ (some (.int (0 : Int32)), h', [])))
  ∨ (((0 : Int32).toInt < v3.toInt) ∧ (∀ a_ j_ : Nat, bpat h' a_ j_ = bpat h_ a_ j_) ∧ (∀ D_, 60 ≤ D_ → xrun D_ 152 11 [(3, .int v3), (2, .int (0 : Int32)), (0, .index 338), (1, .int v1_)] [] h_ (some (.int (0 : Int32)), h', [])))) := by
  have hA : yas yiw_A (yiw_r v1_ v3) (yg yiw_s) := ⟨fun q_ hq => absurd hq List.not_mem_nil, fun q_ hq => absurd hq List.not_mem_nil, fun q_ hq => absurd hq List.not_mem_nil, fun n_ hn => yg_lo hn, fun q_ hq => absurd hq List.not_mem_nil⟩
  have Hs : ysh yiw_A.1 (yg yiw_s) h_ := ysh_of2 hs (fun q_ hq => absurd hq List.not_mem_nil)
  have Ho : ymem (yiw_r v1_ v3) (yg yiw_s) yiw_O h_ := fun q_ hq => absurd hq List.not_mem_nil
  have HC : ∀ q_ ∈ yiw_C, xhold (yiw_r v1_ v3) q_ := fun q_ hq => absurd hq List.not_mem_nil
  rcases yrun (yis_ok yiw_k) hA Hs Ho HC with ⟨q_, hq, h', K_, G_⟩ | ⟨q_, hq, h', K_, G_⟩
  · cases hq
  · rcases List.mem_cons.mp hq with e_ | hq
    · subst e_
      exact ⟨h', yfr_sm K_.2.2.2 hs K_.1 (ywa_r yiw_w List.mem_cons_self), Or.inl (⟨xq_leT rfl rfl (K_.2.2.1 _ List.mem_cons_self), fun a_ j_ => yfr_bp K_.2.2.2 (fun q_ hq => absurd hq List.not_mem_nil), G_⟩)⟩
    have e_ := List.mem_singleton.mp hq
    subst e_
    exact ⟨h', yfr_sm K_.2.2.2 hs K_.1 (ywa_r yiw_w (List.mem_cons_of_mem _ List.mem_cons_self)), Or.inr (⟨xq_leF rfl rfl (K_.2.2.1 _ List.mem_cons_self), fun a_ j_ => yfr_bp K_.2.2.2 (fun q_ hq => absurd hq List.not_mem_nil), G_⟩)⟩
