-- ===== says, the class
-- xwoE: 50 steps, 0 ends, 5 returns
def xwoE_L : List (Nat × Nat × Nat) := []
def xwoE_O : yO := [(152, .int 1, .arg 305)]
def xwoE_A : yA := (yZ xwoE_L, [], [], [], [])
def xwoE_C : List xB := []
def xwoE_ss : List yS := []
def xwoE_rs : List yR := [(some (.int 1), [(152, .int 1, .arg 305)], [(.eq, .rem (.arg 1) (.int 2), .int 0, false), (.eq, .op2 .iand (.op2 .ishr (.arg 305) (.div (.arg 1) (.int 2))) (.int 1), .int 1, false), (.lt, .arg 1, .int 40, true)], []),
  (some (.int 0), [(152, .int 1, .arg 305)], [(.eq, .rem (.arg 1) (.int 2), .int 0, true), (.eq, .op2 .iand (.op2 .ishr (.arg 305) (.div (.arg 1) (.int 2))) (.int 1), .int 1, false), (.lt, .arg 1, .int 40, true)], []),
  (some (.int 0), [(152, .int 1, .arg 305)], [(.eq, .rem (.arg 1) (.int 2), .int 0, false), (.eq, .op2 .iand (.op2 .ishr (.arg 305) (.div (.arg 1) (.int 2))) (.int 1), .int 1, true), (.lt, .arg 1, .int 40, true)], []),
  (some (.int 1), [(152, .int 1, .arg 305)], [(.eq, .rem (.arg 1) (.int 2), .int 0, true), (.eq, .op2 .iand (.op2 .ishr (.arg 305) (.div (.arg 1) (.int 2))) (.int 1), .int 1, true), (.lt, .arg 1, .int 40, true)], []),
  (some (.int 1), [(152, .int 1, .arg 305)], [(.lt, .arg 1, .int 40, false)], [])]
theorem xwoE_w : ywa xwoE_A xwoE_ss xwoE_rs = true := by decide +kernel
theorem xwoE_k : yis (yev xwoE_A 3000 60 10 [] (0, [(0, .index 152), (1, .arg 1)], [], xwoE_O, xwoE_C, [])) xwoE_ss xwoE_rs = true := by decide +kernel
def xwoE_r (v1_ v305 : Int32) (k_ : Nat) : Value := bif Nat.beq k_ 1 then .int v1_ else (bif Nat.beq k_ 305 then .int v305 else (.int 0))
def xwoE_s (n_ : Nat) : Nat := 0
theorem xwoE {h_ : xH} {v1_ v305 : Int32} (hs : sHp h_) (o0_ : bpat h_ 152 1 = some (.int v305)) : ∃ h', ysm h_ h' ∧ (((¬ (v1_ - v1_ / (2 : Int32) * (2 : Int32)) = (0 : Int32)) ∧ (¬ ((v305 >>> ((v1_ / (2 : Int32)) &&& 31)) &&& (1 : Int32)) = (1 : Int32)) ∧ (v1_.toInt < (40 : Int32).toInt) ∧ (∀ a_ j_ : Nat, bpat h' a_ j_ = bpat h_ a_ j_) ∧ (∀ D_, 60 ≤ D_ → xrun D_ 10 0 [(0, .index 152), (1, .int v1_)] [] h_ (some (.int (1 : Int32)), h', [])))
  ∨ (((v1_ - v1_ / (2 : Int32) * (2 : Int32)) = (0 : Int32)) ∧ (¬ ((v305 >>> ((v1_ / (2 : Int32)) &&& 31)) &&& (1 : Int32)) = (1 : Int32)) ∧ (v1_.toInt < (40 : Int32).toInt) ∧ (∀ a_ j_ : Nat, bpat h' a_ j_ = bpat h_ a_ j_) ∧ (∀ D_, 60 ≤ D_ → xrun D_ 10 0 [(0, .index 152), (1, .int v1_)] [] h_ (some (.int (0 : Int32)), h', [])))
  ∨ ((¬ (v1_ - v1_ / (2 : Int32) * (2 : Int32)) = (0 : Int32)) ∧ (((v305 >>> ((v1_ / (2 : Int32)) &&& 31)) &&& (1 : Int32)) = (1 : Int32)) ∧ (v1_.toInt < (40 : Int32).toInt) ∧ (∀ a_ j_ : Nat, bpat h' a_ j_ = bpat h_ a_ j_) ∧ (∀ D_, 60 ≤ D_ → xrun D_ 10 0 [(0, .index 152), (1, .int v1_)] [] h_ (some (.int (0 : Int32)), h', [])))
  ∨ (((v1_ - v1_ / (2 : Int32) * (2 : Int32)) = (0 : Int32)) ∧ (((v305 >>> ((v1_ / (2 : Int32)) &&& 31)) &&& (1 : Int32)) = (1 : Int32)) ∧ (v1_.toInt < (40 : Int32).toInt) ∧ (∀ a_ j_ : Nat, bpat h' a_ j_ = bpat h_ a_ j_) ∧ (∀ D_, 60 ≤ D_ → xrun D_ 10 0 [(0, .index 152), (1, .int v1_)] [] h_ (some (.int (1 : Int32)), h', [])))
  ∨ (((40 : Int32).toInt ≤ v1_.toInt) ∧ (∀ a_ j_ : Nat, bpat h' a_ j_ = bpat h_ a_ j_) ∧ (∀ D_, 60 ≤ D_ → xrun D_ 10 0 [(0, .index 152), (1, .int v1_)] [] h_ (some (.int (1 : Int32)), h', [])))) := by
  have hA : yas xwoE_A (xwoE_r v1_ v305) (yg xwoE_s) := ⟨fun q_ hq => absurd hq List.not_mem_nil, fun q_ hq => absurd hq List.not_mem_nil, fun q_ hq => absurd hq List.not_mem_nil, fun n_ hn => yg_lo hn, fun q_ hq => absurd hq List.not_mem_nil⟩
  have Hs : ysh xwoE_A.1 (yg xwoE_s) h_ := ysh_of2 hs (fun q_ hq => absurd hq List.not_mem_nil)
  have Ho : ymem (xwoE_r v1_ v305) (yg xwoE_s) xwoE_O h_ := List.forall_mem_cons.mpr ⟨bpat_some o0_, fun q_ hq => absurd hq List.not_mem_nil⟩
  have HC : ∀ q_ ∈ xwoE_C, xhold (xwoE_r v1_ v305) q_ := fun q_ hq => absurd hq List.not_mem_nil
  rcases yrun (yis_ok xwoE_k) hA Hs Ho HC with ⟨q_, hq, h', K_, G_⟩ | ⟨q_, hq, h', K_, G_⟩
  · cases hq
  · rcases List.mem_cons.mp hq with e_ | hq
    · subst e_
      exact ⟨h', yfr_sm K_.2.2.2 hs K_.1 (ywa_r xwoE_w List.mem_cons_self), Or.inl (⟨xq_eqF rfl rfl (K_.2.2.1 _ List.mem_cons_self), xq_eqF rfl rfl (K_.2.2.1 _ (List.mem_cons_of_mem _ List.mem_cons_self)), xq_ltT rfl rfl (K_.2.2.1 _ (List.mem_cons_of_mem _ (List.mem_cons_of_mem _ List.mem_cons_self))), fun a_ j_ => yfr_bp K_.2.2.2 (fun q_ hq => absurd hq List.not_mem_nil), G_⟩)⟩
    rcases List.mem_cons.mp hq with e_ | hq
    · subst e_
      exact ⟨h', yfr_sm K_.2.2.2 hs K_.1 (ywa_r xwoE_w (List.mem_cons_of_mem _ List.mem_cons_self)), Or.inr (Or.inl (⟨xq_eqT rfl rfl (K_.2.2.1 _ List.mem_cons_self), xq_eqF rfl rfl (K_.2.2.1 _ (List.mem_cons_of_mem _ List.mem_cons_self)), xq_ltT rfl rfl (K_.2.2.1 _ (List.mem_cons_of_mem _ (List.mem_cons_of_mem _ List.mem_cons_self))), fun a_ j_ => yfr_bp K_.2.2.2 (fun q_ hq => absurd hq List.not_mem_nil), G_⟩))⟩
    rcases List.mem_cons.mp hq with e_ | hq
    · subst e_
      exact ⟨h', yfr_sm K_.2.2.2 hs K_.1 (ywa_r xwoE_w (List.mem_cons_of_mem _ (List.mem_cons_of_mem _ List.mem_cons_self))), Or.inr (Or.inr (Or.inl (⟨xq_eqF rfl rfl (K_.2.2.1 _ List.mem_cons_self), xq_eqT rfl rfl (K_.2.2.1 _ (List.mem_cons_of_mem _ List.mem_cons_self)), xq_ltT rfl rfl (K_.2.2.1 _ (List.mem_cons_of_mem _ (List.mem_cons_of_mem _ List.mem_cons_self))), fun a_ j_ => yfr_bp K_.2.2.2 (fun q_ hq => absurd hq List.not_mem_nil), G_⟩)))⟩
    rcases List.mem_cons.mp hq with e_ | hq
    · subst e_
      exact ⟨h', yfr_sm K_.2.2.2 hs K_.1 (ywa_r xwoE_w (List.mem_cons_of_mem _ (List.mem_cons_of_mem _ (List.mem_cons_of_mem _ List.mem_cons_self)))), Or.inr (Or.inr (Or.inr (Or.inl (⟨xq_eqT rfl rfl (K_.2.2.1 _ List.mem_cons_self), xq_eqT rfl rfl (K_.2.2.1 _ (List.mem_cons_of_mem _ List.mem_cons_self)), xq_ltT rfl rfl (K_.2.2.1 _ (List.mem_cons_of_mem _ (List.mem_cons_of_mem _ List.mem_cons_self))), fun a_ j_ => yfr_bp K_.2.2.2 (fun q_ hq => absurd hq List.not_mem_nil), G_⟩))))⟩
    have e_ := List.mem_singleton.mp hq
    subst e_
    exact ⟨h', yfr_sm K_.2.2.2 hs K_.1 (ywa_r xwoE_w (List.mem_cons_of_mem _ (List.mem_cons_of_mem _ (List.mem_cons_of_mem _ (List.mem_cons_of_mem _ List.mem_cons_self))))), Or.inr (Or.inr (Or.inr (Or.inr (⟨xq_ltF rfl rfl (K_.2.2.1 _ List.mem_cons_self), fun a_ j_ => yfr_bp K_.2.2.2 (fun q_ hq => absurd hq List.not_mem_nil), G_⟩))))⟩
theorem and1 (v_ : Int32) : v_ &&& (1 : Int32) = 0 ∨ v_ &&& (1 : Int32) = 1 := by
  have k_ := BitVec.and_one_eq_setWidth_ofBool_getLsbD (x := v_.toBitVec)
  have e_ : (v_ &&& (1 : Int32)).toBitVec = v_.toBitVec &&& 1#32 := rfl
  rw [k_] at e_
  cases g_ : v_.toBitVec.getLsbD 0 with
  | true =>
    rw [g_] at e_
    exact Or.inr (Int32.toBitVec_inj.mp (e_.trans rfl))
  | false =>
    rw [g_] at e_
    exact Or.inl (Int32.toBitVec_inj.mp (e_.trans rfl))
theorem wsX {v_ s_ : Int32} {h_ : xH} (S_ : sHp h_) (e1_ : bpat h_ 152 1 = some (.int s_)) : ∃ h', (ysm h_ h' ∧ ∀ c_ j_, bpat h' c_ j_ = bpat h_ c_ j_) ∧ ∀ D_, 60 ≤ D_ → xrun D_ 10 0 [(0, .index 152), (1, .int v_)] [] h_ (some (.int (bI (wso s_ v_))), h', []) := by
  have z40 : (40 : Int32).toInt = 40 := rfl
  obtain ⟨h1, m1_, e_⟩ := xwoE (v1_ := v_) S_ e1_
  have b01 : ¬ bitF s_ v_ = 1 → bitF s_ v_ = 0 := fun q_ => by
    rcases and1 (s_ >>> ((v_ / (2 : Int32)) &&& 31)) with k_ | k_
    · exact k_
    · exact absurd k_ q_
  have b10 : bitF s_ v_ = 1 → ¬ bitF s_ v_ = 0 := fun q_ q2_ => by
    rw [q_] at q2_
    exact absurd q2_ (by decide)
  rcases e_ with ⟨g1, g2, g3_, f_, r_⟩ | ⟨g1, g2, g3_, f_, r_⟩ | ⟨g1, g2, g3_, f_, r_⟩ | ⟨g1, g2, g3_, f_, r_⟩ | ⟨g1, f_, r_⟩
  · rw [show wso s_ v_ = true from (if_neg (by omega)).trans ((if_neg g1).trans (decide_eq_true (b01 g2)))]
    exact ⟨h1, ⟨m1_, f_⟩, r_⟩
  · rw [show wso s_ v_ = false from (if_neg (by omega)).trans ((if_pos g1).trans (decide_eq_false g2))]
    exact ⟨h1, ⟨m1_, f_⟩, r_⟩
  · rw [show wso s_ v_ = false from (if_neg (by omega)).trans ((if_neg g1).trans (decide_eq_false (b10 g2)))]
    exact ⟨h1, ⟨m1_, f_⟩, r_⟩
  · rw [show wso s_ v_ = true from (if_neg (by omega)).trans ((if_pos g1).trans (decide_eq_true g2))]
    exact ⟨h1, ⟨m1_, f_⟩, r_⟩
  · rw [show wso s_ v_ = true from if_pos (by omega)]
    exact ⟨h1, ⟨m1_, f_⟩, r_⟩
-- xsbE: 4 steps, 1 ends, 0 returns
def xsbE_L : List (Nat × Nat × Nat) := []
def xsbE_O : yO := []
def xsbE_A : yA := (yZ xsbE_L, [], [], [], [])
def xsbE_C : List xB := []
def xsbE_ss : List yS := [(4, [(2, .int 0), (1, .int 0), (0, .index 152)], [], [], [], [])]
def xsbE_rs : List yR := []
theorem xsbE_w : ywa xsbE_A xsbE_ss xsbE_rs = true := by decide +kernel
theorem xsbE_k : yis (yev xsbE_A 3000 60 9 [4] (0, [(0, .index 152)], [], xsbE_O, xsbE_C, [])) xsbE_ss xsbE_rs = true := by decide +kernel
def xsbE_r (k_ : Nat) : Value := .int 0
def xsbE_s (n_ : Nat) : Nat := 0
theorem xsbE {h_ : xH} (hs : sHp h_) : ∃ h', ysm h_ h' ∧ (((∀ a_ j_ : Nat, bpat h' a_ j_ = bpat h_ a_ j_) ∧ (bldD 60 9 0 [(0, .index 152)] [] h_ 4 [(2, .int (0 : Int32)), (1, .int (0 : Int32)), (0, .index 152)] [] h'))) := by
  have hA : yas xsbE_A xsbE_r (yg xsbE_s) := ⟨fun q_ hq => absurd hq List.not_mem_nil, fun q_ hq => absurd hq List.not_mem_nil, fun q_ hq => absurd hq List.not_mem_nil, fun n_ hn => yg_lo hn, fun q_ hq => absurd hq List.not_mem_nil⟩
  have Hs : ysh xsbE_A.1 (yg xsbE_s) h_ := ysh_of2 hs (fun q_ hq => absurd hq List.not_mem_nil)
  have Ho : ymem xsbE_r (yg xsbE_s) xsbE_O h_ := fun q_ hq => absurd hq List.not_mem_nil
  have HC : ∀ q_ ∈ xsbE_C, xhold xsbE_r q_ := fun q_ hq => absurd hq List.not_mem_nil
  rcases yrun (yis_ok xsbE_k) hA Hs Ho HC with ⟨q_, hq, h', K_, G_⟩ | ⟨q_, hq, h', K_, G_⟩
  · have e_ := List.mem_singleton.mp hq
    subst e_
    exact ⟨h', yfr_sm K_.2.2.2 hs K_.1 (ywa_s xsbE_w List.mem_cons_self), ⟨fun a_ j_ => yfr_bp K_.2.2.2 (fun q_ hq => absurd hq List.not_mem_nil), G_⟩⟩
  · cases hq
-- xsbT: 56 steps, 1 ends, 0 returns
def xsbT_L : List (Nat × Nat × Nat) := [(1000, 6, 2), (1001, 20, 12)]
def xsbT_O : yO := [(152, .int 2, .arg 302), (152, .int 0, .index 1000), (1000, .int 1, .arg 300), (1000, .int 0, .index 1001), (1001, .arg 302, .arg 301), (1001, .sub (.add (.arg 302) (.int 1)) (.int 1), .arg 301)]
def xsbT_A : yA := (yZ xsbT_L, [(.arg 302, 12), (.sub (.add (.arg 302) (.int 1)) (.int 1), 12)], [], [], [])
def xsbT_C : List xB := [(.le, .arg 301, .int 99, true), (.lt, .arg 301, .int 60, false), (.lt, .arg 302, .arg 300, true), (.lt, .arg 2, .int 12, true)]
def xsbT_ss : List yS := [(4, [(2, .add (.arg 2) (.int 1)), (1, .add (.arg 1) (.sub (.arg 301) (.int 80))), (0, .index 152)], [], [(152, .int 2, .add (.arg 302) (.int 1)), (152, .int 0, .index 1000), (1000, .int 1, .arg 300), (1000, .int 0, .index 1001), (1001, .arg 302, .arg 301), (1001, .sub (.add (.arg 302) (.int 1)) (.int 1), .arg 301)], [(.le, .arg 301, .int 99, true), (.lt, .arg 301, .int 60, false), (.lt, .arg 302, .arg 300, true), (.lt, .arg 2, .int 12, true)], [(152, .int 2)])]
def xsbT_rs : List yR := []
theorem xsbT_w : ywa xsbT_A xsbT_ss xsbT_rs = true := by decide +kernel
theorem xsbT_k : yis (yev xsbT_A 3000 60 9 [4] (4, [(2, .arg 2), (1, .arg 1), (0, .index 152)], [], xsbT_O, xsbT_C, [])) xsbT_ss xsbT_rs = true := by decide +kernel
def xsbT_r (v1_ v2 v300 v301 v302 : Int32) (k_ : Nat) : Value := bif Nat.beq k_ 1 then .int v1_ else (bif Nat.beq k_ 2 then .int v2 else (bif Nat.beq k_ 300 then .int v300 else (bif Nat.beq k_ 301 then .int v301 else (bif Nat.beq k_ 302 then .int v302 else (.int 0)))))
def xsbT_s (a1000 a1001 : Nat) (n_ : Nat) : Nat := bif Nat.beq n_ 1000 then a1000 else (bif Nat.beq n_ 1001 then a1001 else (0))
theorem xsbT {h_ : xH} {a1000 a1001 : Nat} {v1_ v2 v300 v301 v302 : Int32} (hs : sHp h_) (k1000 : bcq h_ a1000 6 2) (k1001 : bcq h_ a1001 20 12) (o0_ : bpat h_ 152 2 = some (.int v302)) (o1 : bpat h_ 152 0 = some (.index a1000)) (o2 : bpat h_ a1000 1 = some (.int v300)) (o3_ : bpat h_ a1000 0 = some (.index a1001)) (o4_ : bpat h_ a1001 (v302).toInt.toNat = some (.int v301)) (o5_ : bpat h_ a1001 (((v302 + (1 : Int32)) - (1 : Int32))).toInt.toNat = some (.int v301)) (b0 : 0 ≤ (v302).toInt ∧ (v302).toInt < 12) (b1 : 0 ≤ (((v302 + (1 : Int32)) - (1 : Int32))).toInt ∧ (((v302 + (1 : Int32)) - (1 : Int32))).toInt < 12) (c0_ : v301.toInt ≤ (99 : Int32).toInt) (c1_ : (60 : Int32).toInt ≤ v301.toInt) (c2_ : v302.toInt < v300.toInt) (c3_ : v2.toInt < (12 : Int32).toInt) : ∃ h', ysm h_ h' ∧ (((bpat h' 152 2 = some (.int (v302 + (1 : Int32)))) ∧ (∀ a_ j_ : Nat, ¬ (a_ = 152 ∧ j_ = 2) → bpat h' a_ j_ = bpat h_ a_ j_) ∧ (bldD 60 9 4 [(2, .int v2), (1, .int v1_), (0, .index 152)] [] h_ 4 [(2, .int (v2 + (1 : Int32))), (1, .int (v1_ + (v301 - (80 : Int32)))), (0, .index 152)] [] h'))) := by
  have hA : yas xsbT_A (xsbT_r v1_ v2 v300 v301 v302) (yg (xsbT_s a1000 a1001)) := ⟨List.forall_mem_cons.mpr ⟨b0, List.forall_mem_cons.mpr ⟨b1, fun q_ hq => absurd hq List.not_mem_nil⟩⟩, fun q_ hq => absurd hq List.not_mem_nil, fun q_ hq => absurd hq List.not_mem_nil, fun n_ hn => yg_lo hn, fun q_ hq => absurd hq List.not_mem_nil⟩
  have Hs : ysh xsbT_A.1 (yg (xsbT_s a1000 a1001)) h_ := ysh_of2 hs (List.forall_mem_cons.mpr ⟨⟨by decide, k1000⟩, List.forall_mem_cons.mpr ⟨⟨by decide, k1001⟩, fun q_ hq => absurd hq List.not_mem_nil⟩⟩)
  have Ho : ymem (xsbT_r v1_ v2 v300 v301 v302) (yg (xsbT_s a1000 a1001)) xsbT_O h_ := List.forall_mem_cons.mpr ⟨bpat_some o0_, List.forall_mem_cons.mpr ⟨bpat_some o1, List.forall_mem_cons.mpr ⟨bpat_some o2, List.forall_mem_cons.mpr ⟨bpat_some o3_, List.forall_mem_cons.mpr ⟨bpat_some o4_, List.forall_mem_cons.mpr ⟨bpat_some o5_, fun q_ hq => absurd hq List.not_mem_nil⟩⟩⟩⟩⟩⟩
  have HC : ∀ q_ ∈ xsbT_C, xhold (xsbT_r v1_ v2 v300 v301 v302) q_ := List.forall_mem_cons.mpr ⟨xh_leT c0_, List.forall_mem_cons.mpr ⟨xh_ltF c1_, List.forall_mem_cons.mpr ⟨xh_ltT c2_, List.forall_mem_cons.mpr ⟨xh_ltT c3_, fun q_ hq => absurd hq List.not_mem_nil⟩⟩⟩⟩
  rcases yrun (yis_ok xsbT_k) hA Hs Ho HC with ⟨q_, hq, h', K_, G_⟩ | ⟨q_, hq, h', K_, G_⟩
  · have e_ := List.mem_singleton.mp hq
    subst e_
    exact ⟨h', yfr_sm K_.2.2.2 hs K_.1 (ywa_s xsbT_w List.mem_cons_self), ⟨bpat_of (K_.2.1 _ List.mem_cons_self), fun a_ j_ n0_ => yfr_bp K_.2.2.2 (List.forall_mem_cons.mpr ⟨fun e_ => n0_ ⟨e_.1.symm, e_.2.symm⟩, fun q_ hq => absurd hq List.not_mem_nil⟩), G_⟩⟩
  · cases hq
-- xsbX: 11 steps, 0 ends, 1 returns
def xsbX_L : List (Nat × Nat × Nat) := [(1000, 6, 2), (1001, 20, 12)]
def xsbX_O : yO := [(152, .int 2, .arg 302), (152, .int 0, .index 1000), (1000, .int 1, .arg 300)]
def xsbX_A : yA := (yZ xsbX_L, [], [], [], [])
def xsbX_C : List xB := [(.lt, .arg 302, .arg 300, false), (.lt, .arg 2, .int 12, true)]
def xsbX_ss : List yS := []
def xsbX_rs : List yR := [(some (.arg 1), [(152, .int 2, .arg 302), (152, .int 0, .index 1000), (1000, .int 1, .arg 300)], [(.lt, .arg 302, .arg 300, false), (.lt, .arg 2, .int 12, true)], [])]
theorem xsbX_w : ywa xsbX_A xsbX_ss xsbX_rs = true := by decide +kernel
theorem xsbX_k : yis (yev xsbX_A 3000 60 9 [] (4, [(2, .arg 2), (1, .arg 1), (0, .index 152)], [], xsbX_O, xsbX_C, [])) xsbX_ss xsbX_rs = true := by decide +kernel
def xsbX_r (v1_ v2 v300 v302 : Int32) (k_ : Nat) : Value := bif Nat.beq k_ 1 then .int v1_ else (bif Nat.beq k_ 2 then .int v2 else (bif Nat.beq k_ 300 then .int v300 else (bif Nat.beq k_ 302 then .int v302 else (.int 0))))
def xsbX_s (a1000 a1001 : Nat) (n_ : Nat) : Nat := bif Nat.beq n_ 1000 then a1000 else (bif Nat.beq n_ 1001 then a1001 else (0))
theorem xsbX {h_ : xH} {a1000 a1001 : Nat} {v1_ v2 v300 v302 : Int32} (hs : sHp h_) (k1000 : bcq h_ a1000 6 2) (k1001 : bcq h_ a1001 20 12) (o0_ : bpat h_ 152 2 = some (.int v302)) (o1 : bpat h_ 152 0 = some (.index a1000)) (o2 : bpat h_ a1000 1 = some (.int v300)) (c0_ : v300.toInt ≤ v302.toInt) (c1_ : v2.toInt < (12 : Int32).toInt) : ∃ h', ysm h_ h' ∧ (((∀ a_ j_ : Nat, bpat h' a_ j_ = bpat h_ a_ j_) ∧ (∀ D_, 60 ≤ D_ → xrun D_ 9 4 [(2, .int v2), (1, .int v1_), (0, .index 152)] [] h_ (some (.int v1_), h', [])))) := by
  have hA : yas xsbX_A (xsbX_r v1_ v2 v300 v302) (yg (xsbX_s a1000 a1001)) := ⟨fun q_ hq => absurd hq List.not_mem_nil, fun q_ hq => absurd hq List.not_mem_nil, fun q_ hq => absurd hq List.not_mem_nil, fun n_ hn => yg_lo hn, fun q_ hq => absurd hq List.not_mem_nil⟩
  have Hs : ysh xsbX_A.1 (yg (xsbX_s a1000 a1001)) h_ := ysh_of2 hs (List.forall_mem_cons.mpr ⟨⟨by decide, k1000⟩, List.forall_mem_cons.mpr ⟨⟨by decide, k1001⟩, fun q_ hq => absurd hq List.not_mem_nil⟩⟩)
  have Ho : ymem (xsbX_r v1_ v2 v300 v302) (yg (xsbX_s a1000 a1001)) xsbX_O h_ := List.forall_mem_cons.mpr ⟨bpat_some o0_, List.forall_mem_cons.mpr ⟨bpat_some o1, List.forall_mem_cons.mpr ⟨bpat_some o2, fun q_ hq => absurd hq List.not_mem_nil⟩⟩⟩
  have HC : ∀ q_ ∈ xsbX_C, xhold (xsbX_r v1_ v2 v300 v302) q_ := List.forall_mem_cons.mpr ⟨xh_ltF c0_, List.forall_mem_cons.mpr ⟨xh_ltT c1_, fun q_ hq => absurd hq List.not_mem_nil⟩⟩
  rcases yrun (yis_ok xsbX_k) hA Hs Ho HC with ⟨q_, hq, h', K_, G_⟩ | ⟨q_, hq, h', K_, G_⟩
  · cases hq
  · have e_ := List.mem_singleton.mp hq
    subst e_
    exact ⟨h', yfr_sm K_.2.2.2 hs K_.1 (ywa_r xsbX_w List.mem_cons_self), ⟨fun a_ j_ => yfr_bp K_.2.2.2 (fun q_ hq => absurd hq List.not_mem_nil), G_⟩⟩
-- xsbY: 24 steps, 0 ends, 1 returns
def xsbY_L : List (Nat × Nat × Nat) := [(1000, 6, 2), (1001, 20, 12)]
def xsbY_O : yO := [(152, .int 2, .arg 302), (152, .int 0, .index 1000), (1000, .int 1, .arg 300), (1000, .int 0, .index 1001), (1001, .arg 302, .arg 301)]
def xsbY_A : yA := (yZ xsbY_L, [(.arg 302, 12)], [], [], [])
def xsbY_C : List xB := [(.lt, .arg 301, .int 60, true), (.lt, .arg 302, .arg 300, true), (.lt, .arg 2, .int 12, true)]
def xsbY_ss : List yS := []
def xsbY_rs : List yR := [(some (.arg 1), [(152, .int 2, .arg 302), (152, .int 0, .index 1000), (1000, .int 1, .arg 300), (1000, .int 0, .index 1001), (1001, .arg 302, .arg 301)], [(.lt, .arg 301, .int 60, true), (.lt, .arg 302, .arg 300, true), (.lt, .arg 2, .int 12, true)], [])]
theorem xsbY_w : ywa xsbY_A xsbY_ss xsbY_rs = true := by decide +kernel
theorem xsbY_k : yis (yev xsbY_A 3000 60 9 [] (4, [(2, .arg 2), (1, .arg 1), (0, .index 152)], [], xsbY_O, xsbY_C, [])) xsbY_ss xsbY_rs = true := by decide +kernel
def xsbY_r (v1_ v2 v300 v301 v302 : Int32) (k_ : Nat) : Value := bif Nat.beq k_ 1 then .int v1_ else (bif Nat.beq k_ 2 then .int v2 else (bif Nat.beq k_ 300 then .int v300 else (bif Nat.beq k_ 301 then .int v301 else (bif Nat.beq k_ 302 then .int v302 else (.int 0)))))
def xsbY_s (a1000 a1001 : Nat) (n_ : Nat) : Nat := bif Nat.beq n_ 1000 then a1000 else (bif Nat.beq n_ 1001 then a1001 else (0))
theorem xsbY {h_ : xH} {a1000 a1001 : Nat} {v1_ v2 v300 v301 v302 : Int32} (hs : sHp h_) (k1000 : bcq h_ a1000 6 2) (k1001 : bcq h_ a1001 20 12) (o0_ : bpat h_ 152 2 = some (.int v302)) (o1 : bpat h_ 152 0 = some (.index a1000)) (o2 : bpat h_ a1000 1 = some (.int v300)) (o3_ : bpat h_ a1000 0 = some (.index a1001)) (o4_ : bpat h_ a1001 (v302).toInt.toNat = some (.int v301)) (b0 : 0 ≤ (v302).toInt ∧ (v302).toInt < 12) (c0_ : v301.toInt < (60 : Int32).toInt) (c1_ : v302.toInt < v300.toInt) (c2_ : v2.toInt < (12 : Int32).toInt) : ∃ h', ysm h_ h' ∧ (((∀ a_ j_ : Nat, bpat h' a_ j_ = bpat h_ a_ j_) ∧ (∀ D_, 60 ≤ D_ → xrun D_ 9 4 [(2, .int v2), (1, .int v1_), (0, .index 152)] [] h_ (some (.int v1_), h', [])))) := by
  have hA : yas xsbY_A (xsbY_r v1_ v2 v300 v301 v302) (yg (xsbY_s a1000 a1001)) := ⟨List.forall_mem_cons.mpr ⟨b0, fun q_ hq => absurd hq List.not_mem_nil⟩, fun q_ hq => absurd hq List.not_mem_nil, fun q_ hq => absurd hq List.not_mem_nil, fun n_ hn => yg_lo hn, fun q_ hq => absurd hq List.not_mem_nil⟩
  have Hs : ysh xsbY_A.1 (yg (xsbY_s a1000 a1001)) h_ := ysh_of2 hs (List.forall_mem_cons.mpr ⟨⟨by decide, k1000⟩, List.forall_mem_cons.mpr ⟨⟨by decide, k1001⟩, fun q_ hq => absurd hq List.not_mem_nil⟩⟩)
  have Ho : ymem (xsbY_r v1_ v2 v300 v301 v302) (yg (xsbY_s a1000 a1001)) xsbY_O h_ := List.forall_mem_cons.mpr ⟨bpat_some o0_, List.forall_mem_cons.mpr ⟨bpat_some o1, List.forall_mem_cons.mpr ⟨bpat_some o2, List.forall_mem_cons.mpr ⟨bpat_some o3_, List.forall_mem_cons.mpr ⟨bpat_some o4_, fun q_ hq => absurd hq List.not_mem_nil⟩⟩⟩⟩⟩
  have HC : ∀ q_ ∈ xsbY_C, xhold (xsbY_r v1_ v2 v300 v301 v302) q_ := List.forall_mem_cons.mpr ⟨xh_ltT c0_, List.forall_mem_cons.mpr ⟨xh_ltT c1_, List.forall_mem_cons.mpr ⟨xh_ltT c2_, fun q_ hq => absurd hq List.not_mem_nil⟩⟩⟩
  rcases yrun (yis_ok xsbY_k) hA Hs Ho HC with ⟨q_, hq, h', K_, G_⟩ | ⟨q_, hq, h', K_, G_⟩
  · cases hq
  · have e_ := List.mem_singleton.mp hq
    subst e_
    exact ⟨h', yfr_sm K_.2.2.2 hs K_.1 (ywa_r xsbY_w List.mem_cons_self), ⟨fun a_ j_ => yfr_bp K_.2.2.2 (fun q_ hq => absurd hq List.not_mem_nil), G_⟩⟩
def gmf (h_ h' : xH) : Prop := ysm h_ h' ∧ ∀ c_ j_, ¬ (c_ = 152 ∧ j_ = 2) → bpat h' c_ j_ = bpat h_ c_ j_
theorem gmf_t {a_ b_ c_ : xH} (h1 : gmf a_ b_) (h2 : gmf b_ c_) : gmf a_ c_ := ⟨ysm_tr h1.1 h2.1, fun c_ j_ q_ => (h2.2 c_ j_ q_).trans (h1.2 c_ j_ q_)⟩
theorem gmf_a {h_ h' : xH} (m_ : ysm h_ h') (f_ : ∀ c_ j_, bpat h' c_ j_ = bpat h_ c_ j_) : gmf h_ h' := ⟨m_, fun c_ j_ _ => f_ c_ j_⟩
theorem gmf_R {a_ ia : Nat} {L_ : List Int32} {h_ h' : xH} (R_ : rwx h_ a_ ia 12 L_) (F_ : gmf h_ h') (na : ¬ a_ = 152 ∧ ¬ ia = 152) : rwx h' a_ ia 12 L_ := rwx_keep R_ F_.1 (fun c_ j_ q_ => F_.2 c_ j_ (by omega))
theorem sb_x {a_ ia : Nat} {L_ : List Int32} (hS_ : snds L_) (na : ¬ a_ = 152 ∧ ¬ ia = 152) : ∀ (l : List Int32) (i_ k_ : Nat) (s_ : Int32) (h_ : xH), sHp h_ → L_.drop i_ = l → i_ + l.length = L_.length → k_ + 1 ≤ i_ → rwx h_ a_ ia 12 L_ → bpat h_ 152 0 = some (.index a_) → bpat h_ 152 2 = some (.int (Int32.ofNat i_)) → ∃ h', gmf h_ h' ∧ (bpat h' 152 2 = some (.int (Int32.ofNat (nru i_ s_ l).1)) ∧ ∀ D_, 60 ≤ D_ → xrun D_ 9 4 [(2, .int (Int32.ofNat k_)), (1, .int s_), (0, .index 152)] [] h_ (some (.int (nru i_ s_ l).2.1), h', [])) := by
  intro l
  have z60_ : (60 : Int32).toInt = 60 := rfl
  have z99 : (99 : Int32).toInt = 99 := rfl
  have z12 : (12 : Int32).toInt = 12 := rfl
  induction l with
  | nil =>
    intro i_ k_ s_ h_ S_ ed hi_ hk R_ e0_ e2_
    rw [List.length_nil] at hi_
    have l12 := R_.2.2.1
    have ii := i32n (i_ := i_) (by omega)
    have ik := i32n (i_ := k_) (by omega)
    have iL := i32n (i_ := L_.length) (by omega)
    obtain ⟨h1, m1_, f1_, r1_⟩ := xsbX (v1_ := s_) (v2 := Int32.ofNat k_) (v300 := Int32.ofNat L_.length) (v302 := Int32.ofNat i_) S_ R_.1.1 R_.1.2 e2_ e0_ R_.2.1.2 (by omega) (by omega)
    exact ⟨h1, gmf_a m1_ f1_, (f1_ _ _).trans e2_, r1_⟩
  | cons v_ t_ ih_ =>
    intro i_ k_ s_ h_ S_ ed hi_ hk R_ e0_ e2_
    rw [List.length_cons] at hi_
    have l12 := R_.2.2.1
    have ii := i32n (i_ := i_) (by omega)
    have ik := i32n (i_ := k_) (by omega)
    have iL := i32n (i_ := L_.length) (by omega)
    have ov : bpat h_ ia i_ = some (.int v_) := R_.2.2.2 i_ v_ (by have q_ : (L_.drop i_)[0]? = some v_ := (by rw [ed]; rfl); rw [List.getElem?_drop, Nat.add_zero] at q_; exact q_)
    have sv : snd_ v_ := hS_ v_ (List.mem_of_mem_drop (by rw [ed]; exact List.mem_cons_self))
    unfold snd_ at sv
    have en : Int32.ofNat i_ + 1 - 1 = Int32.ofNat i_ := Int32.add_sub_cancel _ _
    by_cases g_ : 60 ≤ v_.toInt
    · have e1_ : nru i_ s_ (v_ :: t_) = nru (i_ + 1) (s_ + (v_ - 80)) t_ := if_pos g_
      rw [e1_]
      obtain ⟨h1, m1_, w0_, f1_, ld1⟩ := xsbT (v1_ := s_) (v2 := Int32.ofNat k_) (v300 := Int32.ofNat L_.length) (v302 := Int32.ofNat i_) (v301 := v_) S_ R_.1.1 R_.1.2 e2_ e0_ R_.2.1.2 R_.2.1.1 (by rw [i32t (by omega)]; exact ov) (by rw [en, i32t (by omega)]; exact ov) ⟨by omega, by omega⟩ ⟨by rw [en]; omega, by rw [en]; omega⟩ (by omega) (by omega) (by omega) (by omega)
      rw [i32s] at w0_ ld1
      have F1_ : gmf h_ h1 := ⟨m1_, fun c_ j_ q_ => f1_ c_ j_ q_⟩
      obtain ⟨h2, F2, g2, r2⟩ := ih_ (i_ + 1) (k_ + 1) (s_ + (v_ - 80)) h1 m1_.1 (by rw [show L_.drop (i_ + 1) = (L_.drop i_).drop 1 by rw [List.drop_drop], ed]; rfl) (by omega) (by omega) (gmf_R R_ F1_ na) ((f1_ _ _ (by omega)).trans e0_) w0_
      exact ⟨h2, gmf_t F1_ F2, g2, fun D_ hD => ld1 D_ hD _ (r2 D_ hD)⟩
    · have e1_ : nru i_ s_ (v_ :: t_) = (i_, s_, v_ :: t_) := if_neg g_
      rw [e1_]
      obtain ⟨h1, m1_, f1_, r1_⟩ := xsbY (v1_ := s_) (v2 := Int32.ofNat k_) (v300 := Int32.ofNat L_.length) (v302 := Int32.ofNat i_) (v301 := v_) S_ R_.1.1 R_.1.2 e2_ e0_ R_.2.1.2 R_.2.1.1 (by rw [i32t (by omega)]; exact ov) ⟨by omega, by omega⟩ (by omega) (by omega) (by omega)
      exact ⟨h1, gmf_a m1_ f1_, (f1_ _ _).trans e2_, r1_⟩
-- xtm53: 34 steps, 1 ends, 0 returns
def xtm53_L : List (Nat × Nat × Nat) := [(1000, 6, 2), (1001, 20, 12)]
def xtm53_O : yO := [(152, .int 2, .arg 302), (152, .int 0, .index 1000), (1000, .int 1, .arg 300), (1000, .int 0, .index 1001), (1001, .sub (.add (.arg 302) (.int 1)) (.int 1), .int 53)]
def xtm53_A : yA := (yZ xtm53_L, [(.sub (.add (.arg 302) (.int 1)) (.int 1), 12)], [], [], [])
def xtm53_C : List xB := [(.lt, .arg 302, .arg 300, true), (.le, .arg 1, .int 12, true)]
def xtm53_ss : List yS := [(23, [(2, .int 53), (0, .index 152), (1, .arg 1)], [.add (.arg 1) (.int 1), .index 152], [(152, .int 2, .add (.arg 302) (.int 1)), (152, .int 0, .index 1000), (1000, .int 1, .arg 300), (1000, .int 0, .index 1001), (1001, .sub (.add (.arg 302) (.int 1)) (.int 1), .int 53)], [(.lt, .arg 302, .arg 300, true), (.le, .arg 1, .int 12, true)], [(152, .int 2)])]
def xtm53_rs : List yR := []
theorem xtm53_w : ywa xtm53_A xtm53_ss xtm53_rs = true := by decide +kernel
theorem xtm53_k : yis (yev xtm53_A 3000 60 8 [23] (0, [(0, .index 152), (1, .arg 1)], [], xtm53_O, xtm53_C, [])) xtm53_ss xtm53_rs = true := by decide +kernel
def xtm53_r (v1_ v300 v302 : Int32) (k_ : Nat) : Value := bif Nat.beq k_ 1 then .int v1_ else (bif Nat.beq k_ 300 then .int v300 else (bif Nat.beq k_ 302 then .int v302 else (.int 0)))
def xtm53_s (a1000 a1001 : Nat) (n_ : Nat) : Nat := bif Nat.beq n_ 1000 then a1000 else (bif Nat.beq n_ 1001 then a1001 else (0))
theorem xtm53 {h_ : xH} {a1000 a1001 : Nat} {v1_ v300 v302 : Int32} (hs : sHp h_) (k1000 : bcq h_ a1000 6 2) (k1001 : bcq h_ a1001 20 12) (o0_ : bpat h_ 152 2 = some (.int v302)) (o1 : bpat h_ 152 0 = some (.index a1000)) (o2 : bpat h_ a1000 1 = some (.int v300)) (o3_ : bpat h_ a1000 0 = some (.index a1001)) (o4_ : bpat h_ a1001 (((v302 + (1 : Int32)) - (1 : Int32))).toInt.toNat = some (.int (53 : Int32))) (b0 : 0 ≤ (((v302 + (1 : Int32)) - (1 : Int32))).toInt ∧ (((v302 + (1 : Int32)) - (1 : Int32))).toInt < 12) (c0_ : v302.toInt < v300.toInt) (c1_ : v1_.toInt ≤ (12 : Int32).toInt) : ∃ h', ysm h_ h' ∧ (((bpat h' 152 2 = some (.int (v302 + (1 : Int32)))) ∧ (∀ a_ j_ : Nat, ¬ (a_ = 152 ∧ j_ = 2) → bpat h' a_ j_ = bpat h_ a_ j_) ∧ (bldD 60 8 0 [(0, .index 152), (1, .int v1_)] [] h_ 23 [(2, .int (53 : Int32)), (0, .index 152), (1, .int v1_)] [.int (v1_ + (1 : Int32)), .index 152] h'))) := by
  have hA : yas xtm53_A (xtm53_r v1_ v300 v302) (yg (xtm53_s a1000 a1001)) := ⟨List.forall_mem_cons.mpr ⟨b0, fun q_ hq => absurd hq List.not_mem_nil⟩, fun q_ hq => absurd hq List.not_mem_nil, fun q_ hq => absurd hq List.not_mem_nil, fun n_ hn => yg_lo hn, fun q_ hq => absurd hq List.not_mem_nil⟩
  have Hs : ysh xtm53_A.1 (yg (xtm53_s a1000 a1001)) h_ := ysh_of2 hs (List.forall_mem_cons.mpr ⟨⟨by decide, k1000⟩, List.forall_mem_cons.mpr ⟨⟨by decide, k1001⟩, fun q_ hq => absurd hq List.not_mem_nil⟩⟩)
  have Ho : ymem (xtm53_r v1_ v300 v302) (yg (xtm53_s a1000 a1001)) xtm53_O h_ := List.forall_mem_cons.mpr ⟨bpat_some o0_, List.forall_mem_cons.mpr ⟨bpat_some o1, List.forall_mem_cons.mpr ⟨bpat_some o2, List.forall_mem_cons.mpr ⟨bpat_some o3_, List.forall_mem_cons.mpr ⟨bpat_some o4_, fun q_ hq => absurd hq List.not_mem_nil⟩⟩⟩⟩⟩
  have HC : ∀ q_ ∈ xtm53_C, xhold (xtm53_r v1_ v300 v302) q_ := List.forall_mem_cons.mpr ⟨xh_ltT c0_, List.forall_mem_cons.mpr ⟨xh_leT c1_, fun q_ hq => absurd hq List.not_mem_nil⟩⟩
  rcases yrun (yis_ok xtm53_k) hA Hs Ho HC with ⟨q_, hq, h', K_, G_⟩ | ⟨q_, hq, h', K_, G_⟩
  · have e_ := List.mem_singleton.mp hq
    subst e_
    exact ⟨h', yfr_sm K_.2.2.2 hs K_.1 (ywa_s xtm53_w List.mem_cons_self), ⟨bpat_of (K_.2.1 _ List.mem_cons_self), fun a_ j_ n0_ => yfr_bp K_.2.2.2 (List.forall_mem_cons.mpr ⟨fun e_ => n0_ ⟨e_.1.symm, e_.2.symm⟩, fun q_ hq => absurd hq List.not_mem_nil⟩), G_⟩⟩
  · cases hq
-- xtm52: 37 steps, 1 ends, 0 returns
def xtm52_L : List (Nat × Nat × Nat) := [(1000, 6, 2), (1001, 20, 12)]
def xtm52_O : yO := [(152, .int 2, .arg 302), (152, .int 0, .index 1000), (1000, .int 1, .arg 300), (1000, .int 0, .index 1001), (1001, .sub (.add (.arg 302) (.int 1)) (.int 1), .int 52)]
def xtm52_A : yA := (yZ xtm52_L, [(.sub (.add (.arg 302) (.int 1)) (.int 1), 12)], [], [], [])
def xtm52_C : List xB := [(.lt, .arg 302, .arg 300, true), (.le, .arg 1, .int 12, true)]
def xtm52_ss : List yS := [(45, [(2, .int 52), (0, .index 152), (1, .arg 1)], [.add (.arg 1) (.int 1), .index 152], [(152, .int 2, .add (.arg 302) (.int 1)), (152, .int 0, .index 1000), (1000, .int 1, .arg 300), (1000, .int 0, .index 1001), (1001, .sub (.add (.arg 302) (.int 1)) (.int 1), .int 52)], [(.lt, .arg 302, .arg 300, true), (.le, .arg 1, .int 12, true)], [(152, .int 2)])]
def xtm52_rs : List yR := []
theorem xtm52_w : ywa xtm52_A xtm52_ss xtm52_rs = true := by decide +kernel
theorem xtm52_k : yis (yev xtm52_A 3000 60 8 [45] (0, [(0, .index 152), (1, .arg 1)], [], xtm52_O, xtm52_C, [])) xtm52_ss xtm52_rs = true := by decide +kernel
def xtm52_r (v1_ v300 v302 : Int32) (k_ : Nat) : Value := bif Nat.beq k_ 1 then .int v1_ else (bif Nat.beq k_ 300 then .int v300 else (bif Nat.beq k_ 302 then .int v302 else (.int 0)))
def xtm52_s (a1000 a1001 : Nat) (n_ : Nat) : Nat := bif Nat.beq n_ 1000 then a1000 else (bif Nat.beq n_ 1001 then a1001 else (0))
theorem xtm52 {h_ : xH} {a1000 a1001 : Nat} {v1_ v300 v302 : Int32} (hs : sHp h_) (k1000 : bcq h_ a1000 6 2) (k1001 : bcq h_ a1001 20 12) (o0_ : bpat h_ 152 2 = some (.int v302)) (o1 : bpat h_ 152 0 = some (.index a1000)) (o2 : bpat h_ a1000 1 = some (.int v300)) (o3_ : bpat h_ a1000 0 = some (.index a1001)) (o4_ : bpat h_ a1001 (((v302 + (1 : Int32)) - (1 : Int32))).toInt.toNat = some (.int (52 : Int32))) (b0 : 0 ≤ (((v302 + (1 : Int32)) - (1 : Int32))).toInt ∧ (((v302 + (1 : Int32)) - (1 : Int32))).toInt < 12) (c0_ : v302.toInt < v300.toInt) (c1_ : v1_.toInt ≤ (12 : Int32).toInt) : ∃ h', ysm h_ h' ∧ (((bpat h' 152 2 = some (.int (v302 + (1 : Int32)))) ∧ (∀ a_ j_ : Nat, ¬ (a_ = 152 ∧ j_ = 2) → bpat h' a_ j_ = bpat h_ a_ j_) ∧ (bldD 60 8 0 [(0, .index 152), (1, .int v1_)] [] h_ 45 [(2, .int (52 : Int32)), (0, .index 152), (1, .int v1_)] [.int (v1_ + (1 : Int32)), .index 152] h'))) := by
  have hA : yas xtm52_A (xtm52_r v1_ v300 v302) (yg (xtm52_s a1000 a1001)) := ⟨List.forall_mem_cons.mpr ⟨b0, fun q_ hq => absurd hq List.not_mem_nil⟩, fun q_ hq => absurd hq List.not_mem_nil, fun q_ hq => absurd hq List.not_mem_nil, fun n_ hn => yg_lo hn, fun q_ hq => absurd hq List.not_mem_nil⟩
  have Hs : ysh xtm52_A.1 (yg (xtm52_s a1000 a1001)) h_ := ysh_of2 hs (List.forall_mem_cons.mpr ⟨⟨by decide, k1000⟩, List.forall_mem_cons.mpr ⟨⟨by decide, k1001⟩, fun q_ hq => absurd hq List.not_mem_nil⟩⟩)
  have Ho : ymem (xtm52_r v1_ v300 v302) (yg (xtm52_s a1000 a1001)) xtm52_O h_ := List.forall_mem_cons.mpr ⟨bpat_some o0_, List.forall_mem_cons.mpr ⟨bpat_some o1, List.forall_mem_cons.mpr ⟨bpat_some o2, List.forall_mem_cons.mpr ⟨bpat_some o3_, List.forall_mem_cons.mpr ⟨bpat_some o4_, fun q_ hq => absurd hq List.not_mem_nil⟩⟩⟩⟩⟩
  have HC : ∀ q_ ∈ xtm52_C, xhold (xtm52_r v1_ v300 v302) q_ := List.forall_mem_cons.mpr ⟨xh_ltT c0_, List.forall_mem_cons.mpr ⟨xh_leT c1_, fun q_ hq => absurd hq List.not_mem_nil⟩⟩
  rcases yrun (yis_ok xtm52_k) hA Hs Ho HC with ⟨q_, hq, h', K_, G_⟩ | ⟨q_, hq, h', K_, G_⟩
  · have e_ := List.mem_singleton.mp hq
    subst e_
    exact ⟨h', yfr_sm K_.2.2.2 hs K_.1 (ywa_s xtm52_w List.mem_cons_self), ⟨bpat_of (K_.2.1 _ List.mem_cons_self), fun a_ j_ n0_ => yfr_bp K_.2.2.2 (List.forall_mem_cons.mpr ⟨fun e_ => n0_ ⟨e_.1.symm, e_.2.symm⟩, fun q_ hq => absurd hq List.not_mem_nil⟩), G_⟩⟩
  · cases hq
-- xtm53r0: 4 steps, 0 ends, 1 returns
def xtm53r0_L : List (Nat × Nat × Nat) := []
def xtm53r0_O : yO := []
def xtm53r0_A : yA := (yZ xtm53r0_L, [], [], [], [])
def xtm53r0_C : List xB := []
def xtm53r0_ss : List yS := []
def xtm53r0_rs : List yR := [(some (.int 1), [], [], [])]
theorem xtm53r0_w : ywa xtm53r0_A xtm53r0_ss xtm53r0_rs = true := by decide +kernel
theorem xtm53r0_k : yis (yev xtm53r0_A 3000 60 8 [] (26, [(2, .int 53), (0, .index 152), (1, .arg 1)], [.int 0], xtm53r0_O, xtm53r0_C, [])) xtm53r0_ss xtm53r0_rs = true := by decide +kernel
def xtm53r0_r (v1_ : Int32) (k_ : Nat) : Value := bif Nat.beq k_ 1 then .int v1_ else (.int 0)
def xtm53r0_s (n_ : Nat) : Nat := 0
theorem xtm53r0 {h_ : xH} {v1_ : Int32} (hs : sHp h_) : ∃ h', ysm h_ h' ∧ (((∀ a_ j_ : Nat, bpat h' a_ j_ = bpat h_ a_ j_) ∧ (∀ D_, 60 ≤ D_ → xrun D_ 8 26 [(2, .int (53 : Int32)), (0, .index 152), (1, .int v1_)] [.int (0 : Int32)] h_ (some (.int (1 : Int32)), h', [])))) := by
  have hA : yas xtm53r0_A (xtm53r0_r v1_) (yg xtm53r0_s) := ⟨fun q_ hq => absurd hq List.not_mem_nil, fun q_ hq => absurd hq List.not_mem_nil, fun q_ hq => absurd hq List.not_mem_nil, fun n_ hn => yg_lo hn, fun q_ hq => absurd hq List.not_mem_nil⟩
  have Hs : ysh xtm53r0_A.1 (yg xtm53r0_s) h_ := ysh_of2 hs (fun q_ hq => absurd hq List.not_mem_nil)
  have Ho : ymem (xtm53r0_r v1_) (yg xtm53r0_s) xtm53r0_O h_ := fun q_ hq => absurd hq List.not_mem_nil
  have HC : ∀ q_ ∈ xtm53r0_C, xhold (xtm53r0_r v1_) q_ := fun q_ hq => absurd hq List.not_mem_nil
  rcases yrun (yis_ok xtm53r0_k) hA Hs Ho HC with ⟨q_, hq, h', K_, G_⟩ | ⟨q_, hq, h', K_, G_⟩
  · cases hq
  · have e_ := List.mem_singleton.mp hq
    subst e_
    exact ⟨h', yfr_sm K_.2.2.2 hs K_.1 (ywa_r xtm53r0_w List.mem_cons_self), ⟨fun a_ j_ => yfr_bp K_.2.2.2 (fun q_ hq => absurd hq List.not_mem_nil), G_⟩⟩
-- xtm53r1: 3 steps, 0 ends, 1 returns
def xtm53r1_L : List (Nat × Nat × Nat) := []
def xtm53r1_O : yO := []
def xtm53r1_A : yA := (yZ xtm53r1_L, [], [], [], [])
def xtm53r1_C : List xB := []
def xtm53r1_ss : List yS := []
def xtm53r1_rs : List yR := [(some (.int 0), [], [], [])]
theorem xtm53r1_w : ywa xtm53r1_A xtm53r1_ss xtm53r1_rs = true := by decide +kernel
theorem xtm53r1_k : yis (yev xtm53r1_A 3000 60 8 [] (26, [(2, .int 53), (0, .index 152), (1, .arg 1)], [.int 1], xtm53r1_O, xtm53r1_C, [])) xtm53r1_ss xtm53r1_rs = true := by decide +kernel
def xtm53r1_r (v1_ : Int32) (k_ : Nat) : Value := bif Nat.beq k_ 1 then .int v1_ else (.int 0)
def xtm53r1_s (n_ : Nat) : Nat := 0
theorem xtm53r1 {h_ : xH} {v1_ : Int32} (hs : sHp h_) : ∃ h', ysm h_ h' ∧ (((∀ a_ j_ : Nat, bpat h' a_ j_ = bpat h_ a_ j_) ∧ (∀ D_, 60 ≤ D_ → xrun D_ 8 26 [(2, .int (53 : Int32)), (0, .index 152), (1, .int v1_)] [.int (1 : Int32)] h_ (some (.int (0 : Int32)), h', [])))) := by
  have hA : yas xtm53r1_A (xtm53r1_r v1_) (yg xtm53r1_s) := ⟨fun q_ hq => absurd hq List.not_mem_nil, fun q_ hq => absurd hq List.not_mem_nil, fun q_ hq => absurd hq List.not_mem_nil, fun n_ hn => yg_lo hn, fun q_ hq => absurd hq List.not_mem_nil⟩
  have Hs : ysh xtm53r1_A.1 (yg xtm53r1_s) h_ := ysh_of2 hs (fun q_ hq => absurd hq List.not_mem_nil)
  have Ho : ymem (xtm53r1_r v1_) (yg xtm53r1_s) xtm53r1_O h_ := fun q_ hq => absurd hq List.not_mem_nil
  have HC : ∀ q_ ∈ xtm53r1_C, xhold (xtm53r1_r v1_) q_ := fun q_ hq => absurd hq List.not_mem_nil
  rcases yrun (yis_ok xtm53r1_k) hA Hs Ho HC with ⟨q_, hq, h', K_, G_⟩ | ⟨q_, hq, h', K_, G_⟩
  · cases hq
  · have e_ := List.mem_singleton.mp hq
    subst e_
    exact ⟨h', yfr_sm K_.2.2.2 hs K_.1 (ywa_r xtm53r1_w List.mem_cons_self), ⟨fun a_ j_ => yfr_bp K_.2.2.2 (fun q_ hq => absurd hq List.not_mem_nil), G_⟩⟩
-- xtm52a: 5 steps, 1 ends, 0 returns
def xtm52a_L : List (Nat × Nat × Nat) := []
def xtm52a_O : yO := []
def xtm52a_A : yA := (yZ xtm52a_L, [], [], [], [])
def xtm52a_C : List xB := []
def xtm52a_ss : List yS := [(53, [(3, .arg 8), (2, .int 52), (0, .index 152), (1, .arg 1)], [.add (.arg 1) (.int 1), .index 152], [], [], [])]
def xtm52a_rs : List yR := []
theorem xtm52a_w : ywa xtm52a_A xtm52a_ss xtm52a_rs = true := by decide +kernel
theorem xtm52a_k : yis (yev xtm52a_A 3000 60 8 [53] (48, [(2, .int 52), (0, .index 152), (1, .arg 1)], [.arg 8], xtm52a_O, xtm52a_C, [])) xtm52a_ss xtm52a_rs = true := by decide +kernel
def xtm52a_r (v1_ v8 : Int32) (k_ : Nat) : Value := bif Nat.beq k_ 1 then .int v1_ else (bif Nat.beq k_ 8 then .int v8 else (.int 0))
def xtm52a_s (n_ : Nat) : Nat := 0
theorem xtm52a {h_ : xH} {v1_ v8 : Int32} (hs : sHp h_) : ∃ h', ysm h_ h' ∧ (((∀ a_ j_ : Nat, bpat h' a_ j_ = bpat h_ a_ j_) ∧ (bldD 60 8 48 [(2, .int (52 : Int32)), (0, .index 152), (1, .int v1_)] [.int v8] h_ 53 [(3, .int v8), (2, .int (52 : Int32)), (0, .index 152), (1, .int v1_)] [.int (v1_ + (1 : Int32)), .index 152] h'))) := by
  have hA : yas xtm52a_A (xtm52a_r v1_ v8) (yg xtm52a_s) := ⟨fun q_ hq => absurd hq List.not_mem_nil, fun q_ hq => absurd hq List.not_mem_nil, fun q_ hq => absurd hq List.not_mem_nil, fun n_ hn => yg_lo hn, fun q_ hq => absurd hq List.not_mem_nil⟩
  have Hs : ysh xtm52a_A.1 (yg xtm52a_s) h_ := ysh_of2 hs (fun q_ hq => absurd hq List.not_mem_nil)
  have Ho : ymem (xtm52a_r v1_ v8) (yg xtm52a_s) xtm52a_O h_ := fun q_ hq => absurd hq List.not_mem_nil
  have HC : ∀ q_ ∈ xtm52a_C, xhold (xtm52a_r v1_ v8) q_ := fun q_ hq => absurd hq List.not_mem_nil
  rcases yrun (yis_ok xtm52a_k) hA Hs Ho HC with ⟨q_, hq, h', K_, G_⟩ | ⟨q_, hq, h', K_, G_⟩
  · have e_ := List.mem_singleton.mp hq
    subst e_
    exact ⟨h', yfr_sm K_.2.2.2 hs K_.1 (ywa_s xtm52a_w List.mem_cons_self), ⟨fun a_ j_ => yfr_bp K_.2.2.2 (fun q_ hq => absurd hq List.not_mem_nil), G_⟩⟩
  · cases hq
-- xtm52r00: 6 steps, 0 ends, 1 returns
def xtm52r00_L : List (Nat × Nat × Nat) := []
def xtm52r00_O : yO := []
def xtm52r00_A : yA := (yZ xtm52r00_L, [], [], [], [])
def xtm52r00_C : List xB := []
def xtm52r00_ss : List yS := []
def xtm52r00_rs : List yR := [(some (.int 1), [], [], [])]
theorem xtm52r00_w : ywa xtm52r00_A xtm52r00_ss xtm52r00_rs = true := by decide +kernel
theorem xtm52r00_k : yis (yev xtm52r00_A 3000 60 8 [] (56, [(3, .int 0), (2, .int 52), (0, .index 152), (1, .arg 1)], [.int 0], xtm52r00_O, xtm52r00_C, [])) xtm52r00_ss xtm52r00_rs = true := by decide +kernel
def xtm52r00_r (v1_ : Int32) (k_ : Nat) : Value := bif Nat.beq k_ 1 then .int v1_ else (.int 0)
def xtm52r00_s (n_ : Nat) : Nat := 0
theorem xtm52r00 {h_ : xH} {v1_ : Int32} (hs : sHp h_) : ∃ h', ysm h_ h' ∧ (((∀ a_ j_ : Nat, bpat h' a_ j_ = bpat h_ a_ j_) ∧ (∀ D_, 60 ≤ D_ → xrun D_ 8 56 [(3, .int (0 : Int32)), (2, .int (52 : Int32)), (0, .index 152), (1, .int v1_)] [.int (0 : Int32)] h_ (some (.int (1 : Int32)), h', [])))) := by
  have hA : yas xtm52r00_A (xtm52r00_r v1_) (yg xtm52r00_s) := ⟨fun q_ hq => absurd hq List.not_mem_nil, fun q_ hq => absurd hq List.not_mem_nil, fun q_ hq => absurd hq List.not_mem_nil, fun n_ hn => yg_lo hn, fun q_ hq => absurd hq List.not_mem_nil⟩
  have Hs : ysh xtm52r00_A.1 (yg xtm52r00_s) h_ := ysh_of2 hs (fun q_ hq => absurd hq List.not_mem_nil)
  have Ho : ymem (xtm52r00_r v1_) (yg xtm52r00_s) xtm52r00_O h_ := fun q_ hq => absurd hq List.not_mem_nil
  have HC : ∀ q_ ∈ xtm52r00_C, xhold (xtm52r00_r v1_) q_ := fun q_ hq => absurd hq List.not_mem_nil
  rcases yrun (yis_ok xtm52r00_k) hA Hs Ho HC with ⟨q_, hq, h', K_, G_⟩ | ⟨q_, hq, h', K_, G_⟩
  · cases hq
  · have e_ := List.mem_singleton.mp hq
    subst e_
    exact ⟨h', yfr_sm K_.2.2.2 hs K_.1 (ywa_r xtm52r00_w List.mem_cons_self), ⟨fun a_ j_ => yfr_bp K_.2.2.2 (fun q_ hq => absurd hq List.not_mem_nil), G_⟩⟩
-- xtm52r01: 6 steps, 0 ends, 1 returns
def xtm52r01_L : List (Nat × Nat × Nat) := []
def xtm52r01_O : yO := []
def xtm52r01_A : yA := (yZ xtm52r01_L, [], [], [], [])
def xtm52r01_C : List xB := []
def xtm52r01_ss : List yS := []
def xtm52r01_rs : List yR := [(some (.int 1), [], [], [])]
theorem xtm52r01_w : ywa xtm52r01_A xtm52r01_ss xtm52r01_rs = true := by decide +kernel
theorem xtm52r01_k : yis (yev xtm52r01_A 3000 60 8 [] (56, [(3, .int 0), (2, .int 52), (0, .index 152), (1, .arg 1)], [.int 1], xtm52r01_O, xtm52r01_C, [])) xtm52r01_ss xtm52r01_rs = true := by decide +kernel
def xtm52r01_r (v1_ : Int32) (k_ : Nat) : Value := bif Nat.beq k_ 1 then .int v1_ else (.int 0)
def xtm52r01_s (n_ : Nat) : Nat := 0
theorem xtm52r01 {h_ : xH} {v1_ : Int32} (hs : sHp h_) : ∃ h', ysm h_ h' ∧ (((∀ a_ j_ : Nat, bpat h' a_ j_ = bpat h_ a_ j_) ∧ (∀ D_, 60 ≤ D_ → xrun D_ 8 56 [(3, .int (0 : Int32)), (2, .int (52 : Int32)), (0, .index 152), (1, .int v1_)] [.int (1 : Int32)] h_ (some (.int (1 : Int32)), h', [])))) := by
  have hA : yas xtm52r01_A (xtm52r01_r v1_) (yg xtm52r01_s) := ⟨fun q_ hq => absurd hq List.not_mem_nil, fun q_ hq => absurd hq List.not_mem_nil, fun q_ hq => absurd hq List.not_mem_nil, fun n_ hn => yg_lo hn, fun q_ hq => absurd hq List.not_mem_nil⟩
  have Hs : ysh xtm52r01_A.1 (yg xtm52r01_s) h_ := ysh_of2 hs (fun q_ hq => absurd hq List.not_mem_nil)
  have Ho : ymem (xtm52r01_r v1_) (yg xtm52r01_s) xtm52r01_O h_ := fun q_ hq => absurd hq List.not_mem_nil
  have HC : ∀ q_ ∈ xtm52r01_C, xhold (xtm52r01_r v1_) q_ := fun q_ hq => absurd hq List.not_mem_nil
  rcases yrun (yis_ok xtm52r01_k) hA Hs Ho HC with ⟨q_, hq, h', K_, G_⟩ | ⟨q_, hq, h', K_, G_⟩
  · cases hq
  · have e_ := List.mem_singleton.mp hq
    subst e_
    exact ⟨h', yfr_sm K_.2.2.2 hs K_.1 (ywa_r xtm52r01_w List.mem_cons_self), ⟨fun a_ j_ => yfr_bp K_.2.2.2 (fun q_ hq => absurd hq List.not_mem_nil), G_⟩⟩
-- xtm52r10: 7 steps, 0 ends, 1 returns
def xtm52r10_L : List (Nat × Nat × Nat) := []
def xtm52r10_O : yO := []
def xtm52r10_A : yA := (yZ xtm52r10_L, [], [], [], [])
def xtm52r10_C : List xB := []
def xtm52r10_ss : List yS := []
def xtm52r10_rs : List yR := [(some (.int 0), [], [], [])]
theorem xtm52r10_w : ywa xtm52r10_A xtm52r10_ss xtm52r10_rs = true := by decide +kernel
theorem xtm52r10_k : yis (yev xtm52r10_A 3000 60 8 [] (56, [(3, .int 1), (2, .int 52), (0, .index 152), (1, .arg 1)], [.int 0], xtm52r10_O, xtm52r10_C, [])) xtm52r10_ss xtm52r10_rs = true := by decide +kernel
def xtm52r10_r (v1_ : Int32) (k_ : Nat) : Value := bif Nat.beq k_ 1 then .int v1_ else (.int 0)
def xtm52r10_s (n_ : Nat) : Nat := 0
theorem xtm52r10 {h_ : xH} {v1_ : Int32} (hs : sHp h_) : ∃ h', ysm h_ h' ∧ (((∀ a_ j_ : Nat, bpat h' a_ j_ = bpat h_ a_ j_) ∧ (∀ D_, 60 ≤ D_ → xrun D_ 8 56 [(3, .int (1 : Int32)), (2, .int (52 : Int32)), (0, .index 152), (1, .int v1_)] [.int (0 : Int32)] h_ (some (.int (0 : Int32)), h', [])))) := by
  have hA : yas xtm52r10_A (xtm52r10_r v1_) (yg xtm52r10_s) := ⟨fun q_ hq => absurd hq List.not_mem_nil, fun q_ hq => absurd hq List.not_mem_nil, fun q_ hq => absurd hq List.not_mem_nil, fun n_ hn => yg_lo hn, fun q_ hq => absurd hq List.not_mem_nil⟩
  have Hs : ysh xtm52r10_A.1 (yg xtm52r10_s) h_ := ysh_of2 hs (fun q_ hq => absurd hq List.not_mem_nil)
  have Ho : ymem (xtm52r10_r v1_) (yg xtm52r10_s) xtm52r10_O h_ := fun q_ hq => absurd hq List.not_mem_nil
  have HC : ∀ q_ ∈ xtm52r10_C, xhold (xtm52r10_r v1_) q_ := fun q_ hq => absurd hq List.not_mem_nil
  rcases yrun (yis_ok xtm52r10_k) hA Hs Ho HC with ⟨q_, hq, h', K_, G_⟩ | ⟨q_, hq, h', K_, G_⟩
  · cases hq
  · have e_ := List.mem_singleton.mp hq
    subst e_
    exact ⟨h', yfr_sm K_.2.2.2 hs K_.1 (ywa_r xtm52r10_w List.mem_cons_self), ⟨fun a_ j_ => yfr_bp K_.2.2.2 (fun q_ hq => absurd hq List.not_mem_nil), G_⟩⟩
-- xtm52r11: 8 steps, 0 ends, 1 returns
def xtm52r11_L : List (Nat × Nat × Nat) := []
def xtm52r11_O : yO := []
def xtm52r11_A : yA := (yZ xtm52r11_L, [], [], [], [])
def xtm52r11_C : List xB := []
def xtm52r11_ss : List yS := []
def xtm52r11_rs : List yR := [(some (.int 1), [], [], [])]
theorem xtm52r11_w : ywa xtm52r11_A xtm52r11_ss xtm52r11_rs = true := by decide +kernel
theorem xtm52r11_k : yis (yev xtm52r11_A 3000 60 8 [] (56, [(3, .int 1), (2, .int 52), (0, .index 152), (1, .arg 1)], [.int 1], xtm52r11_O, xtm52r11_C, [])) xtm52r11_ss xtm52r11_rs = true := by decide +kernel
def xtm52r11_r (v1_ : Int32) (k_ : Nat) : Value := bif Nat.beq k_ 1 then .int v1_ else (.int 0)
def xtm52r11_s (n_ : Nat) : Nat := 0
theorem xtm52r11 {h_ : xH} {v1_ : Int32} (hs : sHp h_) : ∃ h', ysm h_ h' ∧ (((∀ a_ j_ : Nat, bpat h' a_ j_ = bpat h_ a_ j_) ∧ (∀ D_, 60 ≤ D_ → xrun D_ 8 56 [(3, .int (1 : Int32)), (2, .int (52 : Int32)), (0, .index 152), (1, .int v1_)] [.int (1 : Int32)] h_ (some (.int (1 : Int32)), h', [])))) := by
  have hA : yas xtm52r11_A (xtm52r11_r v1_) (yg xtm52r11_s) := ⟨fun q_ hq => absurd hq List.not_mem_nil, fun q_ hq => absurd hq List.not_mem_nil, fun q_ hq => absurd hq List.not_mem_nil, fun n_ hn => yg_lo hn, fun q_ hq => absurd hq List.not_mem_nil⟩
  have Hs : ysh xtm52r11_A.1 (yg xtm52r11_s) h_ := ysh_of2 hs (fun q_ hq => absurd hq List.not_mem_nil)
  have Ho : ymem (xtm52r11_r v1_) (yg xtm52r11_s) xtm52r11_O h_ := fun q_ hq => absurd hq List.not_mem_nil
  have HC : ∀ q_ ∈ xtm52r11_C, xhold (xtm52r11_r v1_) q_ := fun q_ hq => absurd hq List.not_mem_nil
  rcases yrun (yis_ok xtm52r11_k) hA Hs Ho HC with ⟨q_, hq, h', K_, G_⟩ | ⟨q_, hq, h', K_, G_⟩
  · cases hq
  · have e_ := List.mem_singleton.mp hq
    subst e_
    exact ⟨h', yfr_sm K_.2.2.2 hs K_.1 (ywa_r xtm52r11_w List.mem_cons_self), ⟨fun a_ j_ => yfr_bp K_.2.2.2 (fun q_ hq => absurd hq List.not_mem_nil), G_⟩⟩
-- xtmV: 34 steps, 1 ends, 0 returns
def xtmV_L : List (Nat × Nat × Nat) := [(1000, 6, 2), (1001, 20, 12)]
def xtmV_O : yO := [(152, .int 2, .arg 302), (152, .int 0, .index 1000), (1000, .int 1, .arg 300), (1000, .int 0, .index 1001), (1001, .sub (.add (.arg 302) (.int 1)) (.int 1), .arg 301)]
def xtmV_A : yA := (yZ xtmV_L, [(.sub (.add (.arg 302) (.int 1)) (.int 1), 12)], [], [], [])
def xtmV_C : List xB := [(.eq, .arg 301, .int 52, false), (.eq, .arg 301, .int 53, false), (.lt, .arg 302, .arg 300, true), (.le, .arg 1, .int 12, true)]
def xtmV_ss : List yS := [(74, [(2, .arg 301), (0, .index 152), (1, .arg 1)], [.index 152], [(152, .int 2, .add (.arg 302) (.int 1)), (152, .int 0, .index 1000), (1000, .int 1, .arg 300), (1000, .int 0, .index 1001), (1001, .sub (.add (.arg 302) (.int 1)) (.int 1), .arg 301)], [(.eq, .arg 301, .int 52, false), (.eq, .arg 301, .int 53, false), (.lt, .arg 302, .arg 300, true), (.le, .arg 1, .int 12, true)], [(152, .int 2)])]
def xtmV_rs : List yR := []
theorem xtmV_w : ywa xtmV_A xtmV_ss xtmV_rs = true := by decide +kernel
theorem xtmV_k : yis (yev xtmV_A 3000 60 8 [74] (0, [(0, .index 152), (1, .arg 1)], [], xtmV_O, xtmV_C, [])) xtmV_ss xtmV_rs = true := by decide +kernel
def xtmV_r (v1_ v300 v301 v302 : Int32) (k_ : Nat) : Value := bif Nat.beq k_ 1 then .int v1_ else (bif Nat.beq k_ 300 then .int v300 else (bif Nat.beq k_ 301 then .int v301 else (bif Nat.beq k_ 302 then .int v302 else (.int 0))))
def xtmV_s (a1000 a1001 : Nat) (n_ : Nat) : Nat := bif Nat.beq n_ 1000 then a1000 else (bif Nat.beq n_ 1001 then a1001 else (0))
theorem xtmV {h_ : xH} {a1000 a1001 : Nat} {v1_ v300 v301 v302 : Int32} (hs : sHp h_) (k1000 : bcq h_ a1000 6 2) (k1001 : bcq h_ a1001 20 12) (o0_ : bpat h_ 152 2 = some (.int v302)) (o1 : bpat h_ 152 0 = some (.index a1000)) (o2 : bpat h_ a1000 1 = some (.int v300)) (o3_ : bpat h_ a1000 0 = some (.index a1001)) (o4_ : bpat h_ a1001 (((v302 + (1 : Int32)) - (1 : Int32))).toInt.toNat = some (.int v301)) (b0 : 0 ≤ (((v302 + (1 : Int32)) - (1 : Int32))).toInt ∧ (((v302 + (1 : Int32)) - (1 : Int32))).toInt < 12) (c0_ : ¬ v301 = (52 : Int32)) (c1_ : ¬ v301 = (53 : Int32)) (c2_ : v302.toInt < v300.toInt) (c3_ : v1_.toInt ≤ (12 : Int32).toInt) : ∃ h', ysm h_ h' ∧ (((bpat h' 152 2 = some (.int (v302 + (1 : Int32)))) ∧ (∀ a_ j_ : Nat, ¬ (a_ = 152 ∧ j_ = 2) → bpat h' a_ j_ = bpat h_ a_ j_) ∧ (bldD 60 8 0 [(0, .index 152), (1, .int v1_)] [] h_ 74 [(2, .int v301), (0, .index 152), (1, .int v1_)] [.index 152] h'))) := by
  have hA : yas xtmV_A (xtmV_r v1_ v300 v301 v302) (yg (xtmV_s a1000 a1001)) := ⟨List.forall_mem_cons.mpr ⟨b0, fun q_ hq => absurd hq List.not_mem_nil⟩, fun q_ hq => absurd hq List.not_mem_nil, fun q_ hq => absurd hq List.not_mem_nil, fun n_ hn => yg_lo hn, fun q_ hq => absurd hq List.not_mem_nil⟩
  have Hs : ysh xtmV_A.1 (yg (xtmV_s a1000 a1001)) h_ := ysh_of2 hs (List.forall_mem_cons.mpr ⟨⟨by decide, k1000⟩, List.forall_mem_cons.mpr ⟨⟨by decide, k1001⟩, fun q_ hq => absurd hq List.not_mem_nil⟩⟩)
  have Ho : ymem (xtmV_r v1_ v300 v301 v302) (yg (xtmV_s a1000 a1001)) xtmV_O h_ := List.forall_mem_cons.mpr ⟨bpat_some o0_, List.forall_mem_cons.mpr ⟨bpat_some o1, List.forall_mem_cons.mpr ⟨bpat_some o2, List.forall_mem_cons.mpr ⟨bpat_some o3_, List.forall_mem_cons.mpr ⟨bpat_some o4_, fun q_ hq => absurd hq List.not_mem_nil⟩⟩⟩⟩⟩
  have HC : ∀ q_ ∈ xtmV_C, xhold (xtmV_r v1_ v300 v301 v302) q_ := List.forall_mem_cons.mpr ⟨xh_eqF2 c0_, List.forall_mem_cons.mpr ⟨xh_eqF2 c1_, List.forall_mem_cons.mpr ⟨xh_ltT c2_, List.forall_mem_cons.mpr ⟨xh_leT c3_, fun q_ hq => absurd hq List.not_mem_nil⟩⟩⟩⟩
  rcases yrun (yis_ok xtmV_k) hA Hs Ho HC with ⟨q_, hq, h', K_, G_⟩ | ⟨q_, hq, h', K_, G_⟩
  · have e_ := List.mem_singleton.mp hq
    subst e_
    exact ⟨h', yfr_sm K_.2.2.2 hs K_.1 (ywa_s xtmV_w List.mem_cons_self), ⟨bpat_of (K_.2.1 _ List.mem_cons_self), fun a_ j_ n0_ => yfr_bp K_.2.2.2 (List.forall_mem_cons.mpr ⟨fun e_ => n0_ ⟨e_.1.symm, e_.2.symm⟩, fun q_ hq => absurd hq List.not_mem_nil⟩), G_⟩⟩
  · cases hq
-- xtmS: 3 steps, 1 ends, 0 returns
def xtmS_L : List (Nat × Nat × Nat) := []
def xtmS_O : yO := []
def xtmS_A : yA := (yZ xtmS_L, [], [], [], [])
def xtmS_C : List xB := [(.lt, .arg 8, .int 0, false)]
def xtmS_ss : List yS := [(82, [(2, .arg 2), (0, .index 152), (1, .arg 1)], [.arg 2, .index 152], [], [(.lt, .arg 8, .int 0, false)], [])]
def xtmS_rs : List yR := []
theorem xtmS_w : ywa xtmS_A xtmS_ss xtmS_rs = true := by decide +kernel
theorem xtmS_k : yis (yev xtmS_A 3000 60 8 [82] (77, [(2, .arg 2), (0, .index 152), (1, .arg 1)], [.arg 8], xtmS_O, xtmS_C, [])) xtmS_ss xtmS_rs = true := by decide +kernel
def xtmS_r (v1_ v2 v8 : Int32) (k_ : Nat) : Value := bif Nat.beq k_ 1 then .int v1_ else (bif Nat.beq k_ 2 then .int v2 else (bif Nat.beq k_ 8 then .int v8 else (.int 0)))
def xtmS_s (n_ : Nat) : Nat := 0
theorem xtmS {h_ : xH} {v1_ v2 v8 : Int32} (hs : sHp h_) (c0_ : (0 : Int32).toInt ≤ v8.toInt) : ∃ h', ysm h_ h' ∧ (((∀ a_ j_ : Nat, bpat h' a_ j_ = bpat h_ a_ j_) ∧ (bldD 60 8 77 [(2, .int v2), (0, .index 152), (1, .int v1_)] [.int v8] h_ 82 [(2, .int v2), (0, .index 152), (1, .int v1_)] [.int v2, .index 152] h'))) := by
  have hA : yas xtmS_A (xtmS_r v1_ v2 v8) (yg xtmS_s) := ⟨fun q_ hq => absurd hq List.not_mem_nil, fun q_ hq => absurd hq List.not_mem_nil, fun q_ hq => absurd hq List.not_mem_nil, fun n_ hn => yg_lo hn, fun q_ hq => absurd hq List.not_mem_nil⟩
  have Hs : ysh xtmS_A.1 (yg xtmS_s) h_ := ysh_of2 hs (fun q_ hq => absurd hq List.not_mem_nil)
  have Ho : ymem (xtmS_r v1_ v2 v8) (yg xtmS_s) xtmS_O h_ := fun q_ hq => absurd hq List.not_mem_nil
  have HC : ∀ q_ ∈ xtmS_C, xhold (xtmS_r v1_ v2 v8) q_ := List.forall_mem_cons.mpr ⟨xh_ltF c0_, fun q_ hq => absurd hq List.not_mem_nil⟩
  rcases yrun (yis_ok xtmS_k) hA Hs Ho HC with ⟨q_, hq, h', K_, G_⟩ | ⟨q_, hq, h', K_, G_⟩
  · have e_ := List.mem_singleton.mp hq
    subst e_
    exact ⟨h', yfr_sm K_.2.2.2 hs K_.1 (ywa_s xtmS_w List.mem_cons_self), ⟨fun a_ j_ => yfr_bp K_.2.2.2 (fun q_ hq => absurd hq List.not_mem_nil), G_⟩⟩
  · cases hq
-- xtmS0: 3 steps, 0 ends, 1 returns
def xtmS0_L : List (Nat × Nat × Nat) := []
def xtmS0_O : yO := []
def xtmS0_A : yA := (yZ xtmS0_L, [], [], [], [])
def xtmS0_C : List xB := [(.lt, .arg 8, .int 0, true)]
def xtmS0_ss : List yS := []
def xtmS0_rs : List yR := [(some (.int 0), [], [(.lt, .arg 8, .int 0, true)], [])]
theorem xtmS0_w : ywa xtmS0_A xtmS0_ss xtmS0_rs = true := by decide +kernel
theorem xtmS0_k : yis (yev xtmS0_A 3000 60 8 [] (77, [(2, .arg 2), (0, .index 152), (1, .arg 1)], [.arg 8], xtmS0_O, xtmS0_C, [])) xtmS0_ss xtmS0_rs = true := by decide +kernel
def xtmS0_r (v1_ v2 v8 : Int32) (k_ : Nat) : Value := bif Nat.beq k_ 1 then .int v1_ else (bif Nat.beq k_ 2 then .int v2 else (bif Nat.beq k_ 8 then .int v8 else (.int 0)))
def xtmS0_s (n_ : Nat) : Nat := 0
theorem xtmS0 {h_ : xH} {v1_ v2 v8 : Int32} (hs : sHp h_) (c0_ : v8.toInt < (0 : Int32).toInt) : ∃ h', ysm h_ h' ∧ (((∀ a_ j_ : Nat, bpat h' a_ j_ = bpat h_ a_ j_) ∧ (∀ D_, 60 ≤ D_ → xrun D_ 8 77 [(2, .int v2), (0, .index 152), (1, .int v1_)] [.int v8] h_ (some (.int (0 : Int32)), h', [])))) := by
  have hA : yas xtmS0_A (xtmS0_r v1_ v2 v8) (yg xtmS0_s) := ⟨fun q_ hq => absurd hq List.not_mem_nil, fun q_ hq => absurd hq List.not_mem_nil, fun q_ hq => absurd hq List.not_mem_nil, fun n_ hn => yg_lo hn, fun q_ hq => absurd hq List.not_mem_nil⟩
  have Hs : ysh xtmS0_A.1 (yg xtmS0_s) h_ := ysh_of2 hs (fun q_ hq => absurd hq List.not_mem_nil)
  have Ho : ymem (xtmS0_r v1_ v2 v8) (yg xtmS0_s) xtmS0_O h_ := fun q_ hq => absurd hq List.not_mem_nil
  have HC : ∀ q_ ∈ xtmS0_C, xhold (xtmS0_r v1_ v2 v8) q_ := List.forall_mem_cons.mpr ⟨xh_ltT c0_, fun q_ hq => absurd hq List.not_mem_nil⟩
  rcases yrun (yis_ok xtmS0_k) hA Hs Ho HC with ⟨q_, hq, h', K_, G_⟩ | ⟨q_, hq, h', K_, G_⟩
  · cases hq
  · have e_ := List.mem_singleton.mp hq
    subst e_
    exact ⟨h', yfr_sm K_.2.2.2 hs K_.1 (ywa_r xtmS0_w List.mem_cons_self), ⟨fun a_ j_ => yfr_bp K_.2.2.2 (fun q_ hq => absurd hq List.not_mem_nil), G_⟩⟩
-- xtmR0: 3 steps, 0 ends, 1 returns
def xtmR0_L : List (Nat × Nat × Nat) := []
def xtmR0_O : yO := []
def xtmR0_A : yA := (yZ xtmR0_L, [], [], [], [])
def xtmR0_C : List xB := []
def xtmR0_ss : List yS := []
def xtmR0_rs : List yR := [(some (.int 0), [], [], [])]
theorem xtmR0_w : ywa xtmR0_A xtmR0_ss xtmR0_rs = true := by decide +kernel
theorem xtmR0_k : yis (yev xtmR0_A 3000 60 8 [] (85, [(2, .arg 2), (0, .index 152), (1, .arg 1)], [.int 0], xtmR0_O, xtmR0_C, [])) xtmR0_ss xtmR0_rs = true := by decide +kernel
def xtmR0_r (v1_ v2 : Int32) (k_ : Nat) : Value := bif Nat.beq k_ 1 then .int v1_ else (bif Nat.beq k_ 2 then .int v2 else (.int 0))
def xtmR0_s (n_ : Nat) : Nat := 0
theorem xtmR0 {h_ : xH} {v1_ v2 : Int32} (hs : sHp h_) : ∃ h', ysm h_ h' ∧ (((∀ a_ j_ : Nat, bpat h' a_ j_ = bpat h_ a_ j_) ∧ (∀ D_, 60 ≤ D_ → xrun D_ 8 85 [(2, .int v2), (0, .index 152), (1, .int v1_)] [.int (0 : Int32)] h_ (some (.int (0 : Int32)), h', [])))) := by
  have hA : yas xtmR0_A (xtmR0_r v1_ v2) (yg xtmR0_s) := ⟨fun q_ hq => absurd hq List.not_mem_nil, fun q_ hq => absurd hq List.not_mem_nil, fun q_ hq => absurd hq List.not_mem_nil, fun n_ hn => yg_lo hn, fun q_ hq => absurd hq List.not_mem_nil⟩
  have Hs : ysh xtmR0_A.1 (yg xtmR0_s) h_ := ysh_of2 hs (fun q_ hq => absurd hq List.not_mem_nil)
  have Ho : ymem (xtmR0_r v1_ v2) (yg xtmR0_s) xtmR0_O h_ := fun q_ hq => absurd hq List.not_mem_nil
  have HC : ∀ q_ ∈ xtmR0_C, xhold (xtmR0_r v1_ v2) q_ := fun q_ hq => absurd hq List.not_mem_nil
  rcases yrun (yis_ok xtmR0_k) hA Hs Ho HC with ⟨q_, hq, h', K_, G_⟩ | ⟨q_, hq, h', K_, G_⟩
  · cases hq
  · have e_ := List.mem_singleton.mp hq
    subst e_
    exact ⟨h', yfr_sm K_.2.2.2 hs K_.1 (ywa_r xtmR0_w List.mem_cons_self), ⟨fun a_ j_ => yfr_bp K_.2.2.2 (fun q_ hq => absurd hq List.not_mem_nil), G_⟩⟩
-- xtmR1: 4 steps, 0 ends, 1 returns
def xtmR1_L : List (Nat × Nat × Nat) := []
def xtmR1_O : yO := []
def xtmR1_A : yA := (yZ xtmR1_L, [], [], [], [])
def xtmR1_C : List xB := []
def xtmR1_ss : List yS := []
def xtmR1_rs : List yR := [(some (.int 1), [], [], [])]
theorem xtmR1_w : ywa xtmR1_A xtmR1_ss xtmR1_rs = true := by decide +kernel
theorem xtmR1_k : yis (yev xtmR1_A 3000 60 8 [] (85, [(2, .arg 2), (0, .index 152), (1, .arg 1)], [.int 1], xtmR1_O, xtmR1_C, [])) xtmR1_ss xtmR1_rs = true := by decide +kernel
def xtmR1_r (v1_ v2 : Int32) (k_ : Nat) : Value := bif Nat.beq k_ 1 then .int v1_ else (bif Nat.beq k_ 2 then .int v2 else (.int 0))
def xtmR1_s (n_ : Nat) : Nat := 0
theorem xtmR1 {h_ : xH} {v1_ v2 : Int32} (hs : sHp h_) : ∃ h', ysm h_ h' ∧ (((∀ a_ j_ : Nat, bpat h' a_ j_ = bpat h_ a_ j_) ∧ (∀ D_, 60 ≤ D_ → xrun D_ 8 85 [(2, .int v2), (0, .index 152), (1, .int v1_)] [.int (1 : Int32)] h_ (some (.int (1 : Int32)), h', [])))) := by
  have hA : yas xtmR1_A (xtmR1_r v1_ v2) (yg xtmR1_s) := ⟨fun q_ hq => absurd hq List.not_mem_nil, fun q_ hq => absurd hq List.not_mem_nil, fun q_ hq => absurd hq List.not_mem_nil, fun n_ hn => yg_lo hn, fun q_ hq => absurd hq List.not_mem_nil⟩
  have Hs : ysh xtmR1_A.1 (yg xtmR1_s) h_ := ysh_of2 hs (fun q_ hq => absurd hq List.not_mem_nil)
  have Ho : ymem (xtmR1_r v1_ v2) (yg xtmR1_s) xtmR1_O h_ := fun q_ hq => absurd hq List.not_mem_nil
  have HC : ∀ q_ ∈ xtmR1_C, xhold (xtmR1_r v1_ v2) q_ := fun q_ hq => absurd hq List.not_mem_nil
  rcases yrun (yis_ok xtmR1_k) hA Hs Ho HC with ⟨q_, hq, h', K_, G_⟩ | ⟨q_, hq, h', K_, G_⟩
  · cases hq
  · have e_ := List.mem_singleton.mp hq
    subst e_
    exact ⟨h', yfr_sm K_.2.2.2 hs K_.1 (ywa_r xtmR1_w List.mem_cons_self), ⟨fun a_ j_ => yfr_bp K_.2.2.2 (fun q_ hq => absurd hq List.not_mem_nil), G_⟩⟩
theorem tmF_d {so : Int32 → Bool} {L_ : List Int32} : ∀ (f_ i_ : Nat) (l : List Int32), L_.drop i_ = l → (tmF so f_ i_ l).1 = true → L_.drop (tmF so f_ i_ l).2.1 = (tmF so f_ i_ l).2.2.2 := by
  intro f_
  induction f_ with
  | zero => intro i_ l _ q_; cases q_
  | succ f_ ih_ =>
    intro i_ l ed q_
    cases l with
    | nil => cases q_
    | cons v_ t_ =>
      have ed2 : L_.drop (i_ + 1) = t_ := by rw [show L_.drop (i_ + 1) = (L_.drop i_).drop 1 by rw [List.drop_drop], ed]; rfl
      by_cases gq : 60 ≤ v_.toInt ∨ (v_.toInt = 50 ∨ v_.toInt = 51)
      · have e_ : tmF so (f_ + 1) i_ (v_ :: t_) = (false, i_, false, v_ :: t_) := if_pos gq
        rw [e_] at q_
        cases q_
      by_cases g53 : v_.toInt = 53
      · have e_ : tmF so (f_ + 1) i_ (v_ :: t_) = ((tmF so f_ (i_ + 1) t_).1, (tmF so f_ (i_ + 1) t_).2.1, !(tmF so f_ (i_ + 1) t_).2.2.1, (tmF so f_ (i_ + 1) t_).2.2.2) := (if_neg gq).trans (if_pos g53)
        rw [e_] at q_ ⊢
        exact ih_ (i_ + 1) t_ ed2 q_
      by_cases g52 : v_.toInt = 52
      · by_cases ga : (tmF so f_ (i_ + 1) t_).1 = true
        · have e_ : tmF so (f_ + 1) i_ (v_ :: t_) = ((tmF so f_ (tmF so f_ (i_ + 1) t_).2.1 (tmF so f_ (i_ + 1) t_).2.2.2).1, (tmF so f_ (tmF so f_ (i_ + 1) t_).2.1 (tmF so f_ (i_ + 1) t_).2.2.2).2.1, !(tmF so f_ (i_ + 1) t_).2.2.1 || (tmF so f_ (tmF so f_ (i_ + 1) t_).2.1 (tmF so f_ (i_ + 1) t_).2.2.2).2.2.1, (tmF so f_ (tmF so f_ (i_ + 1) t_).2.1 (tmF so f_ (i_ + 1) t_).2.2.2).2.2.2) := (if_neg gq).trans ((if_neg g53).trans ((if_pos g52).trans (if_pos ga)))
          rw [e_] at q_ ⊢
          exact ih_ _ _ (ih_ (i_ + 1) t_ ed2 ga) q_
        · have e_ : tmF so (f_ + 1) i_ (v_ :: t_) = (false, (tmF so f_ (i_ + 1) t_).2.1, false, (tmF so f_ (i_ + 1) t_).2.2.2) := (if_neg gq).trans ((if_neg g53).trans ((if_pos g52).trans (if_neg ga)))
          rw [e_] at q_
          cases q_
      · have e_ : tmF so (f_ + 1) i_ (v_ :: t_) = (true, (nru (i_ + 1) 0 t_).1, so v_ && decide (0 ≤ (nru (i_ + 1) 0 t_).2.1.toInt), (nru (i_ + 1) 0 t_).2.2) := (if_neg gq).trans ((if_neg g53).trans (if_neg g52))
        rw [e_]
        exact nru_d t_ (i_ + 1) 0 ed2
theorem ts_x {a_ ia : Nat} {L_ : List Int32} {s_ : Int32} (hS_ : snds L_) (na : ¬ a_ = 152 ∧ ¬ ia = 152) : ∀ (f_ i_ : Nat) (l : List Int32) (d_ : Nat) (h_ : xH), l.length < f_ → L_.drop i_ = l → i_ + l.length = L_.length → d_ ≤ i_ → sHp h_ → rwx h_ a_ ia 12 L_ → bpat h_ 152 0 = some (.index a_) → bpat h_ 152 1 = some (.int s_) → bpat h_ 152 2 = some (.int (Int32.ofNat i_)) → (tmF (wso s_) f_ i_ l).1 = true → ∃ h', gmf h_ h' ∧ (bpat h' 152 2 = some (.int (Int32.ofNat (tmF (wso s_) f_ i_ l).2.1)) ∧ ∀ D_, 63 + f_ ≤ D_ → xrun D_ 8 0 [(0, .index 152), (1, .int (Int32.ofNat d_))] [] h_ (some (.int (bI (tmF (wso s_) f_ i_ l).2.2.1)), h', [])) := by
  intro f_
  have z12 : (12 : Int32).toInt = 12 := rfl
  have zz := z0_
  induction f_ with
  | zero => intro i_ l d_ h_ hl; omega
  | succ f_ ih_ =>
    intro i_ l d_ h_ hl ed hi_ hd_ S_ R_ e0_ e1_ e2_ q_
    have l12 := R_.2.2.1
    cases l with
    | nil => cases q_
    | cons v_ t_ =>
      rw [List.length_cons] at hl hi_
      have ii := i32n (i_ := i_) (by omega)
      have idd := i32n (i_ := d_) (by omega)
      have iL := i32n (i_ := L_.length) (by omega)
      have ed2 : L_.drop (i_ + 1) = t_ := by rw [show L_.drop (i_ + 1) = (L_.drop i_).drop 1 by rw [List.drop_drop], ed]; rfl
      have ov : bpat h_ ia i_ = some (.int v_) := R_.2.2.2 i_ v_ (by have q_ : (L_.drop i_)[0]? = some v_ := (by rw [ed]; rfl); rw [List.getElem?_drop, Nat.add_zero] at q_; exact q_)
      have en : Int32.ofNat i_ + 1 - 1 = Int32.ofNat i_ := Int32.add_sub_cancel _ _
      by_cases gq : 60 ≤ v_.toInt ∨ (v_.toInt = 50 ∨ v_.toInt = 51)
      · have e_ : tmF (wso s_) (f_ + 1) i_ (v_ :: t_) = (false, i_, false, v_ :: t_) := if_pos gq
        rw [e_] at q_
        cases q_
      by_cases g53 : v_.toInt = 53
      · have e_ : tmF (wso s_) (f_ + 1) i_ (v_ :: t_) = ((tmF (wso s_) f_ (i_ + 1) t_).1, (tmF (wso s_) f_ (i_ + 1) t_).2.1, !(tmF (wso s_) f_ (i_ + 1) t_).2.2.1, (tmF (wso s_) f_ (i_ + 1) t_).2.2.2) := (if_neg gq).trans (if_pos g53)
        rw [e_] at q_ ⊢
        have ev_ : v_ = 53 := Int32.toInt_inj.mp g53
        subst ev_
        obtain ⟨h1, m1_, w0_, f1_, ld1⟩ := xtm53 (v1_ := Int32.ofNat d_) (v300 := Int32.ofNat L_.length) (v302 := Int32.ofNat i_) S_ R_.1.1 R_.1.2 e2_ e0_ R_.2.1.2 R_.2.1.1 (by rw [en, i32t (by omega)]; exact ov) ⟨by rw [en]; omega, by rw [en]; omega⟩ (by omega) (by omega)
        rw [i32s] at w0_ ld1
        have F1_ : gmf h_ h1 := ⟨m1_, fun c_ j_ q_ => f1_ c_ j_ q_⟩
        obtain ⟨h2, F2, g2, r2⟩ := ih_ (i_ + 1) t_ (d_ + 1) h1 (by omega) ed2 (by omega) (by omega) m1_.1 (gmf_R R_ F1_ na) ((f1_ _ _ (by omega)).trans e0_) ((f1_ _ _ (by omega)).trans e1_) w0_ q_
        have ld2 := ycv (d_ := 63 + f_) (mi := 8) (pc := 23) (cm := 8) (lo_ := [(2, .int 53), (0, .index 152), (1, .int (Int32.ofNat d_))]) (st_ := [.int (Int32.ofNat (d_ + 1)), .index 152]) (as_ := [.int (Int32.ofNat (d_ + 1))]) (s' := []) rfl rfl (bcq_of (n_ := 152) (z_ := (1, 3)) m1_.1 rfl) rfl (xcc_l (List.forall_mem_cons.mpr ⟨rfl, List.forall_mem_cons.mpr ⟨xidx_i (bcq_lt (bcq_of (n_ := 152) (z_ := (1, 3)) m1_.1 rfl)), List.forall_mem_cons.mpr ⟨rfl, fun q_ hq => absurd hq List.not_mem_nil⟩⟩⟩) (fun t_ ht => absurd ht List.not_mem_nil) (Nat.le_of_ble_eq_true rfl)) r2
        have fin_ : ∀ vb : Bool, ∃ h3, (ysm h2 h3 ∧ ∀ c_ j_, bpat h3 c_ j_ = bpat h2 c_ j_) ∧ ∀ D_, 60 ≤ D_ → xrun D_ 8 26 [(2, .int 53), (0, .index 152), (1, .int (Int32.ofNat d_))] [.int (bI vb)] h2 (some (.int (bI (!vb))), h3, []) := by
          intro vb
          cases vb with
          | true =>
            obtain ⟨h3, m3_, f3_, r3⟩ := xtm53r1 (v1_ := Int32.ofNat d_) (F2.1).1
            exact ⟨h3, ⟨m3_, f3_⟩, r3⟩
          | false =>
            obtain ⟨h3, m3_, f3_, r3⟩ := xtm53r0 (v1_ := Int32.ofNat d_) (F2.1).1
            exact ⟨h3, ⟨m3_, f3_⟩, r3⟩
        obtain ⟨h3, ⟨m3_, f3_⟩, r3⟩ := fin_ (tmF (wso s_) f_ (i_ + 1) t_).2.2.1
        exact ⟨h3, gmf_t F1_ (gmf_t F2 (gmf_a m3_ f3_)), (f3_ _ _).trans g2, fun D_ hD => ld1 D_ (by omega) _ (ld2 D_ (by omega) _ (r3 D_ (by omega)))⟩
      have n53 : ¬ v_ = 53 := fun q2_ => g53 (by rw [q2_]; rfl)
      by_cases g52 : v_.toInt = 52
      · have eT : (tmF (wso s_) f_ (i_ + 1) t_).1 = true → tmF (wso s_) (f_ + 1) i_ (v_ :: t_) = ((tmF (wso s_) f_ (tmF (wso s_) f_ (i_ + 1) t_).2.1 (tmF (wso s_) f_ (i_ + 1) t_).2.2.2).1, (tmF (wso s_) f_ (tmF (wso s_) f_ (i_ + 1) t_).2.1 (tmF (wso s_) f_ (i_ + 1) t_).2.2.2).2.1, !(tmF (wso s_) f_ (i_ + 1) t_).2.2.1 || (tmF (wso s_) f_ (tmF (wso s_) f_ (i_ + 1) t_).2.1 (tmF (wso s_) f_ (i_ + 1) t_).2.2.2).2.2.1, (tmF (wso s_) f_ (tmF (wso s_) f_ (i_ + 1) t_).2.1 (tmF (wso s_) f_ (i_ + 1) t_).2.2.2).2.2.2) := fun ga => (if_neg gq).trans ((if_neg g53).trans ((if_pos g52).trans (if_pos ga)))
        have a1_ : (tmF (wso s_) f_ (i_ + 1) t_).1 = true := by
          by_cases ga : (tmF (wso s_) f_ (i_ + 1) t_).1 = true
          · exact ga
          · have e_ : tmF (wso s_) (f_ + 1) i_ (v_ :: t_) = (false, (tmF (wso s_) f_ (i_ + 1) t_).2.1, false, (tmF (wso s_) f_ (i_ + 1) t_).2.2.2) := (if_neg gq).trans ((if_neg g53).trans ((if_pos g52).trans (if_neg ga)))
            rw [e_] at q_
            cases q_
        rw [eT a1_] at q_ ⊢
        have ev_ : v_ = 52 := Int32.toInt_inj.mp g52
        subst ev_
        obtain ⟨k1_, k2_⟩ := tmF_c (so := wso s_) f_ (i_ + 1) t_ 0 false (by omega) (Or.inl rfl)
        obtain ⟨b1, b2, b3, b4⟩ := k1_ a1_
        obtain ⟨h1, m1_, w0_, f1_, ld1⟩ := xtm52 (v1_ := Int32.ofNat d_) (v300 := Int32.ofNat L_.length) (v302 := Int32.ofNat i_) S_ R_.1.1 R_.1.2 e2_ e0_ R_.2.1.2 R_.2.1.1 (by rw [en, i32t (by omega)]; exact ov) ⟨by rw [en]; omega, by rw [en]; omega⟩ (by omega) (by omega)
        rw [i32s] at w0_ ld1
        have F1_ : gmf h_ h1 := ⟨m1_, fun c_ j_ q_ => f1_ c_ j_ q_⟩
        obtain ⟨h2, F2, g2, r2⟩ := ih_ (i_ + 1) t_ (d_ + 1) h1 (by omega) ed2 (by omega) (by omega) m1_.1 (gmf_R R_ F1_ na) ((f1_ _ _ (by omega)).trans e0_) ((f1_ _ _ (by omega)).trans e1_) w0_ a1_
        have ld2 := ycv (d_ := 63 + f_) (mi := 8) (pc := 45) (cm := 8) (lo_ := [(2, .int 52), (0, .index 152), (1, .int (Int32.ofNat d_))]) (st_ := [.int (Int32.ofNat (d_ + 1)), .index 152]) (as_ := [.int (Int32.ofNat (d_ + 1))]) (s' := []) rfl rfl (bcq_of (n_ := 152) (z_ := (1, 3)) m1_.1 rfl) rfl (xcc_l (List.forall_mem_cons.mpr ⟨rfl, List.forall_mem_cons.mpr ⟨xidx_i (bcq_lt (bcq_of (n_ := 152) (z_ := (1, 3)) m1_.1 rfl)), List.forall_mem_cons.mpr ⟨rfl, fun q_ hq => absurd hq List.not_mem_nil⟩⟩⟩) (fun t_ ht => absurd ht List.not_mem_nil) (Nat.le_of_ble_eq_true rfl)) r2
        obtain ⟨h3, m3_, f3_, ld3⟩ := xtm52a (v1_ := Int32.ofNat d_) (v8 := bI (tmF (wso s_) f_ (i_ + 1) t_).2.2.1) (F2.1).1
        rw [i32s] at ld3
        have F13 := gmf_t F1_ (gmf_t F2 (gmf_a m3_ f3_))
        obtain ⟨h4, F4, g4, r4⟩ := ih_ (tmF (wso s_) f_ (i_ + 1) t_).2.1 (tmF (wso s_) f_ (i_ + 1) t_).2.2.2 (d_ + 1) h3 (by omega) (tmF_d f_ (i_ + 1) t_ ed2 a1_) (by omega) (by omega) m3_.1 (gmf_R R_ F13 na) ((F13.2 _ _ (by omega)).trans e0_) ((F13.2 _ _ (by omega)).trans e1_) ((f3_ _ _).trans g2) q_
        have ld4 := ycv (d_ := 63 + f_) (mi := 8) (pc := 53) (cm := 8) (lo_ := [(3, .int (bI (tmF (wso s_) f_ (i_ + 1) t_).2.2.1)), (2, .int 52), (0, .index 152), (1, .int (Int32.ofNat d_))]) (st_ := [.int (Int32.ofNat (d_ + 1)), .index 152]) (as_ := [.int (Int32.ofNat (d_ + 1))]) (s' := []) rfl rfl (bcq_of (n_ := 152) (z_ := (1, 3)) m3_.1 rfl) rfl (xcc_l (List.forall_mem_cons.mpr ⟨rfl, List.forall_mem_cons.mpr ⟨rfl, List.forall_mem_cons.mpr ⟨xidx_i (bcq_lt (bcq_of (n_ := 152) (z_ := (1, 3)) m3_.1 rfl)), List.forall_mem_cons.mpr ⟨rfl, fun q_ hq => absurd hq List.not_mem_nil⟩⟩⟩⟩) (fun t_ ht => absurd ht List.not_mem_nil) (Nat.le_of_ble_eq_true rfl)) r4
        have S4 := F4.1.1
        have fin_ : ∀ vb vc : Bool, ∃ h5, (ysm h4 h5 ∧ ∀ c_ j_, bpat h5 c_ j_ = bpat h4 c_ j_) ∧ ∀ D_, 60 ≤ D_ → xrun D_ 8 56 [(3, .int (bI vb)), (2, .int 52), (0, .index 152), (1, .int (Int32.ofNat d_))] [.int (bI vc)] h4 (some (.int (bI (!vb || vc))), h5, []) := by
          intro vb vc
          cases vb with
          | true =>
            cases vc with
            | true =>
              obtain ⟨h5, m5_, f5_, r5_⟩ := xtm52r11 (v1_ := Int32.ofNat d_) S4
              exact ⟨h5, ⟨m5_, f5_⟩, r5_⟩
            | false =>
              obtain ⟨h5, m5_, f5_, r5_⟩ := xtm52r10 (v1_ := Int32.ofNat d_) S4
              exact ⟨h5, ⟨m5_, f5_⟩, r5_⟩
          | false =>
            cases vc with
            | true =>
              obtain ⟨h5, m5_, f5_, r5_⟩ := xtm52r01 (v1_ := Int32.ofNat d_) S4
              exact ⟨h5, ⟨m5_, f5_⟩, r5_⟩
            | false =>
              obtain ⟨h5, m5_, f5_, r5_⟩ := xtm52r00 (v1_ := Int32.ofNat d_) S4
              exact ⟨h5, ⟨m5_, f5_⟩, r5_⟩
        obtain ⟨h5, ⟨m5_, f5_⟩, r5_⟩ := fin_ (tmF (wso s_) f_ (i_ + 1) t_).2.2.1 (tmF (wso s_) f_ (tmF (wso s_) f_ (i_ + 1) t_).2.1 (tmF (wso s_) f_ (i_ + 1) t_).2.2.2).2.2.1
        exact ⟨h5, gmf_t F13 (gmf_t F4 (gmf_a m5_ f5_)), (f5_ _ _).trans g4, fun D_ hD => ld1 D_ (by omega) _ (ld2 D_ (by omega) _ (ld3 D_ (by omega) _ (ld4 D_ (by omega) _ (r5_ D_ (by omega)))))⟩
      have n52 : ¬ v_ = 52 := fun q2_ => g52 (by rw [q2_]; rfl)
      have e_ : tmF (wso s_) (f_ + 1) i_ (v_ :: t_) = (true, (nru (i_ + 1) 0 t_).1, wso s_ v_ && decide (0 ≤ (nru (i_ + 1) 0 t_).2.1.toInt), (nru (i_ + 1) 0 t_).2.2) := (if_neg gq).trans ((if_neg g53).trans (if_neg g52))
      rw [e_]
      obtain ⟨h1, m1_, w0_, f1_, ld1⟩ := xtmV (v1_ := Int32.ofNat d_) (v300 := Int32.ofNat L_.length) (v302 := Int32.ofNat i_) (v301 := v_) S_ R_.1.1 R_.1.2 e2_ e0_ R_.2.1.2 R_.2.1.1 (by rw [en, i32t (by omega)]; exact ov) ⟨by rw [en]; omega, by rw [en]; omega⟩ n52 n53 (by omega) (by omega)
      rw [i32s] at w0_
      have F1_ : gmf h_ h1 := ⟨m1_, fun c_ j_ q_ => f1_ c_ j_ q_⟩
      obtain ⟨h2, m2_, f2_, ld2⟩ := xsbE m1_.1
      have F2 := gmf_t F1_ (gmf_a m2_ f2_)
      obtain ⟨h3, F3, g3_, r3⟩ := sb_x hS_ na t_ (i_ + 1) 0 0 h2 m2_.1 ed2 (by omega) (by omega) (gmf_R R_ F2 na) ((F2.2 _ _ (by omega)).trans e0_) ((f2_ _ _).trans w0_)
      have ld3 := ycv (d_ := 60) (mi := 8) (pc := 74) (cm := 9) (lo_ := [(2, .int v_), (0, .index 152), (1, .int (Int32.ofNat d_))]) (st_ := [.index 152]) (as_ := []) (s' := []) rfl rfl (bcq_of (n_ := 152) (z_ := (1, 3)) m1_.1 rfl) rfl (xcc_l (List.forall_mem_cons.mpr ⟨rfl, List.forall_mem_cons.mpr ⟨xidx_i (bcq_lt (bcq_of (n_ := 152) (z_ := (1, 3)) m1_.1 rfl)), List.forall_mem_cons.mpr ⟨rfl, fun q_ hq => absurd hq List.not_mem_nil⟩⟩⟩) (fun t_ ht => absurd ht List.not_mem_nil) (Nat.le_of_ble_eq_true rfl)) (fun D_ hD => ld2 D_ hD _ (r3 D_ hD))
      have F03 := gmf_t F2 F3
      by_cases gs : 0 ≤ (nru (i_ + 1) 0 t_).2.1.toInt
      · rw [decide_eq_true gs, Bool.and_true]
        obtain ⟨h4, m4_, f4_, ld4⟩ := xtmS (v1_ := Int32.ofNat d_) (v2 := v_) (v8 := (nru (i_ + 1) 0 t_).2.1) (F3.1).1 (by omega)
        obtain ⟨h5, ⟨m5_, f5_⟩, r5_⟩ := wsX (v_ := v_) m4_.1 ((f4_ _ _).trans ((F03.2 _ _ (by omega)).trans e1_))
        have ld5 := ycv (d_ := 60) (mi := 8) (pc := 82) (cm := 10) (lo_ := [(2, .int v_), (0, .index 152), (1, .int (Int32.ofNat d_))]) (st_ := [.int v_, .index 152]) (as_ := [.int v_]) (s' := []) rfl rfl (bcq_of (n_ := 152) (z_ := (1, 3)) m4_.1 rfl) rfl (xcc_l (List.forall_mem_cons.mpr ⟨rfl, List.forall_mem_cons.mpr ⟨xidx_i (bcq_lt (bcq_of (n_ := 152) (z_ := (1, 3)) m4_.1 rfl)), List.forall_mem_cons.mpr ⟨rfl, fun q_ hq => absurd hq List.not_mem_nil⟩⟩⟩) (fun t_ ht => absurd ht List.not_mem_nil) (Nat.le_of_ble_eq_true rfl)) r5_
        have fin_ : ∃ h6, (ysm h5 h6 ∧ ∀ c_ j_, bpat h6 c_ j_ = bpat h5 c_ j_) ∧ ∀ D_, 60 ≤ D_ → xrun D_ 8 85 [(2, .int v_), (0, .index 152), (1, .int (Int32.ofNat d_))] [.int (bI (wso s_ v_))] h5 (some (.int (bI (wso s_ v_))), h6, []) := by
          cases wso s_ v_ with
          | true =>
            obtain ⟨h6, m6_, f6_, r6⟩ := xtmR1 (v1_ := Int32.ofNat d_) (v2 := v_) m5_.1
            exact ⟨h6, ⟨m6_, f6_⟩, r6⟩
          | false =>
            obtain ⟨h6, m6_, f6_, r6⟩ := xtmR0 (v1_ := Int32.ofNat d_) (v2 := v_) m5_.1
            exact ⟨h6, ⟨m6_, f6_⟩, r6⟩
        obtain ⟨h6, ⟨m6_, f6_⟩, r6⟩ := fin_
        exact ⟨h6, gmf_t F03 (gmf_t (gmf_a m4_ f4_) (gmf_t (gmf_a m5_ f5_) (gmf_a m6_ f6_))), (f6_ _ _).trans ((f5_ _ _).trans ((f4_ _ _).trans g3_)), fun D_ hD => ld1 D_ (by omega) _ (ld3 D_ (by omega) _ (ld4 D_ (by omega) _ (ld5 D_ (by omega) _ (r6 D_ (by omega)))))⟩
      · rw [decide_eq_false gs, Bool.and_false]
        obtain ⟨h4, m4_, f4_, r4⟩ := xtmS0 (v1_ := Int32.ofNat d_) (v2 := v_) (v8 := (nru (i_ + 1) 0 t_).2.1) (F3.1).1 (by omega)
        exact ⟨h4, gmf_t F03 (gmf_a m4_ f4_), (f4_ _ _).trans g3_, fun D_ hD => ld1 D_ (by omega) _ (ld3 D_ (by omega) _ (r4 D_ (by omega)))⟩
