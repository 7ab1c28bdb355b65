-- ===== image, restore
def imW (W_ : Nat → List Int32) (j_ : Nat) : List Int32 := if 100 ≤ j_ ∧ j_ < 140 then W_ (j_ - 100) else W_ j_
def imV (V : Nat → Int32) (j_ : Nat) : Int32 := if 100 ≤ j_ ∧ j_ < 140 then V (j_ - 100) else if j_ = 200 then V 200 + 1 else V j_
def rsW (W_ : Nat → List Int32) (j_ : Nat) : List Int32 := if j_ < 40 then W_ (j_ + 100) else W_ j_
def rsV (V : Nat → Int32) (j_ : Nat) : Int32 := if j_ < 40 then V (j_ + 100) else V j_
theorem key_l2 : (wvX.all (fun p_ => Nat.ble (p_.2 + 1) 40 && (Nat.ble 1 p_.1.1 && Nat.ble p_.1.1 73)) && wrX.all (fun p_ => Nat.ble (p_.2.2.2 + 1) 40 && ((Nat.ble 1 p_.1 && Nat.ble p_.1 73) && (Nat.ble 1 p_.2.1 && Nat.ble p_.2.1 73)))) = true := by decide +kernel
theorem kv_l {p_ : (Nat × Nat) × Nat} (hp : p_ ∈ wvX) : p_.2 < 40 ∧ (1 ≤ p_.1.1 ∧ p_.1.1 ≤ 73) := by
  have z_ := key_l2
  rw [Bool.and_eq_true] at z_
  have k_ := List.all_eq_true.mp z_.1 p_ hp
  simp only [Bool.and_eq_true] at k_
  exact ⟨Nat.le_of_ble_eq_true k_.1, Nat.le_of_ble_eq_true k_.2.1, Nat.le_of_ble_eq_true k_.2.2⟩
theorem kr_l {p_ : Nat × Nat × Nat × Nat} (hp : p_ ∈ wrX) : p_.2.2.2 < 40 ∧ ((1 ≤ p_.1 ∧ p_.1 ≤ 73) ∧ (1 ≤ p_.2.1 ∧ p_.2.1 ≤ 73)) := by
  have z_ := key_l2
  rw [Bool.and_eq_true] at z_
  have k_ := List.all_eq_true.mp z_.2 p_ hp
  simp only [Bool.and_eq_true] at k_
  exact ⟨Nat.le_of_ble_eq_true k_.1, ⟨Nat.le_of_ble_eq_true k_.2.1.1, Nat.le_of_ble_eq_true k_.2.1.2⟩, Nat.le_of_ble_eq_true k_.2.2.1, Nat.le_of_ble_eq_true k_.2.2.2⟩
/-- a world that nothing reached -/
theorem XW_un {o q_ : Nat} {W_ W' : Nat → List Int32} {V V' : Nat → Int32} {h_ h' : xH} (H_ : XW o q_ W_ V h_) (m_ : ysm h_ h') (f_ : ∀ c_ j_, 1 + o ≤ c_ → c_ ≤ 73 + o → bpat h' c_ j_ = bpat h_ c_ j_) (eW : ∀ k_, k_ < 40 → W' (q_ + k_) = W_ (q_ + k_)) (eV : ∀ k_, k_ < 40 → V' (q_ + k_) = V (q_ + k_)) : XW o q_ W' V' h' := by
  refine ⟨fun p_ hp => ?_, fun p_ hp => ?_⟩
  · obtain ⟨k1_, k2_, k3_⟩ := kv_l hp
    rw [eV _ k1_]
    exact (f_ _ _ (by omega) (by omega)).trans (H_.1 p_ hp)
  · obtain ⟨k1_, ⟨k2_, k3_⟩, k4_, k5_⟩ := kr_l hp
    rw [eW _ k1_]
    refine rwx_keep (H_.2 p_ hp) m_ (fun c_ j_ hc_ => f_ c_ j_ ?_ ?_)
    · rcases hc_ with rfl | rfl <;> omega
    · rcases hc_ with rfl | rfl <;> omega
theorem XS_un {W_ W' : Nat → List Int32} {V V' : Nat → Int32} {h_ h' : xH} (H_ : XS W_ V h_) (f_ : ∀ c_ j_, 324 ≤ c_ → c_ ≤ 331 → bpat h' c_ j_ = bpat h_ c_ j_) (eW : ∀ k_, k_ < 4 → W' (40 + k_) = W_ (40 + k_)) (eV : ∀ k_, k_ < 8 → V' (210 + k_) = V (210 + k_)) : XS W' V' h' := by
  intro k_ hk
  obtain ⟨a1_, a2, a3⟩ := H_ k_ hk
  rw [eW k_ hk, eV (2 * k_) (by omega), show 211 + 2 * k_ = 210 + (2 * k_ + 1) by omega, eV (2 * k_ + 1) (by omega)]
  rw [show 211 + 2 * k_ = 210 + (2 * k_ + 1) by omega] at a2
  exact ⟨(f_ _ _ (by omega) (by omega)).trans a1_, (f_ _ _ (by omega) (by omega)).trans a2, fun j_ x_ hx => (f_ _ _ (by omega) (by omega)).trans (a3 j_ x_ hx)⟩
/-- what a world's copy wants beside: rows of ECHOES, THE LOG -/
theorem wex {h_ : xH} (B_ : bInv bZ bIj h_) {o_ : Nat} (ho : wo_ o_) : (∃ l1 l2 l3, rwx h_ (9 + o_) (10 + o_) 10 l1 ∧ (rwx h_ (11 + o_) (12 + o_) 10 l2 ∧ rwx h_ (13 + o_) (14 + o_) 10 l3)) ∧ ∀ c_, c_ < 8 → ∃ l, rwx h_ (17 + o_ + 2 * c_) (18 + o_ + 2 * c_) 12 l := by
  have z_ := rwk_e
  simp only [List.all_cons, List.all_nil, Bool.and_eq_true] at z_
  have q_ : ((rwk (9 + o_) (10 + o_) 10 = true ∧ (rwk (11 + o_) (12 + o_) 10 = true ∧ rwk (13 + o_) (14 + o_) 10 = true)) ∧ (List.range 8).all (fun i_ => rwk (17 + o_ + 2 * i_) (18 + o_ + 2 * i_) 12) = true) := by
    rcases ho with rfl | rfl
    · exact z_.1
    · exact z_.2.1
  obtain ⟨⟨q1_, q2_, q3_⟩, q4_⟩ := q_
  obtain ⟨l1, R1⟩ := rw_ex B_ q1_
  obtain ⟨l2, R2⟩ := rw_ex B_ q2_
  obtain ⟨l3, R3⟩ := rw_ex B_ q3_
  exact ⟨⟨l1, l2, l3, R1, R2, R3⟩, fun c_ hc_ => rw_ex B_ (List.all_eq_true.mp q4_ c_ (List.mem_range.mpr hc_))⟩
def ink (a_ j_ : Nat) : Bool := (match bzf a_ with
  | some z_ => Nat.ble (j_ + 1) z_.2
  | none => false) && (match bIj a_ j_ with
  | some (.inl _) => true
  | _ => false)
theorem in_ex {h_ : xH} (B_ : bInv bZ bIj h_) {a_ j_ : Nat} (hk : ink a_ j_ = true) : ∃ y_ : Int32, bpat h_ a_ j_ = some (.int y_) := by
  unfold ink at hk
  rw [Bool.and_eq_true] at hk
  obtain ⟨k1_, k2_⟩ := hk
  cases hz : bzf a_ with
  | none => rw [hz] at k1_; cases k1_
  | some z_ =>
    rw [hz] at k1_
    split at k2_
    · rename_i b_ hb_
      exact ⟨_, bpat_of (yint (l := b_.1) (u_ := b_.2) B_ (bzf_at hz) (Nat.le_of_ble_eq_true k1_) hb_)⟩
    · cases k2_
theorem rf_ex {h_ : xH} (B_ : bInv bZ bIj h_) {a_ j_ m_ : Nat} (hk : ((match bzf a_ with
  | some z_ => Nat.ble (j_ + 1) z_.2
  | none => false) && decide (bIj a_ j_ = some (.inr [.index m_]))) = true) : bpat h_ a_ j_ = some (.index m_) := by
  rw [Bool.and_eq_true] at hk
  obtain ⟨k1_, k2_⟩ := hk
  cases hz : bzf a_ with
  | none => rw [hz] at k1_; cases k1_
  | some z_ =>
    rw [hz] at k1_
    exact bpat_of (yref B_ (bzf_at hz) (Nat.le_of_ble_eq_true k1_) (of_decide_eq_true k2_))
-- ximA: 4 steps, 1 ends, 0 returns
def ximA_L : List (Nat × Nat × Nat) := []
def ximA_O : yO := [(0, .int 1, .index 74), (0, .int 0, .index 1)]
def ximA_A : yA := (yZ ximA_L, [], [], [], [])
def ximA_C : List xB := []
def ximA_ss : List yS := [(8, [(0, .index 0)], [.index 1, .index 74], [(0, .int 1, .index 74), (0, .int 0, .index 1)], [], [])]
def ximA_rs : List yR := []
theorem ximA_w : ywa ximA_A ximA_ss ximA_rs = true := by decide +kernel
theorem ximA_k : yis (yev ximA_A 3000 60 112 [8] (0, [(0, .index 0)], [], ximA_O, ximA_C, [])) ximA_ss ximA_rs = true := by decide +kernel
def ximA_r (k_ : Nat) : Value := .int 0
def ximA_s (n_ : Nat) : Nat := 0
theorem ximA {h_ : xH} (hs : sHp h_) : ∃ h', ysm h_ h' ∧ (((∀ a_ j_ : Nat, bpat h' a_ j_ = bpat h_ a_ j_) ∧ (bldD 60 112 0 [(0, .index 0)] [] h_ 8 [(0, .index 0)] [.index 1, .index 74] h'))) := by
  have hA : yas ximA_A ximA_r (yg ximA_s) := ⟨fun q_ hq => absurd hq List.not_mem_nil, fun q_ hq => absurd hq List.not_mem_nil, fun q_ hq => absurd hq List.not_mem_nil, fun n_ hn => yg_lo hn, fun q_ hq => absurd hq List.not_mem_nil⟩
  have Hs : ysh ximA_A.1 (yg ximA_s) h_ := ysh_of2 hs (fun q_ hq => absurd hq List.not_mem_nil)
  have Ho : ymem ximA_r (yg ximA_s) ximA_O h_ := List.forall_mem_cons.mpr ⟨bpat_some (fxr_at hs.2 (show fxk fxl 0 1 = some 74 by decide +kernel)), List.forall_mem_cons.mpr ⟨bpat_some (fxr_at hs.2 (show fxk fxl 0 0 = some 1 by decide +kernel)), fun q_ hq => absurd hq List.not_mem_nil⟩⟩
  have HC : ∀ q_ ∈ ximA_C, xhold ximA_r q_ := fun q_ hq => absurd hq List.not_mem_nil
  rcases yrun (yis_ok ximA_k) hA Hs Ho HC with ⟨q_, hq, h', K_, G_⟩ | ⟨q_, hq, h', K_, G_⟩
  · have e_ := List.mem_singleton.mp hq
    subst e_
    exact ⟨h', yfr_sm K_.2.2.2 hs K_.1 (ywa_s ximA_w List.mem_cons_self), ⟨fun a_ j_ => yfr_bp K_.2.2.2 (fun q_ hq => absurd hq List.not_mem_nil), G_⟩⟩
  · cases hq
-- ximB: 9 steps, 0 ends, 1 returns
def ximB_L : List (Nat × Nat × Nat) := []
def ximB_O : yO := [(0, .int 14, .arg 310)]
def ximB_A : yA := (yZ ximB_L, [], [], [], [])
def ximB_C : List xB := []
def ximB_ss : List yS := []
def ximB_rs : List yR := [(some (.add (.arg 310) (.int 1)), [(0, .int 14, .add (.arg 310) (.int 1))], [], [(0, .int 14)])]
theorem ximB_w : ywa ximB_A ximB_ss ximB_rs = true := by decide +kernel
theorem ximB_k : yis (yev ximB_A 3000 60 112 [] (11, [(0, .index 0)], [], ximB_O, ximB_C, [])) ximB_ss ximB_rs = true := by decide +kernel
def ximB_r (v310 : Int32) (k_ : Nat) : Value := bif Nat.beq k_ 310 then .int v310 else (.int 0)
def ximB_s (n_ : Nat) : Nat := 0
theorem ximB {h_ : xH} {v310 : Int32} (hs : sHp h_) (o0_ : bpat h_ 0 14 = some (.int v310)) : ∃ h', ysm h_ h' ∧ (((bpat h' 0 14 = some (.int (v310 + (1 : Int32)))) ∧ (∀ a_ j_ : Nat, ¬ (a_ = 0 ∧ j_ = 14) → bpat h' a_ j_ = bpat h_ a_ j_) ∧ (∀ D_, 60 ≤ D_ → xrun D_ 112 11 [(0, .index 0)] [] h_ (some (.int (v310 + (1 : Int32))), h', [])))) := by
  have hA : yas ximB_A (ximB_r v310) (yg ximB_s) := ⟨fun q_ hq => absurd hq List.not_mem_nil, fun q_ hq => absurd hq List.not_mem_nil, fun q_ hq => absurd hq List.not_mem_nil, fun n_ hn => yg_lo hn, fun q_ hq => absurd hq List.not_mem_nil⟩
  have Hs : ysh ximB_A.1 (yg ximB_s) h_ := ysh_of2 hs (fun q_ hq => absurd hq List.not_mem_nil)
  have Ho : ymem (ximB_r v310) (yg ximB_s) ximB_O h_ := List.forall_mem_cons.mpr ⟨bpat_some o0_, fun q_ hq => absurd hq List.not_mem_nil⟩
  have HC : ∀ q_ ∈ ximB_C, xhold (ximB_r v310) q_ := fun q_ hq => absurd hq List.not_mem_nil
  rcases yrun (yis_ok ximB_k) hA Hs Ho HC with ⟨q_, hq, h', K_, G_⟩ | ⟨q_, hq, h', K_, G_⟩
  · cases hq
  · have e_ := List.mem_singleton.mp hq
    subst e_
    exact ⟨h', yfr_sm K_.2.2.2 hs K_.1 (ywa_r ximB_w List.mem_cons_self), ⟨bpat_of (K_.2.1 _ List.mem_cons_self), fun a_ j_ n0_ => yfr_bp K_.2.2.2 (List.forall_mem_cons.mpr ⟨fun e_ => n0_ ⟨e_.1.symm, e_.2.symm⟩, fun q_ hq => absurd hq List.not_mem_nil⟩), G_⟩⟩
-- xreA: 23 steps, 1 ends, 1 returns
def xreA_L : List (Nat × Nat × Nat) := []
def xreA_O : yO := [(0, .int 14, .arg 310), (0, .int 0, .index 1), (0, .int 1, .index 74), (0, .int 13, .index 323), (323, .int 2, .arg 400)]
def xreA_A : yA := (yZ xreA_L, [], [], [], [])
def xreA_C : List xB := []
def xreA_ss : List yS := [(21, [(0, .index 0)], [.index 74, .index 1], [(0, .int 14, .arg 310), (0, .int 0, .index 1), (0, .int 1, .index 74), (0, .int 13, .index 323), (323, .int 2, .arg 400)], [(.eq, .arg 310, .int 0, false)], [])]
def xreA_rs : List yR := [(some (.int (Int32.ofInt (-1000002))), [(323, .int 2, .add (.arg 400) (.int 1)), (0, .int 14, .arg 310), (0, .int 0, .index 1), (0, .int 1, .index 74), (0, .int 13, .index 323)], [(.eq, .arg 310, .int 0, true)], [(323, .int 2)])]
theorem xreA_w : ywa xreA_A xreA_ss xreA_rs = true := by decide +kernel
theorem xreA_k : yis (yev xreA_A 3000 60 113 [21] (0, [(0, .index 0)], [], xreA_O, xreA_C, [])) xreA_ss xreA_rs = true := by decide +kernel
def xreA_r (v310 v400 : Int32) (k_ : Nat) : Value := bif Nat.beq k_ 310 then .int v310 else (bif Nat.beq k_ 400 then .int v400 else (.int 0))
def xreA_s (n_ : Nat) : Nat := 0
theorem xreA {h_ : xH} {v310 v400 : Int32} (hs : sHp h_) (o0_ : bpat h_ 0 14 = some (.int v310)) (o1 : bpat h_ 323 2 = some (.int v400)) : ∃ h', ysm h_ h' ∧ (((¬ v310 = (0 : Int32)) ∧ (∀ a_ j_ : Nat, bpat h' a_ j_ = bpat h_ a_ j_) ∧ (bldD 60 113 0 [(0, .index 0)] [] h_ 21 [(0, .index 0)] [.index 74, .index 1] h'))
  ∨ ((v310 = (0 : Int32)) ∧ (bpat h' 323 2 = some (.int (v400 + (1 : Int32)))) ∧ (∀ a_ j_ : Nat, ¬ (a_ = 323 ∧ j_ = 2) → bpat h' a_ j_ = bpat h_ a_ j_) ∧ (∀ D_, 60 ≤ D_ → xrun D_ 113 0 [(0, .index 0)] [] h_ (some (.int (Int32.ofInt (-1000002))), h', [])))) := by
  have hA : yas xreA_A (xreA_r v310 v400) (yg xreA_s) := ⟨fun q_ hq => absurd hq List.not_mem_nil, fun q_ hq => absurd hq List.not_mem_nil, fun q_ hq => absurd hq List.not_mem_nil, fun n_ hn => yg_lo hn, fun q_ hq => absurd hq List.not_mem_nil⟩
  have Hs : ysh xreA_A.1 (yg xreA_s) h_ := ysh_of2 hs (fun q_ hq => absurd hq List.not_mem_nil)
  have Ho : ymem (xreA_r v310 v400) (yg xreA_s) xreA_O h_ := List.forall_mem_cons.mpr ⟨bpat_some o0_, List.forall_mem_cons.mpr ⟨bpat_some (fxr_at hs.2 (show fxk fxl 0 0 = some 1 by decide +kernel)), List.forall_mem_cons.mpr ⟨bpat_some (fxr_at hs.2 (show fxk fxl 0 1 = some 74 by decide +kernel)), List.forall_mem_cons.mpr ⟨bpat_some (fxr_at hs.2 (show fxk fxl 0 13 = some 323 by decide +kernel)), List.forall_mem_cons.mpr ⟨bpat_some o1, fun q_ hq => absurd hq List.not_mem_nil⟩⟩⟩⟩⟩
  have HC : ∀ q_ ∈ xreA_C, xhold (xreA_r v310 v400) q_ := fun q_ hq => absurd hq List.not_mem_nil
  rcases yrun (yis_ok xreA_k) hA Hs Ho HC with ⟨q_, hq, h', K_, G_⟩ | ⟨q_, hq, h', K_, G_⟩
  · have e_ := List.mem_singleton.mp hq
    subst e_
    exact ⟨h', yfr_sm K_.2.2.2 hs K_.1 (ywa_s xreA_w List.mem_cons_self), Or.inl (⟨xq_eqF rfl rfl (K_.2.2.1 _ List.mem_cons_self), fun a_ j_ => yfr_bp K_.2.2.2 (fun q_ hq => absurd hq List.not_mem_nil), G_⟩)⟩
  · have e_ := List.mem_singleton.mp hq
    subst e_
    exact ⟨h', yfr_sm K_.2.2.2 hs K_.1 (ywa_r xreA_w List.mem_cons_self), Or.inr (⟨xq_eqT rfl rfl (K_.2.2.1 _ List.mem_cons_self), bpat_of (K_.2.1 _ List.mem_cons_self), fun a_ j_ n0_ => yfr_bp K_.2.2.2 (List.forall_mem_cons.mpr ⟨fun e_ => n0_ ⟨e_.1.symm, e_.2.symm⟩, fun q_ hq => absurd hq List.not_mem_nil⟩), G_⟩)⟩
-- xreB: 4 steps, 0 ends, 1 returns
def xreB_L : List (Nat × Nat × Nat) := []
def xreB_O : yO := [(0, .int 0, .index 1), (1, .int 11, .arg 311)]
def xreB_A : yA := (yZ xreB_L, [], [], [], [])
def xreB_C : List xB := []
def xreB_ss : List yS := []
def xreB_rs : List yR := [(some (.arg 311), [(0, .int 0, .index 1), (1, .int 11, .arg 311)], [], [])]
theorem xreB_w : ywa xreB_A xreB_ss xreB_rs = true := by decide +kernel
theorem xreB_k : yis (yev xreB_A 3000 60 113 [] (24, [(0, .index 0)], [], xreB_O, xreB_C, [])) xreB_ss xreB_rs = true := by decide +kernel
def xreB_r (v311 : Int32) (k_ : Nat) : Value := bif Nat.beq k_ 311 then .int v311 else (.int 0)
def xreB_s (n_ : Nat) : Nat := 0
theorem xreB {h_ : xH} {v311 : Int32} (hs : sHp h_) (o0_ : bpat h_ 1 11 = some (.int v311)) : ∃ h', ysm h_ h' ∧ (((∀ a_ j_ : Nat, bpat h' a_ j_ = bpat h_ a_ j_) ∧ (∀ D_, 60 ≤ D_ → xrun D_ 113 24 [(0, .index 0)] [] h_ (some (.int v311), h', [])))) := by
  have hA : yas xreB_A (xreB_r v311) (yg xreB_s) := ⟨fun q_ hq => absurd hq List.not_mem_nil, fun q_ hq => absurd hq List.not_mem_nil, fun q_ hq => absurd hq List.not_mem_nil, fun n_ hn => yg_lo hn, fun q_ hq => absurd hq List.not_mem_nil⟩
  have Hs : ysh xreB_A.1 (yg xreB_s) h_ := ysh_of2 hs (fun q_ hq => absurd hq List.not_mem_nil)
  have Ho : ymem (xreB_r v311) (yg xreB_s) xreB_O h_ := List.forall_mem_cons.mpr ⟨bpat_some (fxr_at hs.2 (show fxk fxl 0 0 = some 1 by decide +kernel)), List.forall_mem_cons.mpr ⟨bpat_some o0_, fun q_ hq => absurd hq List.not_mem_nil⟩⟩
  have HC : ∀ q_ ∈ xreB_C, xhold (xreB_r v311) q_ := fun q_ hq => absurd hq List.not_mem_nil
  rcases yrun (yis_ok xreB_k) hA Hs Ho HC with ⟨q_, hq, h', K_, G_⟩ | ⟨q_, hq, h', K_, G_⟩
  · cases hq
  · have e_ := List.mem_singleton.mp hq
    subst e_
    exact ⟨h', yfr_sm K_.2.2.2 hs K_.1 (ywa_r xreB_w List.mem_cons_self), ⟨fun a_ j_ => yfr_bp K_.2.2.2 (fun q_ hq => absurd hq List.not_mem_nil), G_⟩⟩
theorem x_image {W_ : Nat → List Int32} {V : Nat → Int32} {h_ : xH} (B_ : bInv bZ bIj h_) (H_ : SX W_ V h_) : ∃ h', ysm h_ h' ∧ (SX (imW W_) (imV V) h' ∧ ∀ D_, 66 ≤ D_ → xrun D_ 112 0 [(0, .index 0)] [] h_ (some (.int (V 200 + 1)), h', [])) := by
  obtain ⟨h0, m0_, f0_, ld0⟩ := ximA H_.1
  obtain ⟨ex_, ej⟩ := wex (o_ := 0) B_ (Or.inl rfl)
  obtain ⟨y0, i0_⟩ := in_ex (a_ := 1) (j_ := 11) B_ (by decide +kernel)
  obtain ⟨y1, i1_⟩ := in_ex (a_ := 15) (j_ := 1) B_ (by decide +kernel)
  obtain ⟨y2, i2_⟩ := in_ex (a_ := 15) (j_ := 2) B_ (by decide +kernel)
  have r1_ := rf_ex (a_ := 88) (j_ := 0) (m_ := 89) B_ (by decide +kernel)
  have r2 := rf_ex (a_ := 15) (j_ := 0) (m_ := 16) B_ (by decide +kernel)
  have H0 := SX_fr H_ m0_ (fun c_ j_ _ => f0_ c_ j_)
  obtain ⟨h1, m1_, ⟨f1_, -⟩, ⟨v1_, v2⟩, rr⟩ := wcp_i H0.1 H0.2.1 (by
    obtain ⟨l1, l2, l3, R1, R2, R3⟩ := ex_
    exact ⟨l1, l2, l3, rwx_keep R1 m0_ (fun c_ j_ _ => f0_ c_ j_), rwx_keep R2 m0_ (fun c_ j_ _ => f0_ c_ j_), rwx_keep R3 m0_ (fun c_ j_ _ => f0_ c_ j_)⟩) (fun c_ hc_ => by
    obtain ⟨l, R_⟩ := ej c_ hc_
    exact ⟨l, rwx_keep R_ m0_ (fun c_ j_ _ => f0_ c_ j_)⟩) ⟨y0, y1, y2, (f0_ _ _).trans i0_, (f0_ _ _).trans i1_, (f0_ _ _).trans i2_⟩ ⟨(f0_ _ _).trans r1_, (f0_ _ _).trans r2⟩
  have ld1 := ycv (mi := 112) (pc := 8) (lo_ := [(0, .index 0)]) (st_ := [.index 1, .index 74]) (as_ := [.index 1]) (s' := []) (d_ := 63) rfl rfl (bcq_of (n_ := 74) (z_ := (10, 15)) H0.1 rfl) rfl (xcc_l (List.forall_mem_cons.mpr ⟨xidx_i (bcq_lt (bcq_of (n_ := 0) (z_ := (11, 15)) H0.1 rfl)), fun q_ hq => absurd hq List.not_mem_nil⟩) (fun t_ ht => absurd ht List.not_mem_nil) (Nat.le_of_ble_eq_true rfl)) rr
  obtain ⟨h2, m2_, e2_, f2_, r2⟩ := ximB (v310 := V 200) m1_.1 ((f1_ _ _ (by omega)).trans H0.2.2.2.1)
  have M_ := ysm_tr m1_ m2_
  have g0 : ∀ c_ j_, 1 ≤ c_ → ¬ (74 ≤ c_ ∧ c_ ≤ 146) → bpat h2 c_ j_ = bpat h0 c_ j_ := fun c_ j_ n1_ n2_ => (f2_ c_ j_ (fun q_ => by omega)).trans (f1_ c_ j_ (by omega))
  have g1 : ∀ c_ j_, 1 ≤ c_ → bpat h2 c_ j_ = bpat h1 c_ j_ := fun c_ j_ n1_ => f2_ c_ j_ (fun q_ => by omega)
  refine ⟨h2, ysm_tr m0_ M_, ⟨m2_.1, XW_un H0.2.1 M_ (fun c_ j_ n1_ n2_ => g0 c_ j_ (by omega) (by omega)) (fun k_ hk => ?_) (fun k_ hk => ?_), ⟨fun p_ hp => ?_, fun p_ hp => ?_⟩, ?_, XS_un H0.2.2.2.2 (fun c_ j_ n1_ n2_ => g0 c_ j_ (by omega) (by omega)) (fun k_ hk => ?_) (fun k_ hk => ?_)⟩, fun D_ hD => ld0 D_ (by omega) _ (ld1 D_ (by omega) _ (r2 D_ (by omega)))⟩
  · unfold imW
    rw [if_neg (by omega)]
  · unfold imV
    rw [if_neg (by omega), if_neg (by omega)]
  · obtain ⟨k1_, k2_, k3_⟩ := kv_l hp
    have e_ : imV V (100 + p_.2) = V (0 + p_.2) := by
      unfold imV
      rw [if_pos (by omega), show 100 + p_.2 - 100 = 0 + p_.2 by omega]
    rw [e_]
    exact (g1 _ _ (by omega)).trans (v1_ p_ hp)
  · obtain ⟨k1_, ⟨k2_, k3_⟩, k4_, k5_⟩ := kr_l hp
    have e_ : imW W_ (100 + p_.2.2.2) = W_ (0 + p_.2.2.2) := by
      unfold imW
      rw [if_pos (by omega), show 100 + p_.2.2.2 - 100 = 0 + p_.2.2.2 by omega]
    rw [e_]
    exact rwx_keep (v2 p_ hp) m2_ (fun c_ j_ hc_ => g1 c_ j_ (by rcases hc_ with rfl | rfl <;> omega))
  · have e_ : imV V 200 = V 200 + 1 := by
      unfold imV
      rw [if_neg (by omega), if_pos rfl]
    rw [e_]
    exact e2_
  · unfold imW
    rw [if_neg (by omega)]
  · unfold imV
    rw [if_neg (by omega), if_neg (by omega)]
theorem x_restore {W_ : Nat → List Int32} {V : Nat → Int32} {h_ : xH} (B_ : bInv bZ bIj h_) (H_ : SX W_ V h_) : ∃ y_ h', ysm h_ h' ∧ (SX (if V 200 = 0 then W_ else rsW W_) (if V 200 = 0 then V else rsV V) h' ∧ ∀ D_, 66 ≤ D_ → xrun D_ 113 0 [(0, .index 0)] [] h_ (some (.int y_), h', [])) := by
  obtain ⟨ye, oe⟩ := xerr (k_ := 2) B_ (by omega)
  obtain ⟨h0, m0_, e_⟩ := xreA H_.1 H_.2.2.2.1 oe
  rcases e_ with ⟨g1, f0_, ld0⟩ | ⟨g1, w0_, f0_, r0⟩
  rotate_left
  · rw [if_pos g1, if_pos g1]
    exact ⟨_, h0, m0_, SX_e H_ m0_ f0_, fun D_ hD => r0 D_ (by omega)⟩
  rw [if_neg g1, if_neg g1]
  obtain ⟨ex_, ej⟩ := wex (o_ := 73) B_ (Or.inr rfl)
  obtain ⟨y0, i0_⟩ := in_ex (a_ := 74) (j_ := 11) B_ (by decide +kernel)
  obtain ⟨y1, i1_⟩ := in_ex (a_ := 88) (j_ := 1) B_ (by decide +kernel)
  obtain ⟨y2, i2_⟩ := in_ex (a_ := 88) (j_ := 2) B_ (by decide +kernel)
  have r1_ := rf_ex (a_ := 88) (j_ := 0) (m_ := 89) B_ (by decide +kernel)
  have r2 := rf_ex (a_ := 15) (j_ := 0) (m_ := 16) B_ (by decide +kernel)
  have H0 := SX_fr H_ m0_ (fun c_ j_ _ => f0_ c_ j_)
  obtain ⟨h1, m1_, ⟨f1_, yw, ew⟩, ⟨v1_, v2⟩, rr⟩ := wcp_r H0.1 H0.2.2.1 (by
    obtain ⟨l1, l2, l3, R1, R2, R3⟩ := ex_
    exact ⟨l1, l2, l3, rwx_keep R1 m0_ (fun c_ j_ _ => f0_ c_ j_), rwx_keep R2 m0_ (fun c_ j_ _ => f0_ c_ j_), rwx_keep R3 m0_ (fun c_ j_ _ => f0_ c_ j_)⟩) (fun c_ hc_ => by
    obtain ⟨l, R_⟩ := ej c_ hc_
    exact ⟨l, rwx_keep R_ m0_ (fun c_ j_ _ => f0_ c_ j_)⟩) ⟨y0, y1, y2, (f0_ _ _).trans i0_, (f0_ _ _).trans i1_, (f0_ _ _).trans i2_⟩ ⟨(f0_ _ _).trans r2, (f0_ _ _).trans r1_⟩
  have ld1 := ycv (mi := 113) (pc := 21) (lo_ := [(0, .index 0)]) (st_ := [.index 74, .index 1]) (as_ := [.index 74]) (s' := []) (d_ := 63) rfl rfl (bcq_of (n_ := 1) (z_ := (10, 15)) H0.1 rfl) rfl (xcc_l (List.forall_mem_cons.mpr ⟨xidx_i (bcq_lt (bcq_of (n_ := 0) (z_ := (11, 15)) H0.1 rfl)), fun q_ hq => absurd hq List.not_mem_nil⟩) (fun t_ ht => absurd ht List.not_mem_nil) (Nat.le_of_ble_eq_true rfl)) rr
  obtain ⟨h2, m2_, f2_, r2⟩ := xreB m1_.1 ew
  have M_ := ysm_tr m1_ m2_
  have g0 : ∀ c_ j_, ¬ (1 ≤ c_ ∧ c_ ≤ 73) → bpat h2 c_ j_ = bpat h0 c_ j_ := fun c_ j_ n2_ => (f2_ c_ j_).trans (f1_ c_ j_ (by omega))
  refine ⟨_, h2, ysm_tr m0_ M_, ⟨m2_.1, ⟨fun p_ hp => ?_, fun p_ hp => ?_⟩, XW_un H0.2.2.1 M_ (fun c_ j_ n1_ n2_ => g0 c_ j_ (by omega)) (fun k_ hk => ?_) (fun k_ hk => ?_), ?_, XS_un H0.2.2.2.2 (fun c_ j_ n1_ n2_ => g0 c_ j_ (by omega)) (fun k_ hk => ?_) (fun k_ hk => ?_)⟩, fun D_ hD => ld0 D_ (by omega) _ (ld1 D_ (by omega) _ (r2 D_ (by omega)))⟩
  · obtain ⟨k1_, k2_, k3_⟩ := kv_l hp
    have e_ : rsV V (0 + p_.2) = V (100 + p_.2) := by
      unfold rsV
      rw [if_pos (by omega), show 0 + p_.2 + 100 = 100 + p_.2 by omega]
    rw [e_]
    exact (f2_ _ _).trans (v1_ p_ hp)
  · obtain ⟨k1_, ⟨k2_, k3_⟩, k4_, k5_⟩ := kr_l hp
    have e_ : rsW W_ (0 + p_.2.2.2) = W_ (100 + p_.2.2.2) := by
      unfold rsW
      rw [if_pos (by omega), show 0 + p_.2.2.2 + 100 = 100 + p_.2.2.2 by omega]
    rw [e_]
    exact rwx_keep (v2 p_ hp) m2_ (fun c_ j_ hc_ => f2_ c_ j_)
  · unfold rsW
    rw [if_neg (by omega)]
  · unfold rsV
    rw [if_neg (by omega)]
  · have e_ : rsV V 200 = V 200 := by
      unfold rsV
      rw [if_neg (by omega)]
    rw [e_]
    exact (g0 _ _ (by omega)).trans H0.2.2.2.1
  · unfold rsW
    rw [if_neg (by omega)]
  · unfold rsV
    rw [if_neg (by omega)]
