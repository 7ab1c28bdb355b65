-- ===== VOICES: each case is one of those
theorem tv_int (h_ : xH) (a_ j_ : Nat) : (Int32.ofInt (tv h_ a_ j_)).toInt = tv h_ a_ j_ := by
  unfold tv
  split
  · rw [Int32.ofInt_toInt]
  · rfl
def vS : List (Nat × Nat × Nat) := [(310, 1, 10), (311, 323, 1), (312, 323, 6), (313, 341, 1), (314, 341, 6)]
def vr (h_ : xH) (c_ v_ x_ : Int32) (k_ : Nat) : Value := bif Nat.beq k_ 1 then .int c_ else (bif Nat.beq k_ 2 then .int v_ else (bif Nat.beq k_ 3 then .int x_ else (bif Nat.beq k_ 302 then .int (Int32.ofInt (tv h_ (58 + c_.toNatClampNeg) 1)) else (match yzl vS k_ with
  | some p_ => .int (Int32.ofInt (tv h_ p_.1 p_.2))
  | none => .int 0))))
def vP : List ((Nat × Nat) × (Nat × Nat)) := [((1, 10), (339, 1))]
theorem vOx0_k : vOx0.all (yo1 bIj vP vS) = true := by decide +kernel
theorem vOm0_k : vOm0.all (fun q_ => yo1 bIj vP vS q_ && Nat.ble 338 q_.1) = true := by decide +kernel
theorem vI1 : (List.range 8).all (fun k_ => (match bIj 3 k_ with
  | some (.inr [.index m_]) => Nat.beq m_ (58 + k_)
  | _ => false) && ((match bIj (58 + k_) 0 with
  | some (.inl (l, u_)) => decide (l = 0) && decide (u_ = 20)
  | _ => false) && ((match bIj (58 + k_) 1 with
  | some (.inl (l, u_)) => decide (l = 0) && decide (u_ = 20)
  | _ => false) && ((match bzf (58 + k_) with
  | some z_ => decide (z_ = (5, 3))
  | none => false) && ((match bIj 339 (10 + 3 * k_) with
  | some (.inl _) => true
  | _ => false) && (match bIj 339 (10 + 3 * k_ + 1) with
  | some (.inl _) => true
  | _ => false)))))) = true := by decide +kernel
theorem vI2 : bIj 1 10 = some (.inl (0, 8)) := by decide +kernel
theorem vI3 : (List.range 8).all (fun k_ => Nat.beq ((10 : Int32) + 3 * Int32.ofNat k_ + 0).toNatClampNeg (10 + 3 * k_) && Nat.beq ((10 : Int32) + 3 * Int32.ofNat k_ + 1).toNatClampNeg (10 + 3 * k_ + 1)) = true := by decide +kernel
theorem vck_all (k_ : Nat) (hk : k_ < 7) : ((List.range 3).all (fun v_ => vck k_ v_ 3) && (List.range 3).all (fun e_ => vck k_ 3 e_)) = true := match k_, hk with
  | 0, _ => vck0
  | 1, _ => vck1
  | 2, _ => vck2
  | 3, _ => vck3
  | 4, _ => vck4
  | 5, _ => vck5
  | 6, _ => vck6
  | n_ + 7, hk => absurd hk (by omega)
theorem tv_rng {I_ : Nat → Nat → Option bN} {h_ : xH} {a_ j_ : Nat} {z_ : Nat × Nat} (H_ : bInv bZ I_ h_) (hz : bZ[a_]? = some z_) (hj : j_ < z_.2) {l u_ : Int} (hI : I_ a_ j_ = some (.inl (l, u_))) : l ≤ tv h_ a_ j_ ∧ tv h_ a_ j_ ≤ u_ := by
  obtain ⟨c_, x_, -, -, e_, b1, b2⟩ := bint_at H_.1 hz hj hI
  rw [e_]
  exact ⟨b1, b2⟩
section
variable {h_ hh : xH} {c_ v_ x_ : Int32}
theorem vS_ok {k_ : Nat} {p_ : Nat × Nat} (e_ : yzl vS k_ = some p_) : vr h_ c_ v_ x_ k_ = .int (Int32.ofInt (tv h_ p_.1 p_.2)) := by
  have m_ := yzl_in e_
  have q_ : Nat.beq k_ 1 = false ∧ Nat.beq k_ 2 = false ∧ Nat.beq k_ 3 = false ∧ Nat.beq k_ 302 = false := by
    simp only [vS, List.mem_cons, Prod.mk.injEq, List.not_mem_nil, or_false] at m_
    rcases m_ with ⟨rfl, -⟩ | ⟨rfl, -⟩ | ⟨rfl, -⟩ | ⟨rfl, -⟩ | ⟨rfl, -⟩ <;> exact ⟨rfl, rfl, rfl, rfl⟩
  unfold vr
  rw [q_.1, q_.2.1, q_.2.2.1, q_.2.2.2, e_]
  rfl
theorem vOx0_ok {s_ : Nat → Nat} (H_ : bInv bZ bIj h_) (hc_ : tv h_ 1 10 = tv h_ 339 1) : ymem (vr h_ c_ v_ x_) (yg s_) vOx0 h_ := fun q_ hq => yo1_ok (h0 := h_) H_ (fun w_ hw => by
  have e_ := List.mem_singleton.mp hw
  subst e_
  exact hc_) (fun k_ p_ e_ => ⟨vS_ok e_, Or.inl rfl⟩) (List.all_eq_true.mp vOx0_k q_ hq)
theorem vOm0_ok {s_ : Nat → Nat} (H_ : bInv bZ bIj hh) (hm_ : ∀ a_ j_, 338 ≤ a_ → tv hh a_ j_ = tv h_ a_ j_) (hc_ : tv h_ 1 10 = tv h_ 339 1) : ymem (vr h_ c_ v_ x_) (yg s_) vOm0 hh := by
  intro q_ hq
  have k_ := List.all_eq_true.mp vOm0_k q_ hq
  rw [Bool.and_eq_true] at k_
  have l := Nat.le_of_ble_eq_true k_.2
  refine yo1_ok (h0 := h_) H_ (fun w_ hw => ?_) (fun k_ p_ e_ => ⟨vS_ok e_, ?_⟩) k_.1
  · have e_ := List.mem_singleton.mp hw
    subst e_
    rw [hc_]
    exact (hm_ 339 1 (by omega)).symm
  · by_cases g_ : 338 ≤ p_.1
    · exact Or.inl (hm_ _ _ g_).symm
    · refine Or.inr (fun e_ => ?_)
      have e_ := Nat.eq_of_beq_eq_true e_
      omega
theorem vA0 {s_ : Nat → Nat} : yas vAx0 (vr h_ c_ v_ x_) (yg s_) := ⟨fun q_ hq => absurd hq List.not_mem_nil, fun q_ hq => absurd hq List.not_mem_nil, fun q_ hq => absurd hq List.not_mem_nil, fun n_ hn => yg_lo hn, fun q_ hq => absurd hq List.not_mem_nil⟩
theorem vH0 {s_ : Nat → Nat} (H_ : bInv bZ bIj h_) : ysh vAx0.1 (yg s_) h_ := ysh_of H_ (fun q_ hq => absurd hq List.not_mem_nil)
theorem yv1 : yv (vr h_ c_ v_ x_) (.arg 1) = c_ := rfl
theorem yv2 : yv (vr h_ c_ v_ x_) (.arg 2) = v_ := rfl
theorem yv310 : (yv (vr h_ c_ v_ x_) (.arg 310)).toInt = tv h_ 1 10 := tv_int h_ 1 10
theorem yv302 : (yv (vr h_ c_ v_ x_) (.arg 302)).toInt = tv h_ (58 + c_.toNatClampNeg) 1 := tv_int h_ _ 1
theorem yvi {r_ : Nat → Value} {y_ : Int32} : yv r_ (.int y_) = y_ := rfl
theorem yvs {r_ : Nat → Value} {a_ b_ : Jvm.Term} (h1 : -2147483648 ≤ (yv r_ a_).toInt - (yv r_ b_).toInt) (h2 : (yv r_ a_).toInt - (yv r_ b_).toInt ≤ 2147483647) : (yv r_ (.sub a_ b_)).toInt = (yv r_ a_).toInt - (yv r_ b_).toInt := by
  show (yv r_ a_ - yv r_ b_).toInt = _
  rw [Int32.toInt_sub, xbm32 h1 h2]
def vGo (h_ : xH) (c_ v_ x_ : Int32) : Prop := ∃ (y_ : Int32) (h1 : xH), xrun 999 106 0 (xal 0 [.index 0, .int c_, .int v_, .int x_]) [] h_ (some (.int y_), h1, []) ∧ ∀ hh : xH, bInv bZ bIj hh → (∀ a_ j_, 338 ≤ a_ → tv hh a_ j_ = tv h_ a_ j_) → ∃ (y2 : Int32) (h2 : xH), xrun 999 225 0 (xal 0 [.index 338, .int c_, .int v_, .int x_]) [] hh (some (.int y2), h2, []) ∧ y_ = y2 ∧ ((∀ q_ ∈ vTr, tv h_ q_.1.1 q_.1.2 = tv h_ q_.2.1 q_.2.2) → ∀ q_ ∈ vTr, tv h1 q_.1.1 q_.1.2 = tv h2 q_.2.1 q_.2.2)
theorem vTr_m : vTr.all (fun q_ => Nat.ble 338 q_.2.1) = true := by decide +kernel
theorem vGo_of {Ax Am : yA} {vo : Jvm.Term} {Ox Om : yO} {Cx Cm : List xB} {nm : Bool} {s_ : Nat → Nat} (hk : vok nm (vrx Ax vo Ox Cx) (vrm Am vo Om Cm) = true) (hAx : yas Ax (vr h_ c_ v_ x_) (yg s_)) (hAm : yas Am (vr h_ c_ v_ x_) (yg s_)) (Sx : ysh Ax.1 (yg s_) h_) (Ho : ymem (vr h_ c_ v_ x_) (yg s_) Ox h_) (HCx : ∀ q_ ∈ Cx, xhold (vr h_ c_ v_ x_) q_) (HCm : ∀ q_ ∈ Cm, xhold (vr h_ c_ v_ x_) q_) (hnm : nm = true → yv (vr h_ c_ v_ x_) vby = -1) (hv : ysb (vr h_ c_ v_ x_) (yg s_) vo = .int v_) (Hm_ : ∀ hh : xH, bInv bZ bIj hh → (∀ a_ j_, 338 ≤ a_ → tv hh a_ j_ = tv h_ a_ j_) → ysh Am.1 (yg s_) hh ∧ ymem (vr h_ c_ v_ x_) (yg s_) Om hh) : vGo h_ c_ v_ x_ := by
  obtain ⟨y_, h1, R1, K_⟩ := vgo hk hAx hAm Sx Ho HCx HCm hnm (show vr h_ c_ v_ x_ 1 = .int c_ from rfl) (show vr h_ c_ v_ x_ 3 = .int x_ from rfl) hv
  refine ⟨y_, h1, R1, fun hh Hh em => ?_⟩
  obtain ⟨m1_, m2_⟩ := Hm_ hh Hh em
  obtain ⟨y2, h2, R2, e_, T⟩ := K_ hh m1_ m2_
  refine ⟨y2, h2, R2, e_, fun hT_ => T (fun q_ hq => ?_)⟩
  rw [em _ _ (Nat.le_of_ble_eq_true (List.all_eq_true.mp vTr_m q_ hq))]
  exact hT_ q_ hq
theorem vE0 {Cx Cm : List xB} (H_ : bInv bZ bIj h_) (hc_ : tv h_ 1 10 = tv h_ 339 1) (hk : vok false (vrx vAx0 (.arg 2) vOx0 Cx) (vrm vAx0 (.arg 2) vOm0 Cm) = true) (HCx : ∀ q_ ∈ Cx, xhold (vr h_ c_ v_ x_) q_) (HCm : ∀ q_ ∈ Cm, xhold (vr h_ c_ v_ x_) q_) : vGo h_ c_ v_ x_ := by
  refine vGo_of (s_ := id) hk vA0 vA0 (vH0 H_) (vOx0_ok H_ hc_) HCx HCm (fun e_ => (by cases e_)) ?_ (fun hh Hh em => ⟨vH0 Hh, vOm0_ok Hh em hc_⟩)
  rw [ysb_I (show xI (.arg 2) = true from rfl)]
  rfl
theorem all_c {P_ : xB → Prop} {q_ : xB} {C_ : List xB} (h1 : P_ q_) (h2 : ∀ q_ ∈ C_, P_ q_) : ∀ z_ ∈ q_ :: C_, P_ z_ := List.forall_mem_cons.mpr ⟨h1, h2⟩
theorem all_n {P_ : xB → Prop} : ∀ z_ ∈ ([] : List xB), P_ z_ := fun z_ hz => absurd hz List.not_mem_nil
theorem voice_core (H_ : bInv bZ bIj h_) (hc_ : tv h_ 1 10 = tv h_ 339 1) (hrk : ∀ k_, k_ < 8 → ∀ j_, j_ < 2 → tv h_ (58 + k_) j_ = tv h_ 339 (10 + 3 * k_ + j_)) (hkd : ∀ k_, k_ < 8 → tv h_ (58 + k_) 0 ≤ 6) : vGo h_ c_ v_ x_ := by
  have cl_ := bi_lo c_
  have ch_ := bi_hi c_
  obtain ⟨b1, b2⟩ := tv_rng H_ (bzf_at (show bzf 1 = some (10, 15) from rfl)) (show 10 < 15 by omega) vI2
  have z0 : (0 : Int32).toInt = 0 := rfl
  have z1 : (1 : Int32).toInt = 1 := rfl
  have z4 : (4 : Int32).toInt = 4 := rfl
  have cnt_ : (yv (vr h_ c_ v_ x_) (.sub (.arg 310) (.int 1))).toInt = tv h_ 1 10 - 1 := by
    rw [yvs (by rw [yv310, yvi, z1]; omega) (by rw [yv310, yvi, z1]; omega), yv310, yvi, z1]
  by_cases g1 : c_.toInt < 0
  · exact vE0 H_ hc_ vE1_k (all_c (xh_ltT (by rw [yv1, yvi, z0]; exact g1)) all_n) (all_c (xh_ltT (by rw [yv1, yvi, z0]; exact g1)) all_n)
  have a1_ : xhold (vr h_ c_ v_ x_) (.lt, .arg 1, .int 0, false) := xh_ltF (by rw [yv1, yvi, z0]; omega)
  by_cases g2 : tv h_ 1 10 ≤ c_.toInt
  · exact vE0 H_ hc_ vE2_k (all_c a1_ (all_c (xh_ltF (by rw [yv1, yv310]; exact g2)) all_n)) (all_c a1_ (all_c (xh_leF (by rw [yv1, cnt_]; omega)) all_n))
  have a2 : xhold (vr h_ c_ v_ x_) (.lt, .arg 1, .arg 310, true) := xh_ltT (by rw [yv1, yv310]; omega)
  have a3 : xhold (vr h_ c_ v_ x_) (.le, .arg 1, .sub (.arg 310) (.int 1), true) := xh_leT (by rw [yv1, cnt_]; omega)
  by_cases g3_ : v_.toInt < 0
  · have a4 : xhold (vr h_ c_ v_ x_) (.lt, .arg 2, .int 0, true) := xh_ltT (by rw [yv2, yvi, z0]; exact g3_)
    exact vE0 H_ hc_ vE3_k (all_c a1_ (all_c a2 (all_c a4 all_n))) (all_c a1_ (all_c a3 (all_c a4 all_n)))
  by_cases g4 : 4 ≤ v_.toInt
  · have a4 : xhold (vr h_ c_ v_ x_) (.lt, .arg 2, .int 0, false) := xh_ltF (by rw [yv2, yvi, z0]; omega)
    have a5 : xhold (vr h_ c_ v_ x_) (.lt, .arg 2, .int 4, false) := xh_ltF (by rw [yv2, yvi, z4]; exact g4)
    exact vE0 H_ hc_ vE4_k (all_c a1_ (all_c a2 (all_c a4 (all_c a5 all_n)))) (all_c a1_ (all_c a3 (all_c a4 (all_c a5 all_n))))
  -- the ROCK, the KIND, the VOICE
  obtain ⟨k_, hk8, ek⟩ : ∃ k_ : Nat, k_ < 8 ∧ c_.toInt = (k_ : Int) := ⟨c_.toInt.toNat, by omega, by omega⟩
  have ck : c_.toNatClampNeg = k_ := by
    show c_.toInt.toNat = k_
    omega
  have cN : c_ = Int32.ofNat k_ := by
    refine Int32.toInt_inj.mp ?_
    rw [Int32.toInt_ofNat_of_lt (by omega), ek]
  have i1_ := List.all_eq_true.mp vI1 k_ (List.mem_range.mpr hk8)
  simp only [Bool.and_eq_true] at i1_
  obtain ⟨j1, j2_, j3_, j4_, j5_, j6_⟩ := i1_
  have i3_ := List.all_eq_true.mp vI3 k_ (List.mem_range.mpr hk8)
  simp only [Bool.and_eq_true] at i3_
  have zR : bzf (58 + k_) = some (5, 3) := by
    split at j4_
    · rename_i z_ hz
      rw [hz, of_decide_eq_true j4_]
    · cases j4_
  have zb := bzf_at zR
  have I0_ : bIj (58 + k_) 0 = some (.inl (0, 20)) := by
    split at j2_
    · rename_i l u_ hz
      simp only [Bool.and_eq_true, decide_eq_true_eq] at j2_
      rw [hz, j2_.1, j2_.2]
    · cases j2_
  have I1 : bIj (58 + k_) 1 = some (.inl (0, 20)) := by
    split at j3_
    · rename_i l u_ hz
      simp only [Bool.and_eq_true, decide_eq_true_eq] at j3_
      rw [hz, j3_.1, j3_.2]
    · cases j3_
  have I3 : bIj 3 k_ = some (.inr [.index (58 + k_)]) := by
    split at j1
    · rename_i m_ hz
      rw [hz, Nat.eq_of_beq_eq_true j1]
    · cases j1
  obtain ⟨kl, -⟩ := tv_rng H_ zb (show 0 < 3 by omega) I0_
  have ku := hkd k_ hk8
  obtain ⟨ml_, mu_⟩ := tv_rng H_ zb (show 1 < 3 by omega) I1
  obtain ⟨kd, hkd, ekd⟩ : ∃ n_ : Nat, n_ < 7 ∧ tv h_ (58 + k_) 0 = (n_ : Int) := ⟨(tv h_ (58 + k_) 0).toNat, by omega, by omega⟩
  obtain ⟨vo, hvo, evo⟩ : ∃ n_ : Nat, n_ < 4 ∧ v_.toInt = (n_ : Int) := ⟨v_.toInt.toNat, by omega, by omega⟩
  have vN : v_ = Int32.ofNat vo := by
    refine Int32.toInt_inj.mp ?_
    rw [Int32.toInt_ofNat_of_lt (by omega), evo]
  have kN_ : Int32.ofInt (tv h_ (58 + k_) 0) = Int32.ofNat kd := by
    refine Int32.toInt_inj.mp ?_
    rw [tv_int, Int32.toInt_ofNat_of_lt (by omega), ekd]
  have xk : yix (vr h_ c_ v_ x_) vkk = 10 + 3 * k_ := by
    show ((10 : Int32) + 3 * c_ + 0).toNatClampNeg = _
    rw [cN]
    exact Nat.eq_of_beq_eq_true i3_.1
  have xm : yix (vr h_ c_ v_ x_) vmm = 10 + 3 * k_ + 1 := by
    show ((10 : Int32) + 3 * c_ + 1).toNatClampNeg = _
    rw [cN]
    exact Nat.eq_of_beq_eq_true i3_.2
  have hAx : yas vAx (vr h_ c_ v_ x_) (yg (fun _ => 58 + k_)) := by
    refine ⟨fun q_ hq => ?_, fun q_ hq => absurd hq List.not_mem_nil, fun q_ hq => absurd hq List.not_mem_nil, fun n_ hn => yg_lo hn, fun q_ hq => absurd hq List.not_mem_nil⟩
    have e_ := List.mem_singleton.mp hq
    subst e_
    exact ⟨by show 0 ≤ c_.toInt; omega, by show c_.toInt < 8; omega⟩
  have hAm : yas vAm (vr h_ c_ v_ x_) (yg (fun _ => 58 + k_)) := by
    refine ⟨fun q_ hq => ?_, fun q_ hq => absurd hq List.not_mem_nil, fun q_ hq => absurd hq List.not_mem_nil, fun n_ hn => yg_lo hn, fun q_ hq => absurd hq List.not_mem_nil⟩
    rcases List.mem_cons.mp hq with e_ | hq
    · subst e_
      have xk : (yv (vr h_ c_ v_ x_) vkk).toInt.toNat = 10 + 3 * k_ := xk
      show 0 ≤ (yv (vr h_ c_ v_ x_) vkk).toInt ∧ (yv (vr h_ c_ v_ x_) vkk).toInt < 768
      omega
    · have e_ := List.mem_singleton.mp hq
      subst e_
      have xm : (yv (vr h_ c_ v_ x_) vmm).toInt.toNat = 10 + 3 * k_ + 1 := xm
      show 0 ≤ (yv (vr h_ c_ v_ x_) vmm).toInt ∧ (yv (vr h_ c_ v_ x_) vmm).toInt < 768
      omega
  have Sx : ysh vAx.1 (yg (fun _ => 58 + k_)) h_ := by
    refine ysh_of H_ (fun q_ hq => ?_)
    have e_ := List.mem_singleton.mp hq
    subst e_
    obtain ⟨c0_, d1_, d2_, d3_, -⟩ := H_.1.2 (58 + k_) (5, 3) zb
    exact ⟨by show 1000 ≤ 1000; omega, c0_, d1_, d2_, d3_⟩
  have gs : yg (fun _ => 58 + k_) 1000 = 58 + k_ := yg_hi (by omega)
  have Ho : ymem (vr h_ c_ v_ x_) (yg (fun _ => 58 + k_)) (vOx kd) h_ := by
    intro q_ hq
    rcases List.mem_cons.mp hq with e_ | hq
    · subst e_
      obtain ⟨c0_, d1_, d2_⟩ := yref H_ (bzf_at (show bzf 3 = some (22, 8) from rfl)) (show k_ < 8 from hk8) I3
      refine ⟨c0_, d1_, ?_⟩
      show c0_.2[c_.toNatClampNeg]? = some (.index (yg (fun _ => 58 + k_) 1000))
      rw [ck, gs]
      exact d2_
    · rcases List.mem_cons.mp hq with e_ | hq
      · subst e_
        obtain ⟨c0_, d1_, d2_⟩ := yint H_ zb (show 0 < 3 by omega) I0_
        refine ⟨c0_, by rw [gs]; exact d1_, ?_⟩
        rw [kN_] at d2_
        exact d2_
      · rcases List.mem_cons.mp hq with e_ | hq
        · subst e_
          obtain ⟨c0_, d1_, d2_⟩ := yint H_ zb (show 1 < 3 by omega) I1
          refine ⟨c0_, by rw [gs]; exact d1_, ?_⟩
          show c0_.2[1]? = some (.int (Int32.ofInt (tv h_ (58 + c_.toNatClampNeg) 1)))
          rw [ck]
          exact d2_
        · exact vOx0_ok H_ hc_ q_ hq
  have Hm_ : ∀ hh : xH, bInv bZ bIj hh → (∀ a_ j_, 338 ≤ a_ → tv hh a_ j_ = tv h_ a_ j_) → ysh vAm.1 (yg (fun _ => 58 + k_)) hh ∧ ymem (vr h_ c_ v_ x_) (yg (fun _ => 58 + k_)) (vOm kd) hh := by
    intro hh Hh em
    refine ⟨ysh_of Hh (fun q_ hq => absurd hq List.not_mem_nil), fun q_ hq => ?_⟩
    rcases List.mem_cons.mp hq with e_ | hq
    · subst e_
      split at j5_
      · rename_i lu hI
        obtain ⟨c0_, d1_, d2_⟩ := yint (l := lu.1) (u_ := lu.2) Hh (bzf_at (show bzf 339 = some (20, 768) from rfl)) (show 10 + 3 * k_ < 768 by omega) hI
        refine ⟨c0_, d1_, ?_⟩
        show c0_.2[yix (vr h_ c_ v_ x_) vkk]? = some (.int (Int32.ofNat kd))
        rw [xk, d2_, em 339 _ (by omega), ← kN_, hrk k_ hk8 0 (by omega)]
        rfl
      · cases j5_
    · rcases List.mem_cons.mp hq with e_ | hq
      · subst e_
        split at j6_
        · rename_i lu hI
          obtain ⟨c0_, d1_, d2_⟩ := yint (l := lu.1) (u_ := lu.2) Hh (bzf_at (show bzf 339 = some (20, 768) from rfl)) (show 10 + 3 * k_ + 1 < 768 by omega) hI
          refine ⟨c0_, d1_, ?_⟩
          show c0_.2[yix (vr h_ c_ v_ x_) vmm]? = some (.int (Int32.ofInt (tv h_ (58 + c_.toNatClampNeg) 1)))
          rw [xm, d2_, em 339 _ (by omega), ck, hrk k_ hk8 1 (by omega)]
        · cases j6_
      · exact vOm0_ok Hh em hc_ q_ hq
  have by_ : (yv (vr h_ c_ v_ x_) vby).toInt = tv h_ (58 + k_) 1 - (k_ : Int) := by
    show (yv (vr h_ c_ v_ x_) (.sub (.arg 302) (.arg 1))).toInt = _
    rw [yvs (by rw [yv302, yv1, ck]; omega) (by rw [yv302, yv1, ck]; omega), yv302, yv1, ck, ek]
  have fin_ : ∀ e_, vck kd vo e_ = true → (∀ q_ ∈ vCe e_, xhold (vr h_ c_ v_ x_) q_) → (Nat.beq e_ 1 = true → yv (vr h_ c_ v_ x_) vby = -1) → vGo h_ c_ v_ x_ := by
    intro e_ hk hC hn
    unfold vck at hk
    refine vGo_of hk hAx hAm Sx Ho (all_c a1_ (all_c a2 hC)) (all_c a1_ (all_c a3 hC)) hn ?_ Hm_
    show Jvm.Term.int (Int32.ofNat vo) = .int v_
    rw [vN]
  have kk := vck_all kd hkd
  rw [Bool.and_eq_true] at kk
  by_cases g5_ : vo < 3
  · exact fin_ 3 (List.all_eq_true.mp kk.1 vo (List.mem_range.mpr g5_)) all_n (fun e_ => absurd e_ (by decide))
  have e3_ : vo = 3 := by omega
  subst e3_
  have m1_ : (Int32.ofInt (-1)).toInt = -1 := by decide
  by_cases g6 : tv h_ (58 + k_) 1 = (k_ : Int)
  · exact fin_ 0 (List.all_eq_true.mp kk.2 0 (List.mem_range.mpr (by omega))) (all_c (xh_eqT (by rw [by_, yvi, z0]; omega)) all_n) (fun e_ => absurd e_ (by decide))
  have n0_ : xhold (vr h_ c_ v_ x_) (.eq, vby, .int 0, false) := xh_eqF (by rw [by_, yvi, z0]; omega)
  by_cases g7 : tv h_ (58 + k_) 1 = (k_ : Int) - 1
  · refine fin_ 1 (List.all_eq_true.mp kk.2 1 (List.mem_range.mpr (by omega))) (all_c n0_ (all_c (xh_eqT (by rw [by_, yvi, m1_]; omega)) all_n)) (fun _ => ?_)
    refine Int32.toInt_inj.mp ?_
    rw [by_, g7]
    show (k_ : Int) - 1 - k_ = -1
    omega
  · exact fin_ 2 (List.all_eq_true.mp kk.2 2 (List.mem_range.mpr (by omega))) (all_c n0_ (all_c (xh_eqF (by rw [by_, yvi, m1_]; omega)) all_n)) (fun e_ => absurd e_ (by decide))
end
/-- the pairs that voices want: how many ROCKS, their KINDS and numbers -/
def vRk (RP : lRel) : Bool := RP.1.any (fun q_ => decide (q_ = ((1, 10), (339, 1)))) && (List.range 8).all (fun k_ => (List.range 2).all (fun j_ => RP.1.any (fun q_ => decide (q_ = ((58 + k_, j_), (339, 10 + 3 * k_ + j_))))) && RP.2.any (fun u_ => decide (lpx RP u_.1 = (58 + k_, 0)) && decide (u_.2.2 ≤ 6)))
theorem voice_ex {RP : lRel} {h_ : xH} {c_ v_ x_ : Int32} (hk : vRk RP = true) (H_ : bInv bZ bIj h_) (R_ : lRp RP h_) : vGo h_ c_ v_ x_ := by
  unfold vRk at hk
  rw [Bool.and_eq_true] at hk
  refine voice_core H_ ?_ (fun k_ hk8 j_ hj => ?_) (fun k_ hk8 => ?_)
  · obtain ⟨q_, hq, e_⟩ := List.any_eq_true.mp hk.1
    have e_ := of_decide_eq_true e_
    subst e_
    exact R_.1 _ hq
  · have z_ := List.all_eq_true.mp hk.2 k_ (List.mem_range.mpr hk8)
    rw [Bool.and_eq_true] at z_
    obtain ⟨q_, hq, e_⟩ := List.any_eq_true.mp (List.all_eq_true.mp z_.1 j_ (List.mem_range.mpr hj))
    have e_ := of_decide_eq_true e_
    subst e_
    exact R_.1 _ hq
  · have z_ := List.all_eq_true.mp hk.2 k_ (List.mem_range.mpr hk8)
    rw [Bool.and_eq_true] at z_
    obtain ⟨u_, hu, e_⟩ := List.any_eq_true.mp z_.2
    simp only [Bool.and_eq_true, decide_eq_true_eq] at e_
    have b_ := (R_.2 u_ hu).2
    rw [e_.1] at b_
    exact Int.le_trans b_ e_.2
/-- answers alone -/
theorem voice_pr {RP : lRel} {Wx_ Wm_ : bW} (fx : lwFr 106 0 (lwI 3) Wx_) (fm : lwFr 225 338 (lwI 3) Wm_) (hk : (lexk RP [] Wx_ Wm_ && vRk RP) = true) (hR : lRk RP = true) : lwPr RP true 106 225 (lwI 3) := by
  rw [Bool.and_eq_true] at hk
  refine lwPr_ex fx fm hk.1 hR (fun h_ as_ H_ X_ R_ hp => ?_)
  obtain ⟨c_, v_, x_, rfl⟩ := lw_trp hp
  obtain ⟨y_, h1, R1, K_⟩ := voice_ex (c_ := c_) (v_ := v_) (x_ := x_) hk.2 H_ R_
  refine ⟨y_, h1, R1, fun as' hp' he hh Hh _ em => ?_⟩
  obtain ⟨c', v', x', rfl⟩ := lw_trp hp'
  have e1_ : c' = c_ := Int32.toInt_inj.mp (he 0)
  have e2_ : v' = v_ := Int32.toInt_inj.mp (he 1)
  have e3_ : x' = x_ := Int32.toInt_inj.mp (he 2)
  subst e1_
  subst e2_
  subst e3_
  obtain ⟨y2, h2, R2, e_, -⟩ := K_ hh Hh em
  exact ⟨y2, h2, R2, fun _ => e_, fun q_ hq => absurd hq List.not_mem_nil⟩
/-- and THE TRACE -/
theorem voice_prT {RP : lRel} {Wx_ Wm_ : bW} {eq_ : Bool} (fx : lwFr 106 0 (lwI 3) Wx_) (fm : lwFr 225 338 (lwI 3) Wm_) (hk : (lexk RP vTr Wx_ Wm_ && (vRk RP && vTr.all (fun u_ => RP.1.any (fun q_ => decide (q_ = u_))))) = true) (hR : lRk RP = true) : lwPr RP eq_ 106 225 (lwI 3) := by
  simp only [Bool.and_eq_true] at hk
  refine lwPr_ex (T := vTr) fx fm hk.1 hR (fun h_ as_ H_ X_ R_ hp => ?_)
  obtain ⟨c_, v_, x_, rfl⟩ := lw_trp hp
  obtain ⟨y_, h1, R1, K_⟩ := voice_ex (c_ := c_) (v_ := v_) (x_ := x_) hk.2.1 H_ R_
  refine ⟨y_, h1, R1, fun as' hp' he hh Hh _ em => ?_⟩
  obtain ⟨c', v', x', rfl⟩ := lw_trp hp'
  have e1_ : c' = c_ := Int32.toInt_inj.mp (he 0)
  have e2_ : v' = v_ := Int32.toInt_inj.mp (he 1)
  have e3_ : x' = x_ := Int32.toInt_inj.mp (he 2)
  subst e1_
  subst e2_
  subst e3_
  obtain ⟨y2, h2, R2, e_, T⟩ := K_ hh Hh em
  refine ⟨y2, h2, R2, fun _ => e_, T (fun q_ hq => ?_)⟩
  obtain ⟨u_, hu, eu⟩ := List.any_eq_true.mp (List.all_eq_true.mp hk.2.2 q_ hq)
  have eu := of_decide_eq_true eu
  subst eu
  exact R_.1 _ hu
