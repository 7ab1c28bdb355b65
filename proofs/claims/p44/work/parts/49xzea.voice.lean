-- ===== two methods run exactly, one after the other: the pair of them keeps the pairs
/-- each pair is looked after, or no write reaches it -/
def lexk (RP : lRel) (T : List ((Nat × Nat) × (Nat × Nat))) (Wx_ Wm_ : bW) : Bool := (RP.1.all (fun q_ => T.any (fun u_ => decide (u_ = q_)) || (!(biw Wx_ q_.1.1 q_.1.2) && !(biw Wm_ q_.2.1 q_.2.2))) && (lWx Wx_ && lWm Wm_)) && RP.2.all (fun b_ => !(biw Wx_ (lpx RP b_.1).1 (lpx RP b_.1).2) && Nat.ble ((lpx RP b_.1).1 + 1) 338)
theorem lwPr_ex {RP : lRel} {eq_ : Bool} {cx cm : Nat} {es : List bP} {Wx_ Wm_ : bW} {T : List ((Nat × Nat) × (Nat × Nat))} (fx : lwFr cx 0 es Wx_) (fm : lwFr cm 338 es Wm_) (hk : lexk RP T Wx_ Wm_ = true) (hR : lRk RP = true)
    (EX_ : ∀ (h_ : xH) (as_ : List Jvm.Term), bInv bZ bIj h_ → bXm h_ → lRp RP h_ → bPs es as_ → ∃ (y_ : Int32) (h1 : xH), xrun 999 cx 0 (xal 0 (.index 0 :: as_)) [] h_ (some (.int y_), h1, []) ∧ ∀ as', bPs es as' → (∀ j_, bpt as' j_ = bpt as_ j_) → ∀ hh : xH, bInv bZ bIj hh → bXm hh → (∀ a_ j_, 338 ≤ a_ → tv hh a_ j_ = tv h_ a_ j_) → ∃ (y2 : Int32) (h2 : xH), xrun 999 cm 0 (xal 0 (.index 338 :: as')) [] hh (some (.int y2), h2, []) ∧ (eq_ = true → y_ = y2) ∧ ∀ q_ ∈ T, tv h1 q_.1.1 q_.1.2 = tv h2 q_.2.1 q_.2.2) : lwPr RP eq_ cx cm es := by
  intro h_ as_ H_ X_ R_ hp
  obtain ⟨v_, h1, S1, H1_, X1, F1_⟩ := fx h_ _ H_ X_ hp
  obtain ⟨y_, h1', D1, EX_⟩ := EX_ h_ as_ H_ X_ R_ hp
  have e1_ := xrun_un S1 D1
  have eh : h1 = h1' := congrArg (fun o => o.2.1) e1_
  have ev_ : v_ = y_ := by
    have k_ : some (Jvm.Term.int v_) = some (.int y_) := congrArg (fun o => o.1) e1_
    exact Jvm.Term.int.inj (Option.some.inj k_)
  subst eh
  subst ev_
  refine ⟨v_, h1, S1, H1_, X1, fun as' hp' he => ?_⟩
  unfold lexk at hk
  simp only [Bool.and_eq_true] at hk
  obtain ⟨⟨k1_, k3_, k4_⟩, k6_⟩ := hk
  obtain ⟨R1, R2⟩ := R_
  have tx : ∀ a_ j_, 338 ≤ a_ → tv h1 a_ j_ = tv h_ a_ j_ := fun a_ j_ ha_ => tv_eq (F1_ a_ j_ (lWx_ok k3_ ha_))
  obtain ⟨y2, h2, D2, E1_, E2⟩ := EX_ as' hp' he h1 H1_ X1 tx
  obtain ⟨v2, h2', S2, H2_, X2, F2⟩ := fm h1 _ H1_ X1 hp'
  have e2_ := xrun_un S2 D2
  have eh : h2' = h2 := congrArg (fun o => o.2.1) e2_
  have ev_ : v2 = y2 := by
    have k_ : some (Jvm.Term.int v2) = some (.int y2) := congrArg (fun o => o.1) e2_
    exact Jvm.Term.int.inj (Option.some.inj k_)
  subst eh
  subst ev_
  have tm : ∀ a_ j_, a_ < 338 → tv h2' a_ j_ = tv h1 a_ j_ := fun a_ j_ ha_ => tv_eq (F2 a_ j_ (lWm_ok k4_ ha_))
  have hRb := hR
  unfold lRk at hRb
  rw [Bool.and_eq_true] at hRb
  refine ⟨v2, h2', S2, H2_, X2, ⟨?_, ?_⟩, E1_⟩
  · intro q_ hq
    have u_ := List.all_eq_true.mp hRb.2 q_ hq
    simp only [Bool.and_eq_true] at u_
    have w1_ : q_.1.1 < 338 := Nat.le_of_ble_eq_true u_.2.1
    have w2_ : 338 ≤ q_.2.1 := Nat.le_of_ble_eq_true u_.2.2
    have p_ := List.all_eq_true.mp k1_ q_ hq
    simp only [Bool.or_eq_true] at p_
    rw [tm _ _ w1_]
    rcases p_ with p_ | p_
    · obtain ⟨z_, hz, ez⟩ := List.any_eq_true.mp p_
      have ez := of_decide_eq_true ez
      subst ez
      exact E2 _ hz
    · simp only [Bool.and_eq_true, Bool.not_eq_true'] at p_
      rw [tv_eq (F1_ _ _ p_.1), R1 q_ hq, ← tx _ _ w2_]
      exact (tv_eq (F2 _ _ p_.2)).symm
  · intro b_ hb_
    have p_ := List.all_eq_true.mp k6_ b_ hb_
    simp only [Bool.and_eq_true, Bool.not_eq_true'] at p_
    rw [tm _ _ (Nat.le_of_ble_eq_true p_.2), tv_eq (F1_ _ _ p_.1)]
    exact R2 b_ hb_
theorem lw_trp {as_ : List Jvm.Term} (h_ : bPs (lwI 3) as_) : ∃ x_ y_ z_ : Int32, as_ = [.int x_, .int y_, .int z_] := by
  cases as_ with
  | nil => exact absurd h_ id
  | cons t_ u_ =>
    obtain ⟨⟨x_, rfl, -⟩, h2⟩ := h_
    cases u_ with
    | nil => exact absurd h2 id
    | cons t_ u_ =>
      obtain ⟨⟨y_, rfl, -⟩, h3⟩ := h2
      cases u_ with
      | nil => exact absurd h3 id
      | cons t_ u_ =>
        obtain ⟨⟨z_, rfl, -⟩, h4⟩ := h3
        cases u_ with
        | nil => exact ⟨x_, y_, z_, rfl⟩
        | cons t_ u_ => exact absurd h4 id
/-- no write to that place -/
def ynw (n_ j_ : Nat) (W_ : yW) : Bool := W_.all (fun q_ => Nat.ble q_.1 999 && (!(Nat.beq q_.1 n_) || (match xlit q_.2 with
  | some v_ => !(Nat.beq v_.toNatClampNeg j_)
  | none => false)))
theorem ynw_ok {n_ j_ : Nat} {W_ : yW} {r_ : Nat → Value} {s_ : Nat → Nat} (h_ : ynw n_ j_ W_ = true) : ∀ q_ ∈ W_, ¬ (yg s_ q_.1 = n_ ∧ yix r_ q_.2 = j_) := by
  intro q_ hq
  have k_ := List.all_eq_true.mp h_ q_ hq
  simp only [Bool.and_eq_true, Bool.or_eq_true, Bool.not_eq_true'] at k_
  have l := Nat.le_of_ble_eq_true k_.1
  rw [yg_lo (by omega)]
  rintro ⟨e1_, e2_⟩
  rcases k_.2 with k2_ | k2_
  · rw [e1_, Nat.beq_refl] at k2_
    cases k2_
  · cases hv : xlit q_.2 with
    | none => rw [hv] at k2_; cases k2_
    | some v_ =>
      rw [hv] at k2_
      simp only [Bool.not_eq_true'] at k2_
      rw [xlit_eq hv] at e2_
      have e2_ : v_.toNatClampNeg = j_ := e2_
      rw [e2_, Nat.beq_refl] at k2_
      cases k2_
/-- both ends say the same of these places -/
def ypr (T : List ((Nat × Nat) × (Nat × Nat))) (M_ N_ : yM) : Bool := T.all (fun q_ => (Nat.ble q_.1.1 999 && Nat.ble q_.2.1 999) && ((Nat.ble q_.1.2 1000 && Nat.ble q_.2.2 1000) && (match yrd q_.1.1 (.int (Int32.ofNat q_.1.2)) M_.1 with
  | some t_ => (match yrd q_.2.1 (.int (Int32.ofNat q_.2.2)) N_.1 with
    | some u_ => ytq t_ u_ && xI t_
    | none => false)
  | none => ynw q_.1.1 q_.1.2 M_.2.2 && ynw q_.2.1 q_.2.2 N_.2.2 && (match yrd q_.2.1 (.int (Int32.ofNat q_.2.2)) N_.1 with
    | some _ => false
    | none => true))))
theorem ypr_ok {T : List ((Nat × Nat) × (Nat × Nat))} {M_ N_ : yM} {r_ : Nat → Value} {s_ : Nat → Nat} {h_ h1 hh h2 : xH} (hk : ypr T M_ N_ = true) (hm_ : ymem r_ (yg s_) M_.1 h1) (hn : ymem r_ (yg s_) N_.1 h2) (fm : yfr r_ (yg s_) M_.2.2 h_ h1) (fn : yfr r_ (yg s_) N_.2.2 hh h2) (hT_ : ∀ q_ ∈ T, tv h_ q_.1.1 q_.1.2 = tv hh q_.2.1 q_.2.2) : ∀ q_ ∈ T, tv h1 q_.1.1 q_.1.2 = tv h2 q_.2.1 q_.2.2 := by
  intro q_ hq
  have k_ := List.all_eq_true.mp hk q_ hq
  simp only [Bool.and_eq_true] at k_
  obtain ⟨⟨k1_, k2_⟩, ⟨k3_, k4_⟩, k_⟩ := k_
  have l1 := Nat.le_of_ble_eq_true k1_
  have l2 := Nat.le_of_ble_eq_true k2_
  cases ha_ : yrd q_.1.1 (.int (Int32.ofNat q_.1.2)) M_.1 with
  | some t_ =>
    rw [ha_] at k_
    simp only at k_
    cases hb_ : yrd q_.2.1 (.int (Int32.ofNat q_.2.2)) N_.1 with
    | none => rw [hb_] at k_; cases k_
    | some u_ =>
      rw [hb_] at k_
      simp only [Bool.and_eq_true] at k_
      have e_ := ytq_eq k_.1
      subst e_
      have a_ := yget hm_ ha_ k_.2
      have b_ := yget hn hb_ k_.2
      rw [yg_lo (by omega), ykf k3_] at a_
      rw [yg_lo (by omega), ykf k4_] at b_
      rw [a_, b_]
  | none =>
    rw [ha_] at k_
    simp only [Bool.and_eq_true] at k_
    rw [yfr_tv fm (ynw_ok k_.1.1), yfr_tv fn (ynw_ok k_.1.2)]
    exact hT_ q_ hq
-- ===== VOICES
def vTr : List ((Nat × Nat) × (Nat × Nat)) := ((311, 1), (338, 19)) :: (List.range 30).map (fun j_ => ((312, j_), (349, j_)))
def vby : Jvm.Term := .sub (.arg 302) (.arg 1)
def vkk : Jvm.Term := .add (.add (.int 10) (.mul (.int 3) (.arg 1))) (.int 0)
def vmm : Jvm.Term := .add (.add (.int 10) (.mul (.int 3) (.arg 1))) (.int 1)
def vOx0 : yO := [(0, .int 0, .index 1), (1, .int 10, .arg 310), (0, .int 13, .index 323), (323, .int 1, .arg 311), (1, .int 1, .index 3), (0, .int 6, .index 310), (310, .int 0, .index 311), (311, .int 0, .index 312), (323, .int 6, .arg 312)]
def vOm0 : yO := [(338, .int 0, .index 339), (339, .int 1, .arg 310), (338, .int 3, .index 341), (341, .int 1, .arg 313), (338, .int 18, .index 349), (341, .int 6, .arg 314)]
def vOx (k_ : Nat) : yO := (3, .arg 1, .index 1000) :: (1000, .int 0, .int (Int32.ofNat k_)) :: (1000, .int 1, .arg 302) :: vOx0
def vOm (k_ : Nat) : yO := (339, vkk, .int (Int32.ofNat k_)) :: (339, vmm, .arg 302) :: vOm0
def vAx0 : yA := (yZ [], [], [], [], [])
def vAx : yA := (yZ [(1000, 5, 3)], [(.arg 1, 8)], [], [], [])
def vAm : yA := (yZ [], [(vkk, 768), (vmm, 768)], [], [], [])
def vCe (e_ : Nat) : List xB := match e_ with
  | 0 => [(.eq, vby, .int 0, true)]
  | 1 => [(.eq, vby, .int 0, false), (.eq, vby, .int (Int32.ofInt (-1)), true)]
  | 2 => [(.eq, vby, .int 0, false), (.eq, vby, .int (Int32.ofInt (-1)), false)]
  | _ => []
def vCx (e_ : Nat) : List xB := (.lt, .arg 1, .int 0, false) :: (.lt, .arg 1, .arg 310, true) :: vCe e_
def vCm (e_ : Nat) : List xB := (.lt, .arg 1, .int 0, false) :: (.le, .arg 1, .sub (.arg 310) (.int 1), true) :: vCe e_
/-- with the divisor -1, a quotient is what is less than 0 by as much -/
def vnm (t_ : Jvm.Term) : Jvm.Term := match t_ with
  | .add a_ b_ => .add (vnm a_) (vnm b_)
  | .sub a_ b_ => .sub (vnm a_) (vnm b_)
  | .mul a_ b_ => .mul (vnm a_) (vnm b_)
  | .div a_ b_ => match ytq b_ vby with
    | true => .op1 .ineg a_
    | false => .div a_ b_
  | t_ => t_
theorem i32_dn (x_ : Int32) : x_ / -1 = -x_ := by
  refine Int32.toInt_inj.mp ?_
  have e_ : (-1 : Int32).toInt = -1 := rfl
  rw [Int32.toInt_div, e_, Int.tdiv_neg, Int.tdiv_one, Int32.toInt_neg]
theorem vnm_v {r_ : Nat → Value} (hb_ : yv r_ vby = -1) (t_ : Jvm.Term) : yv r_ (vnm t_) = yv r_ t_ := by
  induction t_ with
  | add a_ b_ ha_ hb_ =>
    show yv r_ (vnm a_) + yv r_ (vnm b_) = yv r_ a_ + yv r_ b_
    rw [ha_, hb_]
  | sub a_ b_ ha_ hb_ =>
    show yv r_ (vnm a_) - yv r_ (vnm b_) = yv r_ a_ - yv r_ b_
    rw [ha_, hb_]
  | mul a_ b_ ha_ hb_ =>
    show yv r_ (vnm a_) * yv r_ (vnm b_) = yv r_ a_ * yv r_ b_
    rw [ha_, hb_]
  | div a_ b_ ha_ hb' =>
    unfold vnm
    cases e_ : ytq b_ vby with
    | false => rfl
    | true =>
      show -(yv r_ a_) = yv r_ a_ / yv r_ b_
      rw [ytq_eq e_, hb_, i32_dn]
  | _ => rfl
def vok (nm : Bool) (X_ Y : Option yQ) : Bool := match X_ with
  | some ([], [(some t_, M_)]) => (match Y with
    | some ([], [(some u_, N_)]) => (xI t_ && xI u_) && ((match nm with
      | true => ytq (vnm t_) (vnm u_)
      | false => ytq t_ u_) && ypr vTr M_ N_)
    | _ => false)
  | _ => false
noncomputable def vrx (A_ : yA) (vo : Jvm.Term) (O : yO) (C_ : List xB) : Option yQ := yev A_ 3000 60 106 [] (0, [(0, .index 0), (1, .arg 1), (2, vo), (3, .arg 3)], [], O, C_, [])
noncomputable def vrm (A_ : yA) (vo : Jvm.Term) (O : yO) (C_ : List xB) : Option yQ := yev A_ 3000 60 225 [] (0, [(0, .index 338), (1, .arg 1), (2, vo), (3, .arg 3)], [], O, C_, [])
noncomputable def vck (k_ vo e_ : Nat) : Bool := vok (Nat.beq e_ 1) (vrx vAx (.int (Int32.ofNat vo)) (vOx k_) (vCx e_)) (vrm vAm (.int (Int32.ofNat vo)) (vOm k_) (vCm e_))
theorem vck0 : ((List.range 3).all (fun v_ => vck 0 v_ 3) && (List.range 3).all (fun e_ => vck 0 3 e_)) = true := by decide +kernel
theorem vck1 : ((List.range 3).all (fun v_ => vck 1 v_ 3) && (List.range 3).all (fun e_ => vck 1 3 e_)) = true := by decide +kernel
theorem vck2 : ((List.range 3).all (fun v_ => vck 2 v_ 3) && (List.range 3).all (fun e_ => vck 2 3 e_)) = true := by decide +kernel
theorem vck3 : ((List.range 3).all (fun v_ => vck 3 v_ 3) && (List.range 3).all (fun e_ => vck 3 3 e_)) = true := by decide +kernel
theorem vck4 : ((List.range 3).all (fun v_ => vck 4 v_ 3) && (List.range 3).all (fun e_ => vck 4 3 e_)) = true := by decide +kernel
theorem vck5 : ((List.range 3).all (fun v_ => vck 5 v_ 3) && (List.range 3).all (fun e_ => vck 5 3 e_)) = true := by decide +kernel
theorem vck6 : ((List.range 3).all (fun v_ => vck 6 v_ 3) && (List.range 3).all (fun e_ => vck 6 3 e_)) = true := by decide +kernel
def vE1 : List xB := [(.lt, .arg 1, .int 0, true)]
def vE2x : List xB := [(.lt, .arg 1, .int 0, false), (.lt, .arg 1, .arg 310, false)]
def vE2m : List xB := [(.lt, .arg 1, .int 0, false), (.le, .arg 1, .sub (.arg 310) (.int 1), false)]
def vE3x : List xB := [(.lt, .arg 1, .int 0, false), (.lt, .arg 1, .arg 310, true), (.lt, .arg 2, .int 0, true)]
def vE3m : List xB := [(.lt, .arg 1, .int 0, false), (.le, .arg 1, .sub (.arg 310) (.int 1), true), (.lt, .arg 2, .int 0, true)]
def vE4x : List xB := [(.lt, .arg 1, .int 0, false), (.lt, .arg 1, .arg 310, true), (.lt, .arg 2, .int 0, false), (.lt, .arg 2, .int 4, false)]
def vE4m : List xB := [(.lt, .arg 1, .int 0, false), (.le, .arg 1, .sub (.arg 310) (.int 1), true), (.lt, .arg 2, .int 0, false), (.lt, .arg 2, .int 4, false)]
theorem vE1_k : vok false (vrx vAx0 (.arg 2) vOx0 vE1) (vrm vAx0 (.arg 2) vOm0 vE1) = true := by decide +kernel
theorem vE2_k : vok false (vrx vAx0 (.arg 2) vOx0 vE2x) (vrm vAx0 (.arg 2) vOm0 vE2m) = true := by decide +kernel
theorem vE3_k : vok false (vrx vAx0 (.arg 2) vOx0 vE3x) (vrm vAx0 (.arg 2) vOm0 vE3m) = true := by decide +kernel
theorem vE4_k : vok false (vrx vAx0 (.arg 2) vOx0 vE4x) (vrm vAx0 (.arg 2) vOm0 vE4m) = true := by decide +kernel
theorem vgo {Ax Am : yA} {vo : Jvm.Term} {Ox Om : yO} {Cx Cm : List xB} {nm : Bool} {r_ : Nat → Value} {s_ : Nat → Nat} {h_ : xH} {c_ v_ x_ : Int32} (hk : vok nm (vrx Ax vo Ox Cx) (vrm Am vo Om Cm) = true) (hAx : yas Ax r_ (yg s_)) (hAm : yas Am r_ (yg s_)) (Sx : ysh Ax.1 (yg s_) h_) (Ho : ymem r_ (yg s_) Ox h_) (HCx : ∀ q_ ∈ Cx, xhold r_ q_) (HCm : ∀ q_ ∈ Cm, xhold r_ q_) (hnm : nm = true → yv r_ vby = -1) (h1 : r_ 1 = .int c_) (h3 : r_ 3 = .int x_) (hv : ysb r_ (yg s_) vo = .int v_) : ∃ (y_ : Int32) (h1 : xH), xrun 999 106 0 (xal 0 [.index 0, .int c_, .int v_, .int x_]) [] h_ (some (.int y_), h1, []) ∧ ∀ hh : xH, ysh Am.1 (yg s_) hh → ymem r_ (yg s_) Om hh → ∃ (y2 : Int32) (h2 : xH), xrun 999 225 0 (xal 0 [.index 338, .int c_, .int v_, .int x_]) [] hh (some (.int y2), h2, []) ∧ y_ = y2 ∧ ((∀ q_ ∈ vTr, tv h_ q_.1.1 q_.1.2 = tv hh q_.2.1 q_.2.2) → ∀ q_ ∈ vTr, tv h1 q_.1.1 q_.1.2 = tv h2 q_.2.1 q_.2.2) := by
  unfold vok at hk
  split at hk
  · rename_i t_ M_ hX
    split at hk
    · rename_i u_ N_ hY
      simp only [Bool.and_eq_true] at hk
      obtain ⟨⟨i1_, i2_⟩, k2_, k3_⟩ := hk
      have e1_ : ysb r_ (yg s_) (.arg 1) = .int c_ := by
        rw [ysb_I (show xI (.arg 1) = true from rfl)]
        show Jvm.Term.int (xti (r_ 1)) = _
        rw [h1]
        rfl
      have e3_ : ysb r_ (yg s_) (.arg 3) = .int x_ := by
        rw [ysb_I (show xI (.arg 3) = true from rfl)]
        show Jvm.Term.int (xti (r_ 3)) = _
        rw [h3]
        rfl
      have lo_ : ∀ z_ : Nat, z_ < 1000 → ylo r_ (yg s_) [(0, .index z_), (1, .arg 1), (2, vo), (3, .arg 3)] = [(0, .index z_), (1, .int c_), (2, .int v_), (3, .int x_)] := by
        intro z_ hz
        show [(0, Jvm.Term.index (yg s_ z_)), (1, ysb r_ (yg s_) (.arg 1)), (2, ysb r_ (yg s_) vo), (3, ysb r_ (yg s_) (.arg 3))] = _
        rw [yg_lo hz, e1_, hv, e3_]
      have eq_ : yv r_ t_ = yv r_ u_ := by
        cases hnb : nm with
        | false =>
          rw [hnb] at k2_
          rw [ytq_eq k2_]
        | true =>
          rw [hnb] at k2_
          have f_ := congrArg (yv r_) (ytq_eq k2_)
          rw [vnm_v (hnm hnb), vnm_v (hnm hnb)] at f_
          exact f_
      unfold vrx at hX
      unfold vrm at hY
      rcases yrun hX hAx Sx Ho HCx with ⟨q_, hq, -⟩ | ⟨q_, hq, g1, K1, R1⟩
      · cases hq
      · have eq1 := List.mem_singleton.mp hq
        subst eq1
        rw [lo_ 0 (by omega)] at R1
        refine ⟨yv r_ t_, g1, ?_, fun hh Sm Hm_ => ?_⟩
        · have z_ := R1 999 (by omega)
          rw [show (some t_).map (ysb r_ (yg s_)) = some (.int (yv r_ t_)) from congrArg some (ysb_I i1_)] at z_
          exact z_
        · rcases yrun hY hAm Sm Hm_ HCm with ⟨q_, hq, -⟩ | ⟨q_, hq, g2, K2, R2⟩
          · cases hq
          · have eq2 := List.mem_singleton.mp hq
            subst eq2
            rw [lo_ 338 (by omega)] at R2
            refine ⟨yv r_ u_, g2, ?_, eq_, fun hT_ => ypr_ok k3_ K1.2.1 K2.2.1 K1.2.2.2 K2.2.2.2 hT_⟩
            have z_ := R2 999 (by omega)
            rw [show (some u_).map (ysb r_ (yg s_)) = some (.int (yv r_ u_)) from congrArg some (ysb_I i2_)] at z_
            exact z_
    · cases hk
  · cases hk
