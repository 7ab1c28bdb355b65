-- ===== both sides' states: pairs of places that hold the same
abbrev lRel : Type := List ((Nat × Nat) × (Nat × Nat)) × List (Nat × Int × Int)
def lpx (RP : lRel) (i_ : Nat) : Nat × Nat := match RP.1[i_]? with
  | some r_ => r_.1
  | none => (0, 0)
def lpm (RP : lRel) (i_ : Nat) : Nat × Nat := match RP.1[i_]? with
  | some r_ => r_.2
  | none => (0, 0)
/-- the pairs hold the same, and some of them lie between two numbers -/
def lRp (RP : lRel) (h : xH) : Prop := (∀ q_ ∈ RP.1, tv h q_.1.1 q_.1.2 = tv h q_.2.1 q_.2.2) ∧ ∀ u_ ∈ RP.2, u_.2.1 ≤ tv h (lpx RP u_.1).1 (lpx RP u_.1).2 ∧ tv h (lpx RP u_.1).1 (lpx RP u_.1).2 ≤ u_.2.2
def plk (q_ : Nat × Nat) : Bool := match bzf q_.1 with
  | some z_ => Nat.ble (q_.2 + 1) z_.2 && (match bIj q_.1 q_.2 with
    | some (.inl _) => true
    | _ => false)
  | none => false
theorem plk_ok {h : xH} {q_ : Nat × Nat} (H_ : bInv bZ bIj h) (hk : plk q_ = true) : ∃ (c_ : xC) (x_ : Int32) (b_ : Int × Int), h[q_.1]? = some c_ ∧ c_.2[q_.2]? = some (.int x_) ∧ x_.toInt = tv h q_.1 q_.2 ∧ bIj q_.1 q_.2 = some (.inl b_) ∧ b_.1 ≤ tv h q_.1 q_.2 ∧ tv h q_.1 q_.2 ≤ b_.2 := by
  unfold plk at hk
  cases hz : bzf q_.1 with
  | none => rw [hz] at hk; cases hk
  | some z_ =>
  rw [hz] at hk
  simp only [Bool.and_eq_true] at hk
  obtain ⟨k1_, k2_⟩ := hk
  have hz2 : bZ[q_.1]? = some z_ := by rw [← xhg_eq]; exact bzf_ok _ _ hz
  obtain ⟨c_, c1_, c2_, c3_, c4_⟩ := H_.1.2 _ z_ hz2
  have hlt : q_.2 < c_.2.length := by
    have := Nat.le_of_ble_eq_true k1_
    omega
  have ht := List.getElem?_eq_getElem hlt
  have w_ : ∃ e, bIj q_.1 q_.2 = some e ∧ bnv e c_.2[q_.2] := c4_ q_.2 _ ht
  obtain ⟨e, e1_, e2_⟩ := w_
  rw [e1_] at k2_
  rcases e with b_ | l
  · obtain ⟨x_, x0_, x1_, x2_⟩ := e2_
    have et : tv h q_.1 q_.2 = x_.toInt := by simp only [tv, bpat_at c1_, ht, x0_]
    rw [x0_] at ht
    rw [et]
    exact ⟨c_, x_, b_, c1_, ht, rfl, e1_, x1_, x2_⟩
  · cases k2_
/-- places between two numbers, so far as the pairs' numbers are -/
theorem lHp {h : xH} {pl : Nat → Nat × Nat} {l : List (Nat × Int × Int)} (H_ : bInv bZ bIj h) (hp : ∀ u_ ∈ l, plk (pl u_.1) = true) (hc_ : ∀ u_ ∈ l, u_.2.1 ≤ tv h (pl u_.1).1 (pl u_.1).2 ∧ tv h (pl u_.1).1 (pl u_.1).2 ≤ u_.2.2) : bHp h (l.map (fun u_ => (pl u_.1, .inl (u_.2.1, u_.2.2), none))) := by
  intro q_ hq
  obtain ⟨u_, hu, rfl⟩ := List.mem_map.mp hq
  obtain ⟨c_, x_, b_, c1_, c2_, c3_, -⟩ := plk_ok H_ (hp u_ hu)
  have w_ := hc_ u_ hu
  rw [← c3_] at w_
  exact ⟨c_, .int x_, c1_, c2_, ⟨x_, rfl, w_.1, w_.2⟩, trivial⟩
-- ===== a case of a pair of calls: arguments, places ahead; the answer's form, the places' behind; cells written
abbrev lCs : Type := (List bP × List (Nat × Int × Int)) × (Option bF × List (Nat × bF)) × (bW × bW)
def lck (pl : Nat → Nat × Nat) (cm a_ : Nat) (W : bW) (q_ : lCs) : bC := (cm, some (.inr [.index a_]) :: q_.1.1, some wany, W, 900, q_.1.2.map (fun u_ => (pl u_.1, .inl (u_.2.1, u_.2.2), none)), [])
def lkk (pl : Nat → Nat × Nat) (q_ : lCs) : bK := (q_.2.1.1, q_.2.1.2.map (fun u_ => (pl u_.1, u_.2)))
def lWx (W : bW) : Bool := W.all (fun w_ => Nat.ble (w_.2.1 + 1) 338)
def lWm (W : bW) : Bool := W.all (fun w_ => Nat.ble 338 w_.1)
/-- what a case knows of its unknowns -/
def lcn (i_ : Nat) (l : List (Nat × Int × Int)) : bE := match l with
  | [] => []
  | u_ :: t_ => (i_, u_.2) :: lcn (i_ + 1) t_
def lcG (q_ : lCs) : bE := bvE 1 q_.1.1 ++ lcn (1 + q_.1.1.length) q_.1.2
/-- behind it the pair lies between its numbers -/
def lcb (q_ : lCs) (u_ : Nat × Int × Int) : Bool := q_.2.1.2.all (fun w_ => !(Nat.beq w_.1 u_.1) || (match brg (lcG q_) w_.2 with
  | some b_ => decide (u_.2.1 ≤ b_.1) && decide (b_.2 ≤ u_.2.2)
  | none => false))
theorem lcn_in : ∀ {l : List (Nat × Int × Int)} {i_ v_ : Nat} {b_ : Int × Int}, blk (lcn i_ l) v_ = some b_ → ∃ j_ u_, v_ = i_ + j_ ∧ l[j_]? = some u_ ∧ u_.2 = b_ := by
  intro l
  induction l with
  | nil => intro i_ v_ b_ hb_; cases hb_
  | cons u_ t_ ih_ =>
    intro i_ v_ b_ hb_
    simp only [lcn, blk] at hb_
    cases e : Nat.beq i_ v_ with
    | true =>
      rw [e] at hb_
      have hb_ : some u_.2 = some b_ := hb_
      cases hb_
      exact ⟨0, u_, (Nat.eq_of_beq_eq_true e).symm, rfl, rfl⟩
    | false =>
      rw [e] at hb_
      obtain ⟨j_, w_, e1_, e2_, e3_⟩ := ih_ hb_
      exact ⟨j_ + 1, w_, by omega, e2_, e3_⟩
def lcz (RP : lRel) (q_ : lCs) : Bool := ((match q_.2.1.1 with
  | some g_ => blt (1 + q_.1.1.length + q_.1.2.length) g_
  | none => true) && q_.2.1.2.all (fun u_ => blt (1 + q_.1.1.length + q_.1.2.length) u_.2)) && ((lWx q_.2.2.1 && lWm q_.2.2.2) && ((List.range RP.1.length).all (fun i_ => q_.2.1.2.any (fun u_ => Nat.beq u_.1 i_) || (!(biw q_.2.2.1 (lpx RP i_).1 (lpx RP i_).2) && !(biw q_.2.2.2 (lpm RP i_).1 (lpm RP i_).2))) && (q_.1.2.all (fun u_ => Nat.ble (u_.1 + 1) RP.1.length) && RP.2.all (lcb q_))))
def lRk (RP : lRel) : Bool := RP.2.all (fun u_ => Nat.ble (u_.1 + 1) RP.1.length) && RP.1.all (fun r_ => (plk r_.1 && plk r_.2) && (Nat.ble (r_.1.1 + 1) 338 && Nat.ble 338 r_.2.1))
theorem lWx_ok {W : bW} (hW : lWx W = true) {i_ j_ : Nat} (hi_ : 338 ≤ i_) : biw W i_ j_ = false := by
  cases e : biw W i_ j_ with
  | false => rfl
  | true =>
    obtain ⟨q_, hq, hb_⟩ := List.any_eq_true.mp e
    have k_ := Nat.le_of_ble_eq_true (List.all_eq_true.mp hW q_ hq)
    simp only [Bool.and_eq_true] at hb_
    have b2 := Nat.le_of_ble_eq_true hb_.1.2
    omega
theorem lWm_ok {W : bW} (hW : lWm W = true) {i_ j_ : Nat} (hi_ : i_ < 338) : biw W i_ j_ = false := by
  cases e : biw W i_ j_ with
  | false => rfl
  | true =>
    obtain ⟨q_, hq, hb_⟩ := List.any_eq_true.mp e
    have k_ := Nat.le_of_ble_eq_true (List.all_eq_true.mp hW q_ hq)
    simp only [Bool.and_eq_true] at hb_
    have b1 := Nat.le_of_ble_eq_true hb_.1.1
    omega
theorem bIj_x {h : xH} (H_ : bInv bZ bIj h) : bInv bZ bIx h := by
  refine bInv_to (own_ := fun i_ => Nat.ble (i_ + 1) 338) (fun i_ j_ ho => ?_) (fun i_ z_ j_ e hz hj ho he => ?_) H_
  · have hi_ := Nat.le_of_ble_eq_true ho
    have e : Nat.ble 338 i_ = false := by
      cases q_ : Nat.ble 338 i_ with
      | false => rfl
      | true => have := Nat.le_of_ble_eq_true q_; omega
    show (bif Nat.ble 338 i_ then bIm i_ j_ else bIx i_ j_) = bIx i_ j_
    rw [e]
    rfl
  · have hi_ : 338 ≤ i_ := by
      rcases Nat.lt_or_ge i_ 338 with q_ | q_
      · exact absurd (Nat.ble_eq_true_of_le (show i_ + 1 ≤ 338 by omega)) (by rw [show Nat.ble (i_ + 1) 338 = false from ho]; exact Bool.false_ne_true)
      · exact q_
    have hl : i_ < 354 := by
      have w_ := (List.getElem?_eq_some_iff.mp hz).1
      rw [bZ_len] at w_
      exact w_
    have e1_ : bIm i_ j_ = some e := by
      rw [← he]
      show bIm i_ j_ = (bif Nat.ble 338 i_ then bIm i_ j_ else bIx i_ j_)
      rw [Nat.ble_eq_true_of_le hi_]
      rfl
    exact bjw9_ok (bjx_ok hi_ hl) hz hj e1_
theorem lpx_at {RP : lRel} {i_ : Nat} {r_ : (Nat × Nat) × (Nat × Nat)} (hr : RP.1[i_]? = some r_) : lpx RP i_ = r_.1 := by
  unfold lpx
  rw [hr]
theorem lpm_at {RP : lRel} {i_ : Nat} {r_ : (Nat × Nat) × (Nat × Nat)} (hr : RP.1[i_]? = some r_) : lpm RP i_ = r_.2 := by
  unfold lpm
  rw [hr]
def lpp (x_ : Int) (as_ : List Jvm.Term) (v_ : Nat) : Int := match v_ with
  | 0 => x_
  | w_ + 1 => bpt as_ w_
/-- A CASE: both calls answer alike, and the pairs hold the same behind them -/
theorem lcase {RP : lRel} {cmx cmm : Nat} {es0 : List bP} {q_ : lCs} {Xm : xH → Prop} (hx : bcoq bZ bIx bTr (lck (lpx RP) cmx 0 q_.2.2.1 q_) (lkk (lpx RP) q_)) (hm_ : bcoq bZ bIm Xm (lck (lpm RP) cmm 338 q_.2.2.2 q_) (lkk (lpm RP) q_)) (hXm : ∀ h, bXm h → Xm h) (sx : lwSafe cmx 0 es0) (sm_ : lwSafe cmm 338 es0) (hz : lcz RP q_ = true) (hR : lRk RP = true) {h : xH} {as_ : List Jvm.Term} (H_ : bInv bZ bIj h) (X_ : bXm h) (R : lRp RP h) (hp0 : bPs es0 as_) (hp : bPs q_.1.1 as_) (hc_ : ∀ u_ ∈ q_.1.2, u_.2.1 ≤ tv h (lpx RP u_.1).1 (lpx RP u_.1).2 ∧ tv h (lpx RP u_.1).1 (lpx RP u_.1).2 ≤ u_.2.2) : ∃ (v_ : Int32) (h1 : xH), xrun 999 cmx 0 (xal 0 (.index 0 :: as_)) [] h (some (.int v_), h1, []) ∧ bInv bZ bIj h1 ∧ bXm h1 ∧ ∀ as', bPs es0 as' → bPs q_.1.1 as' → (∀ j_, bpt as' j_ = bpt as_ j_) → ∃ (v2 : Int32) (h2 : xH), xrun 999 cmm 0 (xal 0 (.index 338 :: as')) [] h1 (some (.int v2), h2, []) ∧ bInv bZ bIj h2 ∧ bXm h2 ∧ lRp RP h2 ∧ ((match q_.2.1.1 with
  | some _ => true
  | none => false) = true → v_ = v2) := by
  obtain ⟨⟨es, cn⟩, ⟨Fo, up_⟩, Wx_, Wm_⟩ := q_
  unfold lcz at hz
  simp only [Bool.and_eq_true] at hz
  obtain ⟨⟨z1, z2⟩, ⟨z3, z4⟩, z5, z6, z7⟩ := hz
  have hRb := hR
  unfold lRk at hRb
  rw [Bool.and_eq_true] at hRb
  obtain ⟨R1, R2⟩ := R
  have hin : ∀ u_ ∈ cn, ∃ r_, RP.1[u_.1]? = some r_ ∧ r_ ∈ RP.1 := by
    intro u_ hu
    have w_ : u_.1 < RP.1.length := Nat.le_of_ble_eq_true (List.all_eq_true.mp z6 u_ hu)
    exact ⟨_, List.getElem?_eq_getElem w_, List.getElem_mem w_⟩
  have hrk : ∀ r_ ∈ RP.1, (plk r_.1 = true ∧ plk r_.2 = true) ∧ (r_.1.1 < 338 ∧ 338 ≤ r_.2.1) := by
    intro r_ hr
    have w_ := List.all_eq_true.mp hRb.2 r_ hr
    simp only [Bool.and_eq_true] at w_
    exact ⟨w_.1, Nat.le_of_ble_eq_true w_.2.1, Nat.le_of_ble_eq_true w_.2.2⟩
  have hcm : ∀ u_ ∈ cn, plk (lpx RP u_.1) = true ∧ plk (lpm RP u_.1) = true ∧ tv h (lpx RP u_.1).1 (lpx RP u_.1).2 = tv h (lpm RP u_.1).1 (lpm RP u_.1).2 ∧ 338 ≤ (lpm RP u_.1).1 := by
    intro u_ hu
    obtain ⟨r_, r1_, r2⟩ := hin u_ hu
    rw [lpx_at r1_, lpm_at r1_]
    exact ⟨(hrk r_ r2).1.1, (hrk r_ r2).1.2, R1 r_ r2, (hrk r_ r2).2.2⟩
  obtain ⟨v1_, h1, S1, H1_, X1⟩ := sx h as_ H_ X_ hp0
  have gx : bPs (some (.inr [.index 0]) :: es) (.index 0 :: as_) := ⟨⟨List.mem_singleton.mpr rfl, rfl, rfl⟩, hp⟩
  obtain ⟨x_, hx1, px, rx_, fx, pvx, pqx, anx, upx⟩ := hx h (.index 0 :: as_) (bIj_x H_) trivial gx (lHp H_ (fun u_ hu => (hcm u_ hu).1) hc_)
  have e1_ := xrun_un S1 (rx_ 999 (by show 900 ≤ 999; omega))
  have eh : h1 = hx1 := congrArg (fun o => o.2.1) e1_
  have ev_ : v1_ = x_ := by
    have w_ := congrArg (fun o => o.1) e1_
    have w_ : some (Jvm.Term.int v1_) = some (.int x_) := w_
    cases w_
    rfl
  subst eh
  subst ev_
  refine ⟨v1_, h1, S1, H1_, X1, fun as' hp0' hp' he => ?_⟩
  have fx : bfr Wx_ h h1 := fx
  have tm : ∀ r_ ∈ RP.1, tv h1 r_.2.1 r_.2.2 = tv h r_.2.1 r_.2.2 := fun r_ hr => tv_eq (fx _ _ (lWx_ok z3 (hrk r_ hr).2.2))
  have hc1 : ∀ u_ ∈ cn, tv h1 (lpm RP u_.1).1 (lpm RP u_.1).2 = tv h (lpx RP u_.1).1 (lpx RP u_.1).2 := by
    intro u_ hu
    obtain ⟨r_, r1_, r2⟩ := hin u_ hu
    rw [lpx_at r1_, lpm_at r1_, tm r_ r2]
    exact (R1 r_ r2).symm
  obtain ⟨v2, h2, S2, H2_, X2⟩ := sm_ h1 as' H1_ X1 hp0'
  have gm_ : bPs (some (.inr [.index 338]) :: es) (.index 338 :: as') := ⟨⟨List.mem_singleton.mpr rfl, rfl, rfl⟩, hp'⟩
  obtain ⟨y_, hm1, pm, rm, fm, pvm, pqm, anm, upm⟩ := hm_ h1 (.index 338 :: as') (bIj_m H1_) (hXm h1 X1) gm_ (lHp H1_ (fun u_ hu => (hcm u_ hu).2.1) (fun u_ hu => by
    rw [hc1 u_ hu]
    exact hc_ u_ hu))
  have e2_ := xrun_un S2 (rm 999 (by show 900 ≤ 999; omega))
  have eh : h2 = hm1 := congrArg (fun o => o.2.1) e2_
  have ev_ : v2 = y_ := by
    have w_ := congrArg (fun o => o.1) e2_
    have w_ : some (Jvm.Term.int v2) = some (.int y_) := w_
    cases w_
    rfl
  subst eh
  subst ev_
  have fm : bfr Wm_ h1 h2 := fm
  have pvx : ∀ v_, v_ < es.length + 1 → px v_ = bpt (.index 0 :: as_) v_ := pvx
  have pvm : ∀ v_, v_ < es.length + 1 → pm v_ = bpt (.index 338 :: as') v_ := pvm
  have hag : ∀ v_, v_ < 1 + es.length + cn.length → pm v_ = px v_ := by
    intro v_ hv
    rcases Nat.lt_or_ge v_ (es.length + 1) with w_ | w_
    · rw [pvm v_ w_, pvx v_ w_]
      cases v_ with
      | zero => rfl
      | succ v_ =>
        rw [bpt_cons, bpt_cons]
        exact he v_
    · have hj : v_ - (es.length + 1) < cn.length := by omega
      obtain ⟨u0, hu0⟩ : ∃ u0, cn[v_ - (es.length + 1)]? = some u0 := ⟨_, List.getElem?_eq_getElem hj⟩
      have kx := pqx (v_ - (es.length + 1)) (lpx RP u0.1, .inl (u0.2.1, u0.2.2), none) (by
        show (cn.map _)[v_ - (es.length + 1)]? = _
        rw [List.getElem?_map, hu0]
        rfl)
      have km := pqm (v_ - (es.length + 1)) (lpm RP u0.1, .inl (u0.2.1, u0.2.2), none) (by
        show (cn.map _)[v_ - (es.length + 1)]? = _
        rw [List.getElem?_map, hu0]
        rfl)
      have kx : px (es.length + 1 + (v_ - (es.length + 1))) = tv h (lpx RP u0.1).1 (lpx RP u0.1).2 := kx
      have km : pm (es.length + 1 + (v_ - (es.length + 1))) = tv h1 (lpm RP u0.1).1 (lpm RP u0.1).2 := km
      rw [show es.length + 1 + (v_ - (es.length + 1)) = v_ by omega] at kx km
      rw [km, kx]
      exact hc1 _ (List.mem_of_getElem? hu0)
  have t2_ : ∀ r_ ∈ RP.1, tv h2 r_.1.1 r_.1.2 = tv h1 r_.1.1 r_.1.2 := fun r_ hr => tv_eq (fm _ _ (lWm_ok z4 (hrk r_ hr).2.1))
  refine ⟨v2, h2, S2, H2_, X2, ⟨?_, ?_⟩, ?_⟩
  · intro r_ hr
    obtain ⟨i_, hi_, ei⟩ := List.getElem_of_mem hr
    have er : RP.1[i_]? = some r_ := by rw [List.getElem?_eq_getElem hi_, ei]
    have w_ := List.all_eq_true.mp z5 i_ (List.mem_range.mpr hi_)
    rw [t2_ r_ hr]
    simp only [Bool.or_eq_true] at w_
    rcases w_ with w_ | w_
    · obtain ⟨u_, hu, eu⟩ := List.any_eq_true.mp w_
      have eu := Nat.eq_of_beq_eq_true eu
      have ax := upx (lpx RP u_.1, u_.2) (List.mem_map.mpr ⟨u_, hu, rfl⟩)
      have am := upm (lpm RP u_.1, u_.2) (List.mem_map.mpr ⟨u_, hu, rfl⟩)
      have ax : tv h1 (lpx RP u_.1).1 (lpx RP u_.1).2 = bfv px u_.2 := ax
      have am : tv h2 (lpm RP u_.1).1 (lpm RP u_.1).2 = bfv pm u_.2 := am
      rw [eu, lpx_at er] at ax
      rw [eu, lpm_at er, bfv_ag hag (List.all_eq_true.mp z2 u_ hu)] at am
      rw [ax, am]
    · simp only [Bool.and_eq_true, Bool.not_eq_true'] at w_
      rw [lpx_at er, lpm_at er] at w_
      rw [tv_eq (fx _ _ w_.1), R1 r_ hr, ← tm r_ hr]
      exact (tv_eq (fm _ _ w_.2)).symm
  · intro b_ hb_
    have hbl : b_.1 < RP.1.length := Nat.le_of_ble_eq_true (List.all_eq_true.mp hRb.1 b_ hb_)
    have er := List.getElem?_eq_getElem hbl
    have w_ := List.all_eq_true.mp z5 b_.1 (List.mem_range.mpr hbl)
    have hz7 := List.all_eq_true.mp z7 b_ hb_
    have o2 := R2 b_ hb_
    rw [lpx_at er] at o2 ⊢
    rw [t2_ _ (List.getElem_mem hbl)]
    simp only [Bool.or_eq_true] at w_
    rcases w_ with w_ | w_
    · obtain ⟨u_, hu, eu⟩ := List.any_eq_true.mp w_
      have ax := upx (lpx RP u_.1, u_.2) (List.mem_map.mpr ⟨u_, hu, rfl⟩)
      have ax : tv h1 (lpx RP u_.1).1 (lpx RP u_.1).2 = bfv px u_.2 := ax
      rw [Nat.eq_of_beq_eq_true eu, lpx_at er] at ax
      have g_ := List.all_eq_true.mp hz7 u_ hu
      rw [eu] at g_
      simp only [Bool.not_true, Bool.false_or] at g_
      cases hr : brg (lcG ((es, cn), (Fo, up_), (Wx_, Wm_))) u_.2 with
      | none => rw [hr] at g_; cases g_
      | some c_ =>
        rw [hr] at g_
        simp only [Bool.and_eq_true, decide_eq_true_eq] at g_
        have hG : bok (lcG ((es, cn), (Fo, up_), (Wx_, Wm_))) px := by
          refine bok_app ?_ ?_
          · refine bok_ag (n := 1 + es.length) (p := lpp (px 0) as_) (fun v_ hv => ?_) (bvE_l (Nat.le_refl _)) (bvE_ok (fun j_ => congrArg (lpp (px 0) as_) (Nat.add_comm 1 j_)) hp)
            cases v_ with
            | zero => rfl
            | succ v_ =>
              show px (v_ + 1) = bpt as_ v_
              rw [pvx (v_ + 1) (by omega), bpt_cons]
          · intro v_ l u' hb'
            obtain ⟨j_, c', e1_, e2_, e3_⟩ := lcn_in hb'
            have kx := pqx j_ (lpx RP c'.1, .inl (c'.2.1, c'.2.2), none) (by
              show (cn.map _)[j_]? = _
              rw [List.getElem?_map, e2_]
              rfl)
            have kx : px (es.length + 1 + j_) = tv h (lpx RP c'.1).1 (lpx RP c'.1).2 := kx
            have hcc := hc_ c' (List.mem_of_getElem? e2_)
            have e1_ : v_ = 1 + es.length + j_ := e1_
            rw [e1_, show 1 + es.length + j_ = es.length + 1 + j_ by omega, kx]
            rw [e3_] at hcc
            exact hcc
        have k_ := brg_ok hG (a := c_.1) (b := c_.2) hr
        rw [ax]
        omega
    · simp only [Bool.and_eq_true, Bool.not_eq_true'] at w_
      rw [lpx_at er] at w_
      rw [tv_eq (fx _ _ w_.1)]
      exact o2
  · intro hF
    cases Fo with
    | none => cases hF
    | some g_ =>
      have a1_ := anx g_ rfl
      have a2 := anm g_ rfl
      have z1 : blt (1 + es.length + cn.length) g_ = true := z1
      rw [bfv_ag hag z1] at a2
      exact Int32.toInt_inj.mp (a1_.trans a2.symm)
-- ===== the cases cover all
def bmeet (G : bE) (c_ : List (Nat × Int × Int)) : Bool := c_.all (fun u_ => match blk G u_.1 with
  | some b_ => decide (u_.2.1 ≤ b_.2) && decide (b_.1 ≤ u_.2.2)
  | none => false)
def bbad (G : bE) (c_ : List (Nat × Int × Int)) : Option (Nat × Int × Int) := match c_ with
  | [] => none
  | u_ :: t_ => match blk G u_.1 with
    | none => some u_
    | some b_ => match decide (u_.2.1 ≤ b_.1) && decide (b_.2 ≤ u_.2.2) with
      | true => bbad G t_
      | false => some u_
theorem bbad_ok {G : bE} {p : Nat → Int} (hG : bok G p) : ∀ {c_ : List (Nat × Int × Int)}, bbad G c_ = none → ∀ u_ ∈ c_, u_.2.1 ≤ p u_.1 ∧ p u_.1 ≤ u_.2.2 := by
  intro c_
  induction c_ with
  | nil => intro _ u_ hu; cases hu
  | cons u0 t_ ih_ =>
    intro hb_ u_ hu
    simp only [bbad] at hb_
    cases hk : blk G u0.1 with
    | none => rw [hk] at hb_; cases hb_
    | some b_ =>
      rw [hk] at hb_
      simp only at hb_
      cases hd_ : (decide (u0.2.1 ≤ b_.1) && decide (b_.2 ≤ u0.2.2)) with
      | false => rw [hd_] at hb_; cases hb_
      | true =>
        rw [hd_] at hb_
        simp only [Bool.and_eq_true, decide_eq_true_eq] at hd_
        have w_ := hG _ b_.1 b_.2 hk
        rcases List.mem_cons.mp hu with rfl | hu
        · omega
        · exact ih_ hb_ u_ hu
def bcv (f_ : Nat) (cs : List (List (Nat × Int × Int))) (G : bE) : Bool := match f_ with
  | 0 => false
  | f_ + 1 => match cs.filter (bmeet G) with
    | [] => false
    | c_ :: t_ => match bbad G c_ with
      | none => true
      | some u_ => match blk G u_.1 with
        | none => false
        | some b_ => match decide (b_.1 < u_.2.1) with
          | true => bcv f_ (c_ :: t_) ((u_.1, b_.1, u_.2.1 - 1) :: G) && bcv f_ (c_ :: t_) ((u_.1, u_.2.1, b_.2) :: G)
          | false => bcv f_ (c_ :: t_) ((u_.1, b_.1, u_.2.2) :: G) && bcv f_ (c_ :: t_) ((u_.1, u_.2.2 + 1, b_.2) :: G)
theorem bcv_ok {p : Nat → Int} : ∀ {f_ : Nat} {cs : List (List (Nat × Int × Int))} {G : bE}, bok G p → bcv f_ cs G = true → ∃ c_ ∈ cs, ∀ u_ ∈ c_, u_.2.1 ≤ p u_.1 ∧ p u_.1 ≤ u_.2.2 := by
  intro f_
  induction f_ with
  | zero => intro cs G _ hb_; cases hb_
  | succ f_ ih_ =>
    intro cs G hG hb_
    simp only [bcv] at hb_
    cases hf : cs.filter (bmeet G) with
    | nil => rw [hf] at hb_; cases hb_
    | cons c_ t_ =>
      rw [hf] at hb_
      simp only at hb_
      have hsub : ∀ c' ∈ c_ :: t_, c' ∈ cs := by
        intro c' hc'
        rw [← hf] at hc'
        exact (List.mem_filter.mp hc').1
      cases hk : bbad G c_ with
      | none => exact ⟨c_, hsub c_ List.mem_cons_self, bbad_ok hG hk⟩
      | some u_ =>
        rw [hk] at hb_
        simp only at hb_
        cases hl : blk G u_.1 with
        | none => rw [hl] at hb_; cases hb_
        | some b_ =>
          rw [hl] at hb_
          simp only at hb_
          have w_ := hG _ b_.1 b_.2 hl
          cases hd_ : decide (b_.1 < u_.2.1) with
          | true =>
            rw [hd_] at hb_
            simp only [Bool.and_eq_true] at hb_
            rcases (show p u_.1 ≤ u_.2.1 - 1 ∨ u_.2.1 ≤ p u_.1 by omega) with g_ | g_
            · obtain ⟨c', k1_, k2_⟩ := ih_ (bok_set hG w_.1 g_) hb_.1
              exact ⟨c', hsub c' k1_, k2_⟩
            · obtain ⟨c', k1_, k2_⟩ := ih_ (bok_set hG g_ w_.2) hb_.2
              exact ⟨c', hsub c' k1_, k2_⟩
          | false =>
            rw [hd_] at hb_
            simp only [Bool.and_eq_true] at hb_
            rcases (show p u_.1 ≤ u_.2.2 ∨ u_.2.2 + 1 ≤ p u_.1 by omega) with g_ | g_
            · obtain ⟨c', k1_, k2_⟩ := ih_ (bok_set hG w_.1 g_) hb_.1
              exact ⟨c', hsub c' k1_, k2_⟩
            · obtain ⟨c', k1_, k2_⟩ := ih_ (bok_set hG g_ w_.2) hb_.2
              exact ⟨c', hsub c' k1_, k2_⟩
/-- what a case asks: of arguments by their places, of pairs from 100 on -/
def lcc (q_ : lCs) : List (Nat × Int × Int) := bvE 0 q_.1.1 ++ q_.1.2.map (fun u_ => (100 + u_.1, u_.2))
/-- what is known ahead of all cases -/
def lfb (l : List (Nat × Int × Int)) (i_ : Nat) : Option (Int × Int) := match l with
  | [] => none
  | u_ :: t_ => match Nat.beq u_.1 i_ with
    | true => some u_.2
    | false => lfb t_ i_
theorem lfb_in : ∀ {l : List (Nat × Int × Int)} {i_ : Nat} {b_ : Int × Int}, lfb l i_ = some b_ → (i_, b_) ∈ l := by
  intro l
  induction l with
  | nil => intro i_ b_ hb_; cases hb_
  | cons u_ t_ ih_ =>
    intro i_ b_ hb_
    simp only [lfb] at hb_
    cases e : Nat.beq u_.1 i_ with
    | true =>
      rw [e] at hb_
      cases hb_
      rw [← Nat.eq_of_beq_eq_true e]
      exact List.mem_cons_self
    | false =>
      rw [e] at hb_
      exact List.mem_cons_of_mem _ (ih_ hb_)
def lbq (RP : lRel) (i_ : Nat) : Nat × Int × Int := match lfb RP.2 i_ with
  | some b_ => (100 + i_, b_)
  | none => match bIj (lpx RP i_).1 (lpx RP i_).2 with
    | some (.inl b_) => (100 + i_, b_)
    | _ => (100 + i_, -2147483648, 2147483647)
def lbx (RP : lRel) (es0 : List bP) (ix : List Nat) : bE := bvE 0 es0 ++ ix.map (lbq RP)
def lcp (RP : lRel) (h : xH) (as_ : List Jvm.Term) (v_ : Nat) : Int := match Nat.ble 100 v_ with
  | true => tv h (lpx RP (v_ - 100)).1 (lpx RP (v_ - 100)).2
  | false => bpt as_ v_
theorem lcp_lo {RP : lRel} {h : xH} {as_ : List Jvm.Term} {v_ : Nat} (hv : v_ < 100) : lcp RP h as_ v_ = bpt as_ v_ := by
  unfold lcp
  cases e : Nat.ble 100 v_ with
  | false => rfl
  | true => have := Nat.le_of_ble_eq_true e; omega
theorem lcp_hi {RP : lRel} {h : xH} {as_ : List Jvm.Term} {i_ : Nat} : lcp RP h as_ (100 + i_) = tv h (lpx RP i_).1 (lpx RP i_).2 := by
  unfold lcp
  rw [Nat.ble_eq_true_of_le (show 100 ≤ 100 + i_ by omega)]
  show tv h (lpx RP (100 + i_ - 100)).1 (lpx RP (100 + i_ - 100)).2 = _
  rw [show 100 + i_ - 100 = i_ by omega]
theorem lbx_ok {RP : lRel} {h : xH} {es0 : List bP} {as_ : List Jvm.Term} {ix : List Nat} (hR : lRk RP = true) (hx : ix.all (fun i_ => Nat.ble (i_ + 1) RP.1.length) = true) (hn : es0.length ≤ 100) (H_ : bInv bZ bIj h) (Rr : lRp RP h) (hp : bPs es0 as_) : bok (lbx RP es0 ix) (lcp RP h as_) := by
  refine bok_app ?_ ?_
  · refine bok_ag (n := 100) (p := bpt as_) (fun v_ hv => lcp_lo hv) (bvE_l (by omega)) (bvE_ok (fun j_ => by rw [Nat.zero_add]) hp)
  · intro v_ l u_ hb_
    obtain ⟨i_, hi_, e⟩ := List.mem_map.mp (blk_in hb_)
    have hlt : i_ < RP.1.length := Nat.le_of_ble_eq_true (List.all_eq_true.mp hx i_ hi_)
    have hg := List.getElem?_eq_getElem hlt
    unfold lRk at hR
    rw [Bool.and_eq_true] at hR
    have w_ := List.all_eq_true.mp hR.2 _ (List.getElem_mem hlt)
    simp only [Bool.and_eq_true] at w_
    unfold lbq at e
    cases hf : lfb RP.2 i_ with
    | some b_ =>
      rw [hf] at e
      cases e
      rw [lcp_hi]
      exact Rr.2 _ (lfb_in hf)
    | none =>
      rw [hf] at e
      obtain ⟨c_, x_, b_, c1_, c2_, c3_, c4_, c5_⟩ := plk_ok H_ w_.1.1
      rw [← lpx_at hg] at c4_ c5_
      rw [c4_] at e
      cases e
      rw [lcp_hi]
      exact c5_
/-- of one shape: ints at the same places -/
def lsh (es es0 : List bP) : Bool := match es, es0 with
  | [], [] => true
  | none :: t_, none :: u_ => lsh t_ u_
  | some (.inl _) :: t_, some (.inl _) :: u_ => lsh t_ u_
  | _, _ => false
theorem lsh_ok {p : Nat → Int} : ∀ {es es0 : List bP} {as_ : List Jvm.Term} {i_ : Nat}, lsh es es0 = true → (∀ j_, p (i_ + j_) = bpt as_ j_) → bPs es0 as_ → (∀ u_ ∈ bvE i_ es, u_.2.1 ≤ p u_.1 ∧ p u_.1 ≤ u_.2.2) → bPs es as_ := by
  intro es
  induction es with
  | nil =>
    intro es0 as_ i_ hs hj hp hb_
    cases es0 with
    | nil => exact hp
    | cons e0_ u_ => cases hs
  | cons e t_ ih_ =>
    intro es0 as_ i_ hs hj hp hb_
    cases es0 with
    | nil => rcases e with _ | (b_ | l) <;> cases hs
    | cons e0_ u_ =>
      cases as_ with
      | nil => exact absurd hp id
      | cons a_ as_ =>
        have hj2 : ∀ j_, p (i_ + 1 + j_) = bpt as_ j_ := fun j_ => by
          have w_ := hj (j_ + 1)
          rw [bpt_cons] at w_
          rw [← w_]
          congr 1
          omega
        obtain ⟨p1_, p2_⟩ := hp
        rcases e with _ | (b_ | l)
        · rcases e0_ with _ | (b0 | l0)
          · exact ⟨p1_, ih_ hs hj2 p2_ hb_⟩
          · cases hs
          · cases hs
        · rcases e0_ with _ | (b0 | l0)
          · cases hs
          · obtain ⟨x_, x0_, x1_, x2_⟩ := p1_
            subst x0_
            have w_ := hb_ (i_, b_.1, b_.2) List.mem_cons_self
            have w0_ : p i_ = x_.toInt := by
              have := hj 0
              rwa [Nat.add_zero] at this
            rw [show ((i_, b_.1, b_.2) : Nat × Int × Int).1 = i_ from rfl, w0_] at w_
            exact ⟨⟨x_, rfl, w_.1, w_.2⟩, ih_ hs hj2 p2_ (fun u_ hu => hb_ u_ (List.mem_cons_of_mem _ hu))⟩
          · cases hs
        · rcases e0_ with _ | (b0 | l0) <;> cases hs
theorem lsh_len : ∀ {es es0 : List bP}, lsh es es0 = true → es.length = es0.length := by
  intro es
  induction es with
  | nil =>
    intro es0 hs
    cases es0 with
    | nil => rfl
    | cons e0_ u_ => cases hs
  | cons e t_ ih_ =>
    intro es0 hs
    cases es0 with
    | nil => rcases e with _ | (b_ | l) <;> cases hs
    | cons e0_ u_ =>
      rcases e with _ | (b_ | l) <;> rcases e0_ with _ | (b0 | l0) <;> first | (cases hs; done) | exact congrArg (fun n => n + 1) (ih_ hs)
-- ===== a pair of calls keeps the pairs, and, where it is asked, answers alike
def lwPr (RP : lRel) (eq_ : Bool) (cmx cmm : Nat) (es : List bP) : Prop := ∀ (h : xH) (as_ : List Jvm.Term), bInv bZ bIj h → bXm h → lRp RP h → bPs es as_ → ∃ (v_ : Int32) (h1 : xH), xrun 999 cmx 0 (xal 0 (.index 0 :: as_)) [] h (some (.int v_), h1, []) ∧ bInv bZ bIj h1 ∧ bXm h1 ∧ ∀ as', bPs es as' → (∀ j_, bpt as' j_ = bpt as_ j_) → ∃ (v2 : Int32) (h2 : xH), xrun 999 cmm 0 (xal 0 (.index 338 :: as')) [] h1 (some (.int v2), h2, []) ∧ bInv bZ bIj h2 ∧ bXm h2 ∧ lRp RP h2 ∧ (eq_ = true → v_ = v2)
def lwC1 (RP : lRel) (eq_ : Bool) (es0 : List bP) (q_ : lCs) : Bool := (lcz RP q_ && lsh q_.1.1 es0) && (!eq_ || (match q_.2.1.1 with
  | some _ => true
  | none => false))
/-- by cases -/
theorem lwPr_cs {RP : lRel} {eq_ : Bool} {cmx cmm f_ : Nat} {es0 : List bP} {cs : List lCs} {ix : List Nat} {Xm : xH → Prop} (hx : ∀ q_ ∈ cs, bcoq bZ bIx bTr (lck (lpx RP) cmx 0 q_.2.2.1 q_) (lkk (lpx RP) q_)) (hm_ : ∀ q_ ∈ cs, bcoq bZ bIm Xm (lck (lpm RP) cmm 338 q_.2.2.2 q_) (lkk (lpm RP) q_)) (hXm : ∀ h, bXm h → Xm h) (sx : lwSafe cmx 0 es0) (sm_ : lwSafe cmm 338 es0) (hR : lRk RP = true) (h1 : cs.all (lwC1 RP eq_ es0) = true) (h2 : ix.all (fun i_ => Nat.ble (i_ + 1) RP.1.length) = true) (h3 : es0.length ≤ 100) (hv : bcv f_ (cs.map lcc) (lbx RP es0 ix) = true) : lwPr RP eq_ cmx cmm es0 := by
  intro h as_ H_ X_ R hp0
  obtain ⟨c_, hc_, k_⟩ := bcv_ok (lbx_ok hR h2 h3 H_ R hp0) hv
  obtain ⟨q_, hq, rfl⟩ := List.mem_map.mp hc_
  have w_ := List.all_eq_true.mp h1 q_ hq
  unfold lwC1 at w_
  simp only [Bool.and_eq_true] at w_
  obtain ⟨⟨w1_, w2_⟩, w3_⟩ := w_
  have kb : ∀ u_ ∈ bvE 0 q_.1.1, u_.2.1 ≤ bpt as_ u_.1 ∧ bpt as_ u_.1 ≤ u_.2.2 := by
    intro u_ hu
    have g_ := k_ u_ (List.mem_append.mpr (Or.inl hu))
    have hl : u_.1 < 100 := by
      have hlen : q_.1.1.length = es0.length := lsh_len w2_
      have b_ := List.all_eq_true.mp (bvE_l (es := q_.1.1) (i_ := 0) (n := 100) (by omega)) u_ hu
      exact Nat.le_of_ble_eq_true b_
    rw [lcp_lo hl] at g_
    exact g_
  have hp : bPs q_.1.1 as_ := lsh_ok (p := bpt as_) w2_ (fun j_ => by rw [Nat.zero_add]) hp0 kb
  have hc2 : ∀ u_ ∈ q_.1.2, u_.2.1 ≤ tv h (lpx RP u_.1).1 (lpx RP u_.1).2 ∧ tv h (lpx RP u_.1).1 (lpx RP u_.1).2 ≤ u_.2.2 := by
    intro u_ hu
    have g_ := k_ (100 + u_.1, u_.2) (List.mem_append.mpr (Or.inr (List.mem_map.mpr ⟨u_, hu, rfl⟩)))
    have g_ : u_.2.1 ≤ lcp RP h as_ (100 + u_.1) ∧ lcp RP h as_ (100 + u_.1) ≤ u_.2.2 := g_
    rw [lcp_hi] at g_
    exact g_
  obtain ⟨v_, h1', S1, H1_, X1, K_⟩ := lcase (hx q_ hq) (hm_ q_ hq) hXm sx sm_ w1_ hR H_ X_ R hp0 hp hc2
  refine ⟨v_, h1', S1, H1_, X1, fun as' hp0' he => ?_⟩
  have hp' : bPs q_.1.1 as' := lsh_ok (p := bpt as') w2_ (fun j_ => by rw [Nat.zero_add]) hp0' (fun u_ hu => by
    rw [he u_.1]
    exact kb u_ hu)
  obtain ⟨v2, h2', S2, H2_, X2, R2, E2⟩ := K_ as' hp0' hp' he
  refine ⟨v2, h2', S2, H2_, X2, R2, fun hq => E2 ?_⟩
  rw [hq] at w3_
  exact w3_
