theorem bIj_m {h : xH} (H_ : bInv bZ bIj h) : bInv bZ bIm h := by
  refine bInv_to (own_ := fun i_ => Nat.ble 338 i_) (fun i_ j_ ho => ?_) (fun i_ z_ j_ e hz hj ho he => ?_) H_
  · show (bif Nat.ble 338 i_ then bIm i_ j_ else bIx i_ j_) = bIm i_ j_
    rw [show Nat.ble 338 i_ = true from ho]
    rfl
  · have h : i_ < 338 := by
      rcases Nat.lt_or_ge i_ 338 with q_ | q_
      · exact q_
      · exact absurd (Nat.ble_eq_true_of_le q_) (by rw [show Nat.ble 338 i_ = false from ho]; exact Bool.false_ne_true)
    have e1_ : bIx i_ j_ = some e := by
      rw [← he]
      show bIx i_ j_ = (bif Nat.ble 338 i_ then bIm i_ j_ else bIx i_ j_)
      rw [show Nat.ble 338 i_ = false from ho]
      rfl
    exact bjw9_ok (bjm_ok h) hz hj e1_
def lwSafe (cm a_ : Nat) (es : List bP) : Prop := ∀ (h : xH) (as_ : List Jvm.Term), bInv bZ bIj h → bXm h → bPs es as_ → ∃ (v_ : Int32) (h' : xH), xrun 999 cm 0 (xal 0 (.index a_ :: as_)) [] h (some (.int v_), h', []) ∧ bInv bZ bIj h' ∧ bXm h'
def lwAns (a_ : Option bN) : Bool := match a_ with
  | some (.inl _) => true
  | _ => false
theorem lwAns_ok {a_ : Option bN} {t_ : Option Jvm.Term} (h : lwAns a_ = true) (k_ : bav a_ t_) : ∃ v_ : Int32, t_ = some (.int v_) := by
  unfold lwAns at h
  split at h
  · obtain ⟨u_, rfl, v_, rfl, -⟩ := k_
    exact ⟨v_, rfl⟩
  · cases h
theorem bxw_of {W : bW} (h : W.all (fun q_ => Nat.ble (q_.2.1 + 1) 338) = true) : bxw W = true := by
  refine List.all_eq_true.mpr (fun q_ hq => ?_)
  have k_ := Nat.le_of_ble_eq_true (List.all_eq_true.mp h q_ hq)
  simp only [Bool.or_eq_true]
  exact Or.inl (Or.inl (Nat.ble_eq_true_of_le (by omega)))
def lwkx (c_ : bC) (es : List bP) : Prop := c_.2.1 = some (.inr [.index 0]) :: es ∧ bcP c_ = [] ∧ (c_.2.2.2.1.all (fun q_ => Nat.ble (q_.2.1 + 1) 338) && (Nat.ble (bcD c_) 999 && lwAns c_.2.2.1)) = true
def lwkm (c_ : bC) (es : List bP) : Prop := c_.2.1 = some (.inr [.index 338]) :: es ∧ bcP c_ = [] ∧ (c_.2.2.2.1.all (fun q_ => Nat.ble 338 q_.1) && (bxw c_.2.2.2.1 && (Nat.ble (bcD c_) 999 && lwAns c_.2.2.1))) = true
/-- what a contract of the class gives, its answer with it -/
theorem lwrun_x {c_ : bC} {es : List bP} (hc_ : bcon bZ bIx bTr c_) (hk : lwkx c_ es) {h : xH} {as_ : List Jvm.Term} (H_ : bInv bZ bIj h) (hX : bXm h) (hp : bPs es as_) : ∃ (v_ : Int32) (h' : xH), xrun 999 c_.1 0 (xal 0 (.index 0 :: as_)) [] h (some (.int v_), h', []) ∧ bInv bZ bIj h' ∧ bXm h' ∧ bav c_.2.2.1 (some (.int v_)) := by
  obtain ⟨he, hP, hk⟩ := hk
  simp only [Bool.and_eq_true] at hk
  obtain ⟨k1_, k2_, k3_⟩ := hk
  have g_ : bPs c_.2.1 (.index 0 :: as_) := by
    rw [he]
    exact ⟨⟨List.mem_singleton.mpr rfl, rfl, rfl⟩, hp⟩
  obtain ⟨t_, h', a1_, a2, a3, a4, -⟩ := bcon_x k1_ hc_ h (.index 0 :: as_) H_ trivial g_ (by rw [hP]; intro q_ hq; exact absurd hq List.not_mem_nil)
  obtain ⟨v_, rfl⟩ := lwAns_ok k3_ a4
  exact ⟨v_, h', a1_ 999 (Nat.le_of_ble_eq_true k2_), a2, bxw_ok (bxw_of k1_) h h' a3 hX, a4⟩
theorem lwrun_m {X_ : xH → Prop} (hXX : ∀ h, bXm h → X_ h) {c_ : bC} {es : List bP} (hc_ : bcon bZ bIm X_ c_) (hk : lwkm c_ es) {h : xH} {as_ : List Jvm.Term} (H_ : bInv bZ bIj h) (hX : bXm h) (hp : bPs es as_) : ∃ (v_ : Int32) (h' : xH), xrun 999 c_.1 0 (xal 0 (.index 338 :: as_)) [] h (some (.int v_), h', []) ∧ bInv bZ bIj h' ∧ bXm h' ∧ bav c_.2.2.1 (some (.int v_)) := by
  obtain ⟨he, hP, hk⟩ := hk
  simp only [Bool.and_eq_true] at hk
  obtain ⟨k1_, k0_, k2_, k3_⟩ := hk
  have g_ : bPs c_.2.1 (.index 338 :: as_) := by
    rw [he]
    exact ⟨⟨List.mem_singleton.mpr rfl, rfl, rfl⟩, hp⟩
  obtain ⟨t_, h', a1_, a2, a3, a4, -⟩ := bcon_m k1_ hc_ h (.index 338 :: as_) H_ (hXX h hX) g_ (by rw [hP]; intro q_ hq; exact absurd hq List.not_mem_nil)
  obtain ⟨v_, rfl⟩ := lwAns_ok k3_ a4
  exact ⟨v_, h', a1_ 999 (Nat.le_of_ble_eq_true k2_), a2, bxw_ok k0_ h h' a3 hX, a4⟩
theorem lwSafe_x {c_ : bC} {es : List bP} (hc_ : bcon bZ bIx bTr c_) (hk : lwkx c_ es) : lwSafe c_.1 0 es := by
  intro h as_ H_ hX hp
  obtain ⟨v_, h', a1_, a2, a3, -⟩ := lwrun_x hc_ hk H_ hX hp
  exact ⟨v_, h', a1_, a2, a3⟩
theorem lwSafe_m {X_ : xH → Prop} (hXX : ∀ h, bXm h → X_ h) {c_ : bC} {es : List bP} (hc_ : bcon bZ bIm X_ c_) (hk : lwkm c_ es) : lwSafe c_.1 338 es := by
  intro h as_ H_ hX hp
  obtain ⟨v_, h', a1_, a2, a3, -⟩ := lwrun_m hXX hc_ hk H_ hX hp
  exact ⟨v_, h', a1_, a2, a3⟩
theorem xrun_un {d_ mi pc : Nat} {lo : xL} {st : List Jvm.Term} {h : xH} {o1 o2 : xO} (H1_ : xrun d_ mi pc lo st h o1) (H2_ : xrun d_ mi pc lo st h o2) : o1 = o2 := by
  obtain ⟨f1_, g1⟩ := H1_
  obtain ⟨f2_, g2⟩ := H2_
  have a_ := g1 (f1_ + f2_) (by omega)
  rw [g2 (f1_ + f2_) (by omega)] at a_
  exact (Option.some.inj a_).symm
/-- the methods that were proved by hand -/
theorem lwSafe_o {cm : Nat} {W : bW} {es : List bP} (Hm_ : ∃ d_, d_ ≤ 900 ∧ ∀ (h : xH) (as_ : List Jvm.Term), bPs es as_ → bInv bZ bIm h → bXm h → ∃ t_ h', (∀ D_, d_ ≤ D_ → xrun D_ cm 0 (xal 0 (.index 338 :: as_)) [] h (t_, h', [])) ∧ bInv bZ bIm h' ∧ bXm h' ∧ bfr W h h' ∧ bav (some wany) t_) (hW : W.all (fun q_ => Nat.ble 338 q_.1) = true) : lwSafe cm 338 es := by
  obtain ⟨d_, hd_, Hm_⟩ := Hm_
  intro h as_ H_ hX hp
  have hc_ : bcon bZ bIm bXm (cm, some (.inr [.index 338]) :: es, some wany, W, d_, [], []) := by
    intro h ts H0 hX0 hp0 _
    cases ts with
    | nil => exact absurd hp0 id
    | cons t0_ ts =>
      obtain ⟨⟨p1_, -⟩, p2_⟩ := hp0
      have e := List.mem_singleton.mp p1_
      subst e
      obtain ⟨t_, h', a1_, a2, a3, a4, a5⟩ := Hm_ h ts p2_ H0 hX0
      exact ⟨t_, h', a1_, a2, a4, a5, fun q_ hq => absurd hq List.not_mem_nil⟩
  obtain ⟨t1_, h1, a1_, a2, a3, a4, -⟩ := bcon_m hW hc_ h (.index 338 :: as_) H_ hX ⟨⟨List.mem_singleton.mpr rfl, rfl, rfl⟩, hp⟩ (fun q_ hq => absurd hq List.not_mem_nil)
  obtain ⟨t2_, h2, b1, b2, b3, b4, b5⟩ := Hm_ h as_ hp (bIj_m H_) hX
  have e := xrun_un (a1_ 999 (by show d_ ≤ 999; omega)) (b1 999 (by omega))
  have e2_ : h1 = h2 := congrArg (fun o => o.2.1) e
  subst e2_
  obtain ⟨u_, rfl, v_, rfl, -⟩ := a4
  exact ⟨v_, h1, a1_ 999 (by show d_ ≤ 999; omega), a2, b3⟩
-- ===== with what it leaves as it was
def lwFr (cm a_ : Nat) (es : List bP) (W : bW) : Prop := ∀ (h : xH) (as_ : List Jvm.Term), bInv bZ bIj h → bXm h → bPs es as_ → ∃ (v_ : Int32) (h' : xH), xrun 999 cm 0 (xal 0 (.index a_ :: as_)) [] h (some (.int v_), h', []) ∧ bInv bZ bIj h' ∧ bXm h' ∧ bfr W h h'
theorem lwFr_s {cm a_ : Nat} {es : List bP} {W : bW} (H_ : lwFr cm a_ es W) : lwSafe cm a_ es := by
  intro h as_ Hh hX hp
  obtain ⟨v_, h', a1_, a2, a3, -⟩ := H_ h as_ Hh hX hp
  exact ⟨v_, h', a1_, a2, a3⟩
theorem lwFr_x {c_ : bC} {es : List bP} (hc_ : bcon bZ bIx bTr c_) (hk : lwkx c_ es) : lwFr c_.1 0 es c_.2.2.2.1 := by
  intro h as_ H_ hX hp
  obtain ⟨he, hP, hk⟩ := hk
  simp only [Bool.and_eq_true] at hk
  obtain ⟨k1_, k2_, k3_⟩ := hk
  have g_ : bPs c_.2.1 (.index 0 :: as_) := by
    rw [he]
    exact ⟨⟨List.mem_singleton.mpr rfl, rfl, rfl⟩, hp⟩
  obtain ⟨t_, h', a1_, a2, a3, a4, -⟩ := bcon_x k1_ hc_ h (.index 0 :: as_) H_ trivial g_ (by rw [hP]; intro q_ hq; exact absurd hq List.not_mem_nil)
  obtain ⟨v_, rfl⟩ := lwAns_ok k3_ a4
  exact ⟨v_, h', a1_ 999 (Nat.le_of_ble_eq_true k2_), a2, bxw_ok (bxw_of k1_) h h' a3 hX, a3⟩
theorem lwFr_m {X_ : xH → Prop} (hXX : ∀ h, bXm h → X_ h) {c_ : bC} {es : List bP} (hc_ : bcon bZ bIm X_ c_) (hk : lwkm c_ es) : lwFr c_.1 338 es c_.2.2.2.1 := by
  intro h as_ H_ hX hp
  obtain ⟨he, hP, hk⟩ := hk
  simp only [Bool.and_eq_true] at hk
  obtain ⟨k1_, k0_, k2_, k3_⟩ := hk
  have g_ : bPs c_.2.1 (.index 338 :: as_) := by
    rw [he]
    exact ⟨⟨List.mem_singleton.mpr rfl, rfl, rfl⟩, hp⟩
  obtain ⟨t_, h', a1_, a2, a3, a4, -⟩ := bcon_m k1_ hc_ h (.index 338 :: as_) H_ (hXX h hX) g_ (by rw [hP]; intro q_ hq; exact absurd hq List.not_mem_nil)
  obtain ⟨v_, rfl⟩ := lwAns_ok k3_ a4
  exact ⟨v_, h', a1_ 999 (Nat.le_of_ble_eq_true k2_), a2, bxw_ok k0_ h h' a3 hX, a3⟩
theorem lwFr_o {cm : Nat} {W : bW} {es : List bP} (Hm_ : ∃ d_, d_ ≤ 900 ∧ ∀ (h : xH) (as_ : List Jvm.Term), bPs es as_ → bInv bZ bIm h → bXm h → ∃ t_ h', (∀ D_, d_ ≤ D_ → xrun D_ cm 0 (xal 0 (.index 338 :: as_)) [] h (t_, h', [])) ∧ bInv bZ bIm h' ∧ bXm h' ∧ bfr W h h' ∧ bav (some wany) t_) (hW : W.all (fun q_ => Nat.ble 338 q_.1) = true) : lwFr cm 338 es W := by
  obtain ⟨d_, hd_, Hm_⟩ := Hm_
  intro h as_ H_ hX hp
  have hc_ : bcon bZ bIm bXm (cm, some (.inr [.index 338]) :: es, some wany, W, d_, [], []) := by
    intro h ts H0 hX0 hp0 _
    cases ts with
    | nil => exact absurd hp0 id
    | cons t0_ ts =>
      obtain ⟨⟨p1_, -⟩, p2_⟩ := hp0
      have e := List.mem_singleton.mp p1_
      subst e
      obtain ⟨t_, h', a1_, a2, a3, a4, a5⟩ := Hm_ h ts p2_ H0 hX0
      exact ⟨t_, h', a1_, a2, a4, a5, fun q_ hq => absurd hq List.not_mem_nil⟩
  obtain ⟨t1_, h1, a1_, a2, a3, a4, -⟩ := bcon_m hW hc_ h (.index 338 :: as_) H_ hX ⟨⟨List.mem_singleton.mpr rfl, rfl, rfl⟩, hp⟩ (fun q_ hq => absurd hq List.not_mem_nil)
  obtain ⟨t2_, h2, b1, b2, b3, b4, b5⟩ := Hm_ h as_ hp (bIj_m H_) hX
  have e := xrun_un (a1_ 999 (by show d_ ≤ 999; omega)) (b1 999 (by omega))
  have e2_ : h1 = h2 := congrArg (fun o => o.2.1) e
  subst e2_
  obtain ⟨u_, rfl, v_, rfl, -⟩ := a4
  exact ⟨v_, h1, a1_ 999 (by show d_ ≤ 999; omega), a2, b3, b4⟩
