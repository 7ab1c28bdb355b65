-- ===== a contract with exact answers: the answer's form, forms of places behind it, over the call's ints and places ahead of it
abbrev bK : Type := Option bF × List ((Nat × Nat) × bF)
/-- two forms are alike, as far as is known -/
def bqf (G : bE) (f_ g_ : bF) : Bool := match brg G (bsub f_ g_) with
  | some b_ => decide (b_.1 = 0) && decide (b_.2 = 0)
  | none => false
theorem bqf_ok {G : bE} {p : Nat → Int} (hG : bok G p) {f_ g_ : bF} (hq : bqf G f_ g_ = true) : bfv p f_ = bfv p g_ := by
  unfold bqf at hq
  cases hr : brg G (bsub f_ g_) with
  | none => rw [hr] at hq; cases hq
  | some b_ =>
    rw [hr] at hq
    simp only [Bool.and_eq_true, decide_eq_true_eq] at hq
    have e5_ := brg_ok hG (a := b_.1) (b := b_.2) hr
    rw [bsub_ok, hq.1, hq.2] at e5_
    omega
/-- an end of it answers so, and leaves the places so -/
def bqa (k_ : bK) (y_ : bRet) : Bool := match y_.1 with
  | some (some (.inl f_)) => (match k_.1 with
    | some g_ => bqf y_.2.1 f_ g_
    | none => true)
  | _ => false
def bqp (zf : Nat → Option (Nat × Nat)) (y_ : bRet) (q_ : (Nat × Nat) × bF) : Bool := (match zf q_.1.1 with
  | some z_ => Nat.ble (q_.1.2 + 1) z_.2
  | none => false) && (match blo y_.2.2.2.2.2 q_.1.1 q_.1.2 with
  | some (some (.inl f_)) => bqf y_.2.1 f_ q_.2
  | _ => false)
def bqr (zf : Nat → Option (Nat × Nat)) (k_ : bK) (y_ : bRet) : Bool := bqa k_ y_ && k_.2.all (bqp zf y_)
/-- places between two numbers alone -/
def bpl1 (q_ : (Nat × Nat) × bN × Option ((Nat × Nat) × Int × Int)) : Bool := match q_.2.1 with
  | .inl _ => (match q_.2.2 with
    | none => true
    | some _ => false)
  | .inr _ => false
def bpl0 (l : bH) : Bool := l.all bpl1
theorem bnot1_tv {Z : List (Nat × Nat)} {I : Nat → Nat → Option bN} {lo : xL} {st : List Jvm.Term} {h : xH} {q_ : (Nat × Nat) × bN × Option ((Nat × Nat) × Int × Int)} {S_ : bT} {p : Nat → Int} (hq : bpl1 q_ = true) (R : bR Z I p S_ lo st h) (H_ : ∃ (c_ : xC) (t_ : Jvm.Term), h[q_.1.1]? = some c_ ∧ c_.2[q_.1.2]? = some t_ ∧ bnv q_.2.1 t_ ∧ bHl h t_ q_.2.2) : ∃ p', (∀ v_, v_ < S_.2.1 → p' v_ = p v_) ∧ (bnot1 q_ S_).2.1 = S_.2.1 + 1 ∧ p' S_.2.1 = tv h q_.1.1 q_.1.2 ∧ bR Z I p' (bnot1 q_ S_) lo st h := by
  obtain ⟨G, n, la, sa, ov⟩ := S_
  obtain ⟨qa, qe, qo⟩ := q_
  obtain ⟨c_, t_, c1_, c2_, x1_, -⟩ := H_
  rcases qe with b_ | l
  · cases qo with
    | some w_ => cases hq
    | none =>
      obtain ⟨x_, x0_, x1_, x2_⟩ := x1_
      have x0_ : t_ = .int x_ := x0_
      subst x0_
      have hg : bga (bup p n x_.toInt) (some (.inl (bvr n))) (.int x_) := ⟨x_, rfl, bvr_v.symm⟩
      have R1 := bR_note (bR_new R x1_ x2_) c1_ c2_ bvr_l hg
      refine ⟨_, fun v_ hv => bup_ne (by have hv : v_ < n := hv; omega), rfl, ?_, R1⟩
      show bup p n x_.toInt n = tv h qa.1 qa.2
      have c1_ : h[qa.1]? = some c_ := c1_
      have c2_ : c_.2[qa.2]? = some (.int x_) := c2_
      rw [bup_self]
      simp only [tv, bpat_at c1_, c2_]
  · cases hq
theorem bnot_tv {Z : List (Nat × Nat)} {I : Nat → Nat → Option bN} {lo : xL} {st : List Jvm.Term} {h : xH} : ∀ {l : bH} {S_ : bT} {p : Nat → Int}, bpl0 l = true → bR Z I p S_ lo st h → bHp h l → ∃ p', (∀ v_, v_ < S_.2.1 → p' v_ = p v_) ∧ (bnot l S_).2.1 = S_.2.1 + l.length ∧ (∀ j_ q_, l[j_]? = some q_ → p' (S_.2.1 + j_) = tv h q_.1.1 q_.1.2) ∧ bR Z I p' (bnot l S_) lo st h := by
  intro l
  induction l with
  | nil => intro S_ p _ R _; exact ⟨p, fun _ _ => rfl, rfl, fun j_ q_ hj => (by cases hj), R⟩
  | cons q_ u_ ih_ =>
    intro S_ p hl R H_
    unfold bpl0 at hl
    simp only [List.all_cons, Bool.and_eq_true] at hl
    obtain ⟨p1_, b1, b2, b4, b3⟩ := bnot1_tv hl.1 R (H_ q_ List.mem_cons_self)
    obtain ⟨p2_, a1_, a2, a4, a3⟩ := ih_ hl.2 b3 (fun z_ hz => H_ z_ (List.mem_cons_of_mem _ hz))
    rw [b2] at a1_ a2 a4
    refine ⟨p2_, fun v_ hv => (a1_ v_ (by omega)).trans (b1 v_ hv), ?_, ?_, a3⟩
    · show (bnot u_ (bnot1 q_ S_)).2.1 = S_.2.1 + (u_.length + 1)
      rw [a2]
      omega
    · intro j_ q2_ hj
      cases j_ with
      | zero =>
        have e : q_ = q2_ := Option.some.inj hj
        subst e
        show p2_ S_.2.1 = _
        rw [a1_ S_.2.1 (by omega)]
        exact b4
      | succ j_ =>
        have w_ := a4 j_ q2_ hj
        rw [show S_.2.1 + 1 + j_ = S_.2.1 + (j_ + 1) by omega] at w_
        exact w_
/-- it answers and leaves places by these forms -/
def bcoq (Z : List (Nat × Nat)) (I : Nat → Nat → Option bN) (X_ : xH → Prop) (c_ : bC) (k_ : bK) : Prop := ∀ (h : xH) (ts : List Jvm.Term), bInv Z I h → X_ h → bPs c_.2.1 ts → bHp h (bcP c_) → ∃ (x_ : Int32) (h' : xH) (p : Nat → Int), (∀ D_, bcD c_ ≤ D_ → xrun D_ c_.1 0 (xal 0 ts) [] h (some (.int x_), h', [])) ∧ bfr c_.2.2.2.1 h h' ∧ (∀ v_, v_ < c_.2.1.length → p v_ = bpt ts v_) ∧ (∀ j_ q_, (bcP c_)[j_]? = some q_ → p (c_.2.1.length + j_) = tv h q_.1.1 q_.1.2) ∧ (∀ g_, k_.1 = some g_ → x_.toInt = bfv p g_) ∧ (∀ q_ ∈ k_.2, tv h' q_.1.1 q_.1.2 = bfv p q_.2)
section
variable {Z : List (Nat × Nat)} {zf : Nat → Option (Nat × Nat)} {I : Nat → Nat → Option bN} {X_ : xH → Prop} {ct : List bC} {mp_ mq : Nat → Nat → Nat} {jn : Nat → List bT → List bT} {gm_ : Nat → bT → bT → bG} {lp : Nat → Nat → bT → Option (bT × Nat × Bool × Nat)} {sp_ : Nat → Nat → bT → Option (bT × Nat × List (Int × Int) × Nat)} {dg ld : Nat → Nat → Option Nat} {sg : List bSg} {f_ : Nat} {c_ : bC} {k_ : bK}
noncomputable def bchq (zf : Nat → Option (Nat × Nat)) (I : Nat → Nat → Option bN) (mp_ mq : Nat → Nat → Nat) (jn : Nat → List bT → List bT) (gm_ : Nat → bT → bT → bG) (lp : Nat → Nat → bT → Option (bT × Nat × Bool × Nat)) (sp_ : Nat → Nat → bT → Option (bT × Nat × List (Int × Int) × Nat)) (dg ld : Nat → Nat → Option Nat) (ct : List bC) (sg : List bSg) (f_ : Nat) (c_ : bC) (k_ : bK) : Bool := bpl0 (bcP c_) && (match babs zf I c_.2.2.2.1 ct mp_ mq jn gm_ lp sp_ dg ld sg f_ false (bcD c_) c_.1 0 [] (c_.2.1.length + (bcP c_).length) [bnot (bcP c_) (bent c_.2.1)] with
  | none => false
  | some r_ => match r_.1 with
    | _ :: _ => false
    | [] => r_.2.all (bqr zf k_))
/-- A CONTRACT WITH EXACT ANSWERS IS KEPT, where the abstract interpreter says so -/
theorem bchq_ok (hZ : Z.length = 354) (hz : ∀ a_ z_, zf a_ = some z_ → xhg Z a_ = some z_) (hX : ∀ h h', bfr c_.2.2.2.1 h h' → X_ h → X_ h') (hct : ∀ c_ ∈ ct, bcon Z I X_ c_) (hsg : ∀ e ∈ sg, bsgok Z I X_ c_.2.2.2.1 e) (hs : bchq zf I mp_ mq jn gm_ lp sp_ dg ld ct sg f_ c_ k_ = true) : bcoq Z I X_ c_ k_ := by
  intro h ts H_ hx P_ Hp
  unfold bchq at hs
  rw [Bool.and_eq_true] at hs
  obtain ⟨hl, hs⟩ := hs
  cases hb_ : babs zf I c_.2.2.2.1 ct mp_ mq jn gm_ lp sp_ dg ld sg f_ false (bcD c_) c_.1 0 [] (c_.2.1.length + (bcP c_).length) [bnot (bcP c_) (bent c_.2.1)] with
  | none => rw [hb_] at hs; cases hs
  | some r_ =>
  rw [hb_] at hs
  simp only at hs
  cases hr : r_.1 with
  | cons y1 y2 => rw [hr] at hs; cases hs
  | nil =>
  rw [hr] at hs
  simp only at hs
  have hj : ∀ j_, bpt ts (0 + j_) = bpt ts j_ := fun j_ => by rw [Nat.zero_add]
  have R : bR Z I (bpt ts) (bent c_.2.1) (xal 0 ts) [] h := by
    refine ⟨bvE_ok hj P_, bvE_l (Nat.le_of_eq (Nat.zero_add _)), bal_l (bvs_l (Nat.le_of_eq (Nat.zero_add _))), rfl, rfl, bal_ok (bvs_ok hj P_), trivial, bHr_ag (n := 0) (fun v_ hv => absurd hv (Nat.not_lt_zero v_)) rfl H_.1, H_.2, ?_⟩
    unfold xok
    simp only [Bool.and_eq_true]
    exact ⟨xal_x (bPs_x P_), rfl⟩
  obtain ⟨p0_, a1_, a2, a4, a3⟩ := bnot_tv hl R Hp
  have a1_ : ∀ v_, v_ < c_.2.1.length → p0_ v_ = bpt ts v_ := a1_
  have a2 : (bnot (bcP c_) (bent c_.2.1)).2.1 = c_.2.1.length + (bcP c_).length := a2
  have a4 : ∀ j_ q_, (bcP c_)[j_]? = some q_ → p0_ (c_.2.1.length + j_) = tv h q_.1.1 q_.1.2 := a4
  rcases babs_ok hZ hz hX hct hsg f_ false (bcD c_) c_.1 0 [] (c_.2.1.length + (bcP c_).length) _ _ hb_ _ List.mem_cons_self (Nat.le_of_eq a2.symm) _ _ _ _ a3 hx with ⟨q_, m_, -⟩ | ⟨r0, m_, p, t_, h', b1, b2, b3, b5, b4⟩
  · rw [hr] at m_
    exact absurd m_ List.not_mem_nil
  · have ha_ := List.all_eq_true.mp hs r0 m_
    unfold bqr at ha_
    rw [Bool.and_eq_true] at ha_
    obtain ⟨ha1, ha2⟩ := ha_
    obtain ⟨g1, g2, g3_, g4, g5_, g6⟩ := b3
    have hp : ∀ q_ ∈ k_.2, tv h' q_.1.1 q_.1.2 = bfv p q_.2 := by
      intro q_ hq
      have w_ := List.all_eq_true.mp ha2 q_ hq
      unfold bqp at w_
      rw [Bool.and_eq_true] at w_
      obtain ⟨w1_, w2_⟩ := w_
      cases hq2 : zf q_.1.1 with
      | none => rw [hq2] at w1_; cases w1_
      | some z_ =>
      rw [hq2] at w1_
      have w1_ : Nat.ble (q_.1.2 + 1) z_.2 = true := w1_
      have hz2 : Z[q_.1.1]? = some z_ := by rw [← xhg_eq]; exact hz _ _ hq2
      obtain ⟨d_, d1_, d2_, d3_, d4_⟩ := g4.2 _ z_ hz2
      have hlt : q_.1.2 < d_.2.length := by
        have := Nat.le_of_ble_eq_true w1_
        omega
      have ht := List.getElem?_eq_getElem hlt
      have k4_ := d4_ q_.1.2 _ ht
      cases hb2 : blo r0.2.2.2.2.2 q_.1.1 q_.1.2 with
      | none => rw [hb2] at w2_; cases w2_
      | some v_ =>
      rw [hb2] at w2_ k4_
      rcases v_ with _ | (fo | l)
      · cases w2_
      · obtain ⟨x_, x1_, x2_⟩ := k4_
        rw [x1_] at ht
        have w2_ : bqf r0.2.1 fo q_.2 = true := w2_
        unfold tv
        rw [bpat_at d1_, ht]
        exact x2_.trans (bqf_ok g1 w2_)
      · cases w2_
    unfold bqa at ha1
    cases hv : r0.1 with
    | none => rw [hv] at ha1; cases ha1
    | some v_ =>
    rw [hv] at ha1 g6
    rcases v_ with _ | (fo | l)
    · cases ha1
    · obtain ⟨u_, u1_, ⟨x_, x1_, x2_⟩, -⟩ := g6
      subst x1_
      subst u1_
      refine ⟨x_, h', p, b4, b5, fun v_ hv => ?_, fun j_ q_ hq => ?_, fun g_ hg => ?_, hp⟩
      · rw [b1 v_ (by omega)]
        exact a1_ v_ hv
      · have hj2 := (List.getElem?_eq_some_iff.mp hq).1
        rw [b1 _ (by omega)]
        exact a4 j_ q_ hq
      · rw [hg] at ha1
        have ha1 : bqf r0.2.1 fo g_ = true := ha1
        exact x2_.trans (bqf_ok g1 ha1)
    · cases ha1
end
-- ===== tables of nothing; a loop's head where a place grows with the number that counts
def bmp0 (_ _ : Nat) : Nat := 99999
def blp0 (_ _ : Nat) (_ : bT) : Option (bT × Nat × Bool × Nat) := none
def bsp0 (_ _ : Nat) (_ : bT) : Option (bT × Nat × List (Int × Int) × Nat) := none
def bdg0 (_ _ : Nat) : Option Nat := none
def blsp (hm_ hpc x_ li ln : Nat) (pl : Nat × Nat) (lp0 : Nat → Nat → bT → Option (bT × Nat × Bool × Nat)) (mi pc : Nat) (S_ : bT) : Option (bT × Nat × Bool × Nat) := match Nat.beq mi hm_ && Nat.beq pc hpc with
  | false => lp0 mi pc S_
  | true => match blL S_.2.2.1 ln with
    | some (some (.inl fn)) => (match brg S_.1 fn with
      | some b_ => (match blo S_.2.2.2.2 pl.1 pl.2 with
        | some (some (.inl f_)) => some (((S_.2.1, 0, b_.2) :: S_.1, S_.2.1 + 1, (li, some (.inl (bvr S_.2.1))) :: (bddl [] S_.2.2.1).filter (fun q_ => !(Nat.beq q_.1 li)), S_.2.2.2.1, [(pl, some (.inl (badd f_ (bvr S_.2.1))))]), S_.2.1, true, x_)
        | _ => none)
      | none => none)
    | _ => none
