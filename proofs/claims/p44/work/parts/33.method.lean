-- ===== a contract, by the abstract interpreter
def bvs (i_ : Nat) (es : List bP) : List bV := match es with
  | [] => []
  | e :: t_ => (match e with
    | none => none
    | some (.inl _) => some (.inl (bvr i_))
    | some (.inr l) => some (.inr l)) :: bvs (i_ + 1) t_
def bvE (i_ : Nat) (es : List bP) : bE := match es with
  | [] => []
  | e :: t_ => match e with
    | some (.inl b_) => (i_, b_.1, b_.2) :: bvE (i_ + 1) t_
    | _ => bvE (i_ + 1) t_
def btn (t_ : Option Jvm.Term) : Int := match t_ with
  | some (.int x_) => x_.toInt
  | _ => 0
/-- the unknowns of a call: its ints, by their places -/
def bpt (ts : List Jvm.Term) (i_ : Nat) : Int := btn ts[i_]?
theorem bpt_cons {t_ : Jvm.Term} {ts : List Jvm.Term} {j_ : Nat} : bpt (t_ :: ts) (j_ + 1) = bpt ts j_ := by
  unfold bpt
  rw [List.getElem?_cons_succ]
theorem bvs_ok {p : Nat → Int} : ∀ {es : List bP} {ts : List Jvm.Term} {i_ : Nat}, (∀ j_, p (i_ + j_) = bpt ts j_) → bPs es ts → bSr p (bvs i_ es) ts := by
  intro es
  induction es with
  | nil => intro ts i_ _ k_; cases ts with
    | nil => trivial
    | cons b_ u_ => exact absurd k_ id
  | cons e t_ ih_ => intro ts i_ h k_; cases ts with
    | nil => exact absurd k_ id
    | cons b_ u_ =>
      have h0 : p i_ = bpt (b_ :: u_) 0 := by
        have := h 0
        rwa [Nat.add_zero] at this
      refine ⟨?_, ih_ (fun j_ => ?_) k_.2⟩
      · have k1_ := k_.1
        rcases e with _ | (c_ | l)
        · exact k1_
        · obtain ⟨x_, rfl, x1_, x2_⟩ := k1_
          refine ⟨x_, rfl, ?_⟩
          have e1_ : bfv p (bvr i_) = p i_ := by simp only [bfv, bvr, bsm]; omega
          rw [e1_, h0]
          rfl
        · exact k1_
      · have h1 := h (j_ + 1)
        rw [bpt_cons] at h1
        rw [← h1]
        congr 1
        omega
theorem bvE_ok {p : Nat → Int} : ∀ {es : List bP} {ts : List Jvm.Term} {i_ : Nat}, (∀ j_, p (i_ + j_) = bpt ts j_) → bPs es ts → bok (bvE i_ es) p := by
  intro es
  induction es with
  | nil => intro ts i_ _ k_ v_ l u_ hb_; cases hb_
  | cons e t_ ih_ => intro ts i_ h k_; cases ts with
    | nil => exact absurd k_ id
    | cons b_ u_ =>
      have h0 : p i_ = bpt (b_ :: u_) 0 := by
        have := h 0
        rwa [Nat.add_zero] at this
      have tail_ : bok (bvE (i_ + 1) t_) p := ih_ (fun j_ => by
        have h1 := h (j_ + 1)
        rw [bpt_cons] at h1
        rw [← h1]
        congr 1
        omega) k_.2
      rcases e with _ | (c_ | l)
      · exact tail_
      · obtain ⟨x_, rfl, x1_, x2_⟩ := k_.1
        have e1_ : p i_ = x_.toInt := h0
        exact bok_set tail_ (by rw [e1_]; exact x1_) (by rw [e1_]; exact x2_)
      · exact tail_
theorem bvE_l : ∀ {es : List bP} {i_ n : Nat}, i_ + es.length ≤ n → bltE n (bvE i_ es) = true := by
  intro es
  induction es with
  | nil => intro i_ n _; rfl
  | cons e t_ ih_ =>
    intro i_ n h
    simp only [List.length_cons] at h
    rcases e with _ | (c_ | l)
    · exact ih_ (by omega)
    · exact bltE_set (ih_ (by omega)) (by omega)
    · exact ih_ (by omega)
theorem bvs_l : ∀ {es : List bP} {i_ n : Nat}, i_ + es.length ≤ n → bSl n (bvs i_ es) = true := by
  intro es
  induction es with
  | nil => intro i_ n _; rfl
  | cons e t_ ih_ =>
    intro i_ n h
    simp only [List.length_cons] at h
    unfold bSl
    simp only [bvs, List.all_cons, Bool.and_eq_true]
    refine ⟨?_, ih_ (by omega)⟩
    rcases e with _ | (c_ | l)
    · rfl
    · simp only [bvl, blt, bvr, List.all_cons, List.all_nil, Bool.and_true]
      exact Nat.ble_eq_true_of_le (by omega)
    · rfl
theorem bPs_x : ∀ {es : List bP} {ts : List Jvm.Term}, bPs es ts → ts.all (xidx 354) = true := by
  intro es
  induction es with
  | nil => intro ts k_; cases ts with
    | nil => rfl
    | cons b_ u_ => exact absurd k_ id
  | cons e t_ ih_ => intro ts k_; cases ts with
    | nil => exact absurd k_ id
    | cons b_ u_ =>
      simp only [List.all_cons, Bool.and_eq_true]
      refine ⟨?_, ih_ k_.2⟩
      have k1_ := k_.1
      rcases e with _ | (c_ | l)
      · obtain ⟨x_, rfl⟩ := k1_
        rfl
      · obtain ⟨x_, rfl, -⟩ := k1_
        rfl
      · exact k1_.2.2
/-- the state at a method's entry -/
def bent (es : List bP) : bT := (bvE 0 es, es.length, bal 0 (bvs 0 es), [], [])
noncomputable def bans (zf : Nat → Option (Nat × Nat)) (I : Nat → Nat → Option bN) (a_ : Option bN) (hq : bH) (r_ : bRet) : Bool := (bnew I r_.2.1 r_.2.2.2.2.2 && bhpk zf I r_.2.1 r_.2.2.2.2.2 hq) && (match a_ with
  | none => (match r_.1 with
    | none => true
    | some _ => false)
  | some b_ => (match r_.1 with
    | none => false
    | some v_ => bkv r_.2.1 b_ v_))
section
variable {Z : List (Nat × Nat)} {zf : Nat → Option (Nat × Nat)} {I : Nat → Nat → Option bN} {X_ : xH → Prop} {ct : List bC} {mp_ mq : Nat → Nat → Nat} {jn : Nat → List bT → List bT} {gm_ : Nat → bT → bT → bG} {lp : Nat → Nat → bT → Option (bT × Nat × Bool × Nat)} {sp_ : Nat → Nat → bT → Option (bT × Nat × List (Int × Int) × Nat)} {dg ld : Nat → Nat → Option Nat} {sg : List bSg} {f_ : Nat} {c_ : bC}
noncomputable def bchk (zf : Nat → Option (Nat × Nat)) (I : Nat → Nat → Option bN) (mp_ mq : Nat → Nat → Nat) (jn : Nat → List bT → List bT) (gm_ : Nat → bT → bT → bG) (lp : Nat → Nat → bT → Option (bT × Nat × Bool × Nat)) (sp_ : Nat → Nat → bT → Option (bT × Nat × List (Int × Int) × Nat)) (dg ld : Nat → Nat → Option Nat) (ct : List bC) (sg : List bSg) (f_ : Nat) (c_ : bC) : Bool := match babs zf I c_.2.2.2.1 ct mp_ mq jn gm_ lp sp_ dg ld sg f_ false (bcD c_) c_.1 0 [] c_.2.1.length [bnot (bcP c_) (bent c_.2.1)] with
  | none => false
  | some r_ => match r_.1 with
    | _ :: _ => false
    | [] => r_.2.all (bans zf I c_.2.2.1 (bcQ c_))
/-- A CONTRACT IS KEPT, where the abstract interpreter says so -/
theorem bchk_ok (hZ : Z.length = 354) (hz : ∀ a_ z_, zf a_ = some z_ → xhg Z a_ = some z_) (hX : ∀ h h', bfr c_.2.2.2.1 h h' → X_ h → X_ h') (hct : ∀ c_ ∈ ct, bcon Z I X_ c_) (hsg : ∀ e ∈ sg, bsgok Z I X_ c_.2.2.2.1 e) (hs : bchk zf I mp_ mq jn gm_ lp sp_ dg ld ct sg f_ c_ = true) : bcon Z I X_ c_ := by
  intro h ts H_ hx P_ Hp
  unfold bchk at hs
  cases hb_ : babs zf I c_.2.2.2.1 ct mp_ mq jn gm_ lp sp_ dg ld sg f_ false (bcD c_) c_.1 0 [] c_.2.1.length [bnot (bcP c_) (bent c_.2.1)] with
  | none => rw [hb_] at hs; cases hs
  | some r_ =>
  rw [hb_] at hs
  simp only at hs
  cases hr : r_.1 with
  | cons y1 y2 => rw [hr] at hs; cases hs
  | nil =>
  rw [hr] at hs
  simp only at hs
  have hj : ∀ j_, bpt ts (0 + j_) = bpt ts j_ := fun j_ => by rw [Nat.zero_add]
  have R : bR Z I (bpt ts) (bent c_.2.1) (xal 0 ts) [] h := by
    refine ⟨bvE_ok hj P_, bvE_l (Nat.le_of_eq (Nat.zero_add _)), bal_l (bvs_l (Nat.le_of_eq (Nat.zero_add _))), rfl, rfl, bal_ok (bvs_ok hj P_), trivial, bHr_ag (n := 0) (fun v_ hv => absurd hv (Nat.not_lt_zero v_)) rfl H_.1, H_.2, ?_⟩
    unfold xok
    simp only [Bool.and_eq_true]
    exact ⟨xal_x (bPs_x P_), rfl⟩
  obtain ⟨p0_, -, a2, a3⟩ := bnot_ok R Hp
  rcases babs_ok hZ hz hX hct hsg f_ false (bcD c_) c_.1 0 [] c_.2.1.length _ _ hb_ _ List.mem_cons_self a2 _ _ _ _ a3 hx with ⟨q_, m_, -⟩ | ⟨r0, m_, p, t_, h', b1, b2, b3, b5, b4⟩
  · rw [hr] at m_
    exact absurd m_ List.not_mem_nil
  · have ha_ := List.all_eq_true.mp hs r0 m_
    unfold bans at ha_
    simp only [Bool.and_eq_true] at ha_
    obtain ⟨g1, g2, g3_, g4, g5_, g6⟩ := b3
    refine ⟨t_, h', b4, ⟨bHr_dropn g1 ha_.1.1 g4, g5_⟩, b5, ?_, bhpk_ok hz g1 g4 ha_.1.2⟩
    have ha2 := ha_.2
    unfold bav
    cases hc_ : c_.2.2.1 with
    | none =>
      rw [hc_] at ha2
      cases hv : r0.1 with
      | none =>
        rw [hv] at g6
        exact g6
      | some v_ => rw [hv] at ha2; cases ha2
    | some b_ =>
      rw [hc_] at ha2
      cases hv : r0.1 with
      | none => rw [hv] at ha2; cases ha2
      | some v_ =>
        rw [hv] at ha2 g6
        obtain ⟨u_, u1_, u2_, -⟩ := g6
        exact ⟨u_, u1_, bkv_ok g1 ha2 u2_⟩

-- ===== a segment, by the abstract interpreter
def bqV (v_ w_ : bV) : Bool := match v_, w_ with
  | none, none => true
  | some (.inl f_), some (.inl g_) => decide (f_ = g_)
  | some (.inr l), some (.inr m_) => blq l m_
  | _, _ => false
theorem bqV_eq {v_ w_ : bV} (h : bqV v_ w_ = true) : v_ = w_ := by
  rcases v_ with _ | (f_ | l) <;> rcases w_ with _ | (g_ | m_) <;> first | rfl | (cases h; done) | skip
  · have := of_decide_eq_true h
    rw [this]
  · rw [blq_eq h]
def bqL {A_ : Type} (q_ : A_ → A_ → Bool) (l m_ : List A_) : Bool := match l, m_ with
  | [], [] => true
  | a_ :: t_, b_ :: u_ => q_ a_ b_ && bqL q_ t_ u_
  | _, _ => false
theorem bqL_eq {A_ : Type} {q_ : A_ → A_ → Bool} (hq : ∀ a_ b_, q_ a_ b_ = true → a_ = b_) : ∀ {l m_ : List A_}, bqL q_ l m_ = true → l = m_ := by
  intro l
  induction l with
  | nil => intro m_ h; cases m_ with
    | nil => rfl
    | cons b_ u_ => cases h
  | cons a_ t_ ih_ => intro m_ h; cases m_ with
    | nil => cases h
    | cons b_ u_ =>
      simp only [bqL, Bool.and_eq_true] at h
      rw [hq _ _ h.1, ih_ h.2]
def bqK (a_ b_ : Nat × bV) : Bool := Nat.beq a_.1 b_.1 && bqV a_.2 b_.2
def bqO (a_ b_ : (Nat × Nat) × bV) : Bool := (Nat.beq a_.1.1 b_.1.1 && Nat.beq a_.1.2 b_.1.2) && bqV a_.2 b_.2
def bqE (a_ b_ : Nat × Int × Int) : Bool := Nat.beq a_.1 b_.1 && (decide (a_.2.1 = b_.2.1) && decide (a_.2.2 = b_.2.2))
def bqS (S_ J_ : bT) : Bool := bqL bqE S_.1 J_.1 && (Nat.beq S_.2.1 J_.2.1 && (bqL bqK S_.2.2.1 J_.2.2.1 && (bqL bqV S_.2.2.2.1 J_.2.2.2.1 && bqL bqO S_.2.2.2.2 J_.2.2.2.2)))
theorem bqS_eq {S_ J_ : bT} (h : bqS S_ J_ = true) : S_ = J_ := by
  obtain ⟨G, n, la, sa, ov⟩ := S_
  obtain ⟨G', n', la', sa', ov'⟩ := J_
  simp only [bqS, Bool.and_eq_true] at h
  obtain ⟨h1, h2, h3, h4, h5⟩ := h
  have e1_ : G = G' := bqL_eq (fun a_ b_ k_ => by
    obtain ⟨a1_, a2, a3⟩ := a_
    obtain ⟨b1, b2, b3⟩ := b_
    simp only [bqE, Bool.and_eq_true, decide_eq_true_eq] at k_
    obtain ⟨k1_, k2_, k3_⟩ := k_
    rw [Nat.eq_of_beq_eq_true k1_, k2_, k3_]) h1
  have e2_ : n = n' := Nat.eq_of_beq_eq_true h2
  have e3_ : la = la' := bqL_eq (fun a_ b_ k_ => by
    obtain ⟨a1_, a2⟩ := a_
    obtain ⟨b1, b2⟩ := b_
    simp only [bqK, Bool.and_eq_true] at k_
    rw [Nat.eq_of_beq_eq_true k_.1, bqV_eq k_.2]) h3
  have e4_ : sa = sa' := bqL_eq (fun a_ b_ k_ => bqV_eq k_) h4
  have e5_ : ov = ov' := bqL_eq (fun a_ b_ k_ => by
    obtain ⟨⟨a1_, a2⟩, a3⟩ := a_
    obtain ⟨⟨b1, b2⟩, b3⟩ := b_
    simp only [bqO, Bool.and_eq_true] at k_
    rw [Nat.eq_of_beq_eq_true k_.1.1, Nat.eq_of_beq_eq_true k_.1.2, bqV_eq k_.2]) h5
  rw [e1_, e2_, e3_, e4_, e5_]
def bqQ (a_ b_ : bQ) : Bool := Nat.beq a_.1 b_.1 && bqS a_.2 b_.2
def bqo (a_ b_ : Option bV) : Bool := match a_, b_ with
  | none, none => true
  | some v_, some w_ => bqV v_ w_
  | _, _ => false
def bqR (a_ b_ : bRet) : Bool := bqo a_.1 b_.1 && bqS a_.2 b_.2
def bqRs (a_ b_ : bRs) : Bool := bqL bqQ a_.1 b_.1 && bqL bqR a_.2 b_.2
theorem bqRs_eq {a_ b_ : bRs} (h : bqRs a_ b_ = true) : a_ = b_ := by
  obtain ⟨a1_, a2⟩ := a_
  obtain ⟨b1, b2⟩ := b_
  simp only [bqRs, Bool.and_eq_true] at h
  have e1_ : a1_ = b1 := bqL_eq (fun x_ y_ k_ => by
    obtain ⟨x1_, x2_⟩ := x_
    obtain ⟨y1, y2⟩ := y_
    simp only [bqQ, Bool.and_eq_true] at k_
    rw [Nat.eq_of_beq_eq_true k_.1, bqS_eq k_.2]) h.1
  have e2_ : a2 = b2 := bqL_eq (fun x_ y_ k_ => by
    obtain ⟨x1_, x2_⟩ := x_
    obtain ⟨y1, y2⟩ := y_
    simp only [bqR, Bool.and_eq_true] at k_
    obtain ⟨k1_, k2_⟩ := k_
    rw [bqS_eq k2_]
    cases x1_ with
    | none => cases y1 with
      | none => rfl
      | some w_ => cases k1_
    | some v_ => cases y1 with
      | none => cases k1_
      | some w_ => rw [bqV_eq k1_]) h.2
  rw [e1_, e2_]
noncomputable def bsgc (zf : Nat → Option (Nat × Nat)) (I : Nat → Nat → Option bN) (W : bW) (mp_ mq : Nat → Nat → Nat) (jn : Nat → List bT → List bT) (gm_ : Nat → bT → bT → bG) (lp : Nat → Nat → bT → Option (bT × Nat × Bool × Nat)) (sp_ : Nat → Nat → bT → Option (bT × Nat × List (Int × Int) × Nat)) (dg ld : Nat → Nat → Option Nat) (ct : List bC) (sg : List bSg) (f_ : Nat) (stops : List Nat) (e : bSg) : Bool := match babs zf I W ct mp_ mq jn gm_ lp sp_ dg ld sg f_ false e.1 e.2.1 e.2.2.1 stops e.2.2.2.1 [e.2.2.2.2.1] with
  | none => false
  | some r_ => bqRs r_ e.2.2.2.2.2 && Nat.ble e.2.2.2.1 e.2.2.2.2.1.2.1
/-- A SEGMENT IS RIGHT, where the abstract interpreter says so -/
theorem bsgc_ok {W : bW} {stops : List Nat} {e : bSg} (hZ : Z.length = 354) (hz : ∀ a_ z_, zf a_ = some z_ → xhg Z a_ = some z_) (hX : ∀ h h', bfr W h h' → X_ h → X_ h') (hct : ∀ c_ ∈ ct, bcon Z I X_ c_) (hsg : ∀ e ∈ sg, bsgok Z I X_ W e) (hs : bsgc zf I W mp_ mq jn gm_ lp sp_ dg ld ct sg f_ stops e = true) : bsgok Z I X_ W e := by
  intro p lo st h R hx
  unfold bsgc at hs
  cases hb_ : babs zf I W ct mp_ mq jn gm_ lp sp_ dg ld sg f_ false e.1 e.2.1 e.2.2.1 stops e.2.2.2.1 [e.2.2.2.2.1] with
  | none => rw [hb_] at hs; cases hs
  | some r_ =>
  rw [hb_] at hs
  simp only [Bool.and_eq_true] at hs
  rw [← bqRs_eq hs.1]
  exact babs_ok hZ hz hX hct hsg f_ false _ _ _ _ _ _ _ hb_ _ List.mem_cons_self (Nat.le_of_ble_eq_true hs.2) p lo st h R hx
end
/-- nothing is asked of the heap -/
def bTr : xH → Prop := fun _ => True
theorem bTr_ok {W : bW} : ∀ h h', bfr W h h' → bTr h → bTr h' := fun _ _ _ _ => trivial
theorem bcon_of {Z : List (Nat × Nat)} {I : Nat → Nat → Option bN} {X_ : xH → Prop} {c_ : bC} (hc_ : bcon Z I bTr c_) : bcon Z I X_ c_ := fun h ts H_ _ P_ Hp => hc_ h ts H_ trivial P_ Hp
