-- ===== a contract, by the abstract interpreter
def bvs (i_ : Nat) (es : List bP) : List bV := match es with
  | [] => []
  | e :: t_ => (match e with
    | none => none
    | some (.inl _) => some (.inl (bvr i_))
    | some (.inr l) => some (.inr l)) :: bvs (i_ + 1) t_
def bvE (i_ : Nat) (es : List bP) : bE := match es with
  | [] => []
  | e :: t_ => match e with
    | some (.inl b_) => (i_, b_.1, b_.2) :: bvE (i_ + 1) t_
    | _ => bvE (i_ + 1) t_
def btn (t_ : Option Jvm.Term) : Int := match t_ with
  | some (.int x_) => x_.toInt
  | _ => 0
/-- the unknowns of a call: its ints, by their places -/
def bpt (ts : List Jvm.Term) (i_ : Nat) : Int := btn ts[i_]?
theorem bpt_cons {t_ : Jvm.Term} {ts : List Jvm.Term} {j_ : Nat} : bpt (t_ :: ts) (j_ + 1) = bpt ts j_ := by
  unfold bpt
  rw [List.getElem?_cons_succ]
theorem bvs_ok {p : Nat → Int} : ∀ {es : List bP} {ts : List Jvm.Term} {i_ : Nat}, (∀ j_, p (i_ + j_) = bpt ts j_) → bPs es ts → bSr p (bvs i_ es) ts := by
  intro es
  induction es with
  | nil => intro ts i_ _ k_; cases ts with
    | nil => trivial
    | cons b_ u_ => exact absurd k_ id
  | cons e t_ ih_ => intro ts i_ h k_; cases ts with
    | nil => exact absurd k_ id
    | cons b_ u_ =>
      have h0 : p i_ = bpt (b_ :: u_) 0 := by
        have := h 0
        rwa [Nat.add_zero] at this
      refine ⟨?_, ih_ (fun j_ => ?_) k_.2⟩
      · have k1_ := k_.1
        rcases e with _ | (c_ | l)
        · exact k1_
        · obtain ⟨x_, rfl, x1_, x2_⟩ := k1_
          refine ⟨x_, rfl, ?_⟩
          have e1_ : bfv p (bvr i_) = p i_ := by simp only [bfv, bvr, bsm]; omega
          rw [e1_, h0]
          rfl
        · exact k1_
      · have h1 := h (j_ + 1)
        rw [bpt_cons] at h1
        rw [← h1]
        congr 1
        omega
theorem bvE_ok {p : Nat → Int} : ∀ {es : List bP} {ts : List Jvm.Term} {i_ : Nat}, (∀ j_, p (i_ + j_) = bpt ts j_) → bPs es ts → bok (bvE i_ es) p := by
  intro es
  induction es with
  | nil => intro ts i_ _ k_ v_ l u_ hb_; cases hb_
  | cons e t_ ih_ => intro ts i_ h k_; cases ts with
    | nil => exact absurd k_ id
    | cons b_ u_ =>
      have h0 : p i_ = bpt (b_ :: u_) 0 := by
        have := h 0
        rwa [Nat.add_zero] at this
      have tail_ : bok (bvE (i_ + 1) t_) p := ih_ (fun j_ => by
        have h1 := h (j_ + 1)
        rw [bpt_cons] at h1
        rw [← h1]
        congr 1
        omega) k_.2
      rcases e with _ | (c_ | l)
      · exact tail_
      · obtain ⟨x_, rfl, x1_, x2_⟩ := k_.1
        have e1_ : p i_ = x_.toInt := h0
        exact bok_set tail_ (by rw [e1_]; exact x1_) (by rw [e1_]; exact x2_)
      · exact tail_
theorem bvE_l : ∀ {es : List bP} {i_ n : Nat}, i_ + es.length ≤ n → bltE n (bvE i_ es) = true := by
  intro es
  induction es with
  | nil => intro i_ n _; rfl
  | cons e t_ ih_ =>
    intro i_ n h
    simp only [List.length_cons] at h
    rcases e with _ | (c_ | l)
    · exact ih_ (by omega)
    · exact bltE_set (ih_ (by omega)) (by omega)
    · exact ih_ (by omega)
theorem bvs_l : ∀ {es : List bP} {i_ n : Nat}, i_ + es.length ≤ n → bSl n (bvs i_ es) = true := by
  intro es
  induction es with
  | nil => intro i_ n _; rfl
  | cons e t_ ih_ =>
    intro i_ n h
    simp only [List.length_cons] at h
    unfold bSl
    simp only [bvs, List.all_cons, Bool.and_eq_true]
    refine ⟨?_, ih_ (by omega)⟩
    rcases e with _ | (c_ | l)
    · rfl
    · simp only [bvl, blt, bvr, List.all_cons, List.all_nil, Bool.and_true]
      exact Nat.ble_eq_true_of_le (by omega)
    · rfl
theorem bPs_x : ∀ {es : List bP} {ts : List Jvm.Term}, bPs es ts → ts.all (xidx 354) = true := by
  intro es
  induction es with
  | nil => intro ts k_; cases ts with
    | nil => rfl
    | cons b_ u_ => exact absurd k_ id
  | cons e t_ ih_ => intro ts k_; cases ts with
    | nil => exact absurd k_ id
    | cons b_ u_ =>
      simp only [List.all_cons, Bool.and_eq_true]
      refine ⟨?_, ih_ k_.2⟩
      have k1_ := k_.1
      rcases e with _ | (c_ | l)
      · obtain ⟨x_, rfl⟩ := k1_
        rfl
      · obtain ⟨x_, rfl, -⟩ := k1_
        rfl
      · exact k1_.2.2
/-- the state at a method's entry -/
def bent (es : List bP) : bT := (bvE 0 es, es.length, bal 0 (bvs 0 es), [], [])
noncomputable def bans (zf : Nat → Option (Nat × Nat)) (I : Nat → Nat → Option bN) (a_ : Option bN) (hq : bH) (r_ : bRet) : Bool := (bnew I r_.2.1 r_.2.2.2.2.2 && bhpk zf I r_.2.1 r_.2.2.2.2.2 hq) && (match a_ with
  | none => (match r_.1 with
    | none => true
    | some _ => false)
  | some b_ => (match r_.1 with
    | none => false
    | some v_ => bkv r_.2.1 b_ v_))
section
variable {Z : List (Nat × Nat)} {zf : Nat → Option (Nat × Nat)} {I : Nat → Nat → Option bN} {ct : List bC} {mp_ mq : Nat → Nat → Nat} {jn : Nat → List bT → List bT} {gm_ : Nat → bT → bT → bG} {lp : Nat → Nat → bT → Option (bT × Nat × Bool × Nat)} {sp_ : Nat → Nat → bT → Option (bT × Nat × List (Int × Int) × Nat)} {dg ld : Nat → Nat → Option Nat} {f_ : Nat} {c_ : bC}
noncomputable def bchk (zf : Nat → Option (Nat × Nat)) (I : Nat → Nat → Option bN) (mp_ mq : Nat → Nat → Nat) (jn : Nat → List bT → List bT) (gm_ : Nat → bT → bT → bG) (lp : Nat → Nat → bT → Option (bT × Nat × Bool × Nat)) (sp_ : Nat → Nat → bT → Option (bT × Nat × List (Int × Int) × Nat)) (dg ld : Nat → Nat → Option Nat) (ct : List bC) (f_ : Nat) (c_ : bC) : Bool := match babs zf I c_.2.2.2.1 ct mp_ mq jn gm_ lp sp_ dg ld f_ false (bcD c_) c_.1 0 [] c_.2.1.length [bnot (bcP c_) (bent c_.2.1)] with
  | none => false
  | some r_ => match r_.1 with
    | _ :: _ => false
    | [] => r_.2.all (bans zf I c_.2.2.1 (bcQ c_))
/-- A CONTRACT IS KEPT, where the abstract interpreter says so -/
theorem bchk_ok (hZ : Z.length = 354) (hz : ∀ a_ z_, zf a_ = some z_ → xhg Z a_ = some z_) (hct : ∀ c_ ∈ ct, bcon Z I c_) (hs : bchk zf I mp_ mq jn gm_ lp sp_ dg ld ct f_ c_ = true) : bcon Z I c_ := by
  intro h ts H_ P_ Hp
  unfold bchk at hs
  cases hb_ : babs zf I c_.2.2.2.1 ct mp_ mq jn gm_ lp sp_ dg ld f_ false (bcD c_) c_.1 0 [] c_.2.1.length [bnot (bcP c_) (bent c_.2.1)] with
  | none => rw [hb_] at hs; cases hs
  | some r_ =>
  rw [hb_] at hs
  simp only at hs
  cases hr : r_.1 with
  | cons y1 y2 => rw [hr] at hs; cases hs
  | nil =>
  rw [hr] at hs
  simp only at hs
  have hj : ∀ j_, bpt ts (0 + j_) = bpt ts j_ := fun j_ => by rw [Nat.zero_add]
  have R : bR Z I (bpt ts) (bent c_.2.1) (xal 0 ts) [] h := by
    refine ⟨bvE_ok hj P_, bvE_l (Nat.le_of_eq (Nat.zero_add _)), bal_l (bvs_l (Nat.le_of_eq (Nat.zero_add _))), rfl, rfl, bal_ok (bvs_ok hj P_), trivial, bHr_ag (n := 0) (fun v_ hv => absurd hv (Nat.not_lt_zero v_)) rfl H_.1, H_.2, ?_⟩
    unfold xok
    simp only [Bool.and_eq_true]
    exact ⟨xal_x (bPs_x P_), rfl⟩
  obtain ⟨p0_, -, a2, a3⟩ := bnot_ok R Hp
  rcases babs_ok hZ hz hct f_ false (bcD c_) c_.1 0 [] c_.2.1.length _ _ hb_ _ List.mem_cons_self a2 _ _ _ _ a3 with ⟨q_, m_, -⟩ | ⟨r0, m_, p, t_, h', b1, b2, b3, b5, b4⟩
  · rw [hr] at m_
    exact absurd m_ List.not_mem_nil
  · have ha_ := List.all_eq_true.mp hs r0 m_
    unfold bans at ha_
    simp only [Bool.and_eq_true] at ha_
    obtain ⟨g1, g2, g3_, g4, g5_, g6⟩ := b3
    refine ⟨t_, h', b4, ⟨bHr_dropn g1 ha_.1.1 g4, g5_⟩, b5, ?_, bhpk_ok hz g1 g4 ha_.1.2⟩
    have ha2 := ha_.2
    unfold bav
    cases hc_ : c_.2.2.1 with
    | none =>
      rw [hc_] at ha2
      cases hv : r0.1 with
      | none =>
        rw [hv] at g6
        exact g6
      | some v_ => rw [hv] at ha2; cases ha2
    | some b_ =>
      rw [hc_] at ha2
      cases hv : r0.1 with
      | none => rw [hv] at ha2; cases ha2
      | some v_ =>
        rw [hv] at ha2 g6
        obtain ⟨u_, u1_, u2_, -⟩ := g6
        exact ⟨u_, u1_, bkv_ok g1 ha2 u2_⟩
end
