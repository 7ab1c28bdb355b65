-- ===== what a method may answer with
def brtr (ty_ : Option FieldType) (v_ : bV) : Bool := match ty_ with
  | some (.object _) => (match v_ with
    | some (.inr _) => true
    | _ => false)
  | some (.array _) => (match v_ with
    | some (.inr _) => true
    | _ => false)
  | _ => false
theorem brtr_ok {p : Nat → Int} {ty_ : Option FieldType} {v_ : bV} {t_ : Jvm.Term} (k_ : bga p v_ t_) (h : brtr ty_ v_ = true) : xrr ty_ t_ = true := by
  unfold brtr at h
  split at h
  · split at h
    · exact k_.2.1
    · cases h
  · split at h
    · exact k_.2.1
    · cases h
  · cases h
-- ===== what is computed is computed once
def bfI {A_ : Type} (x_ : Int) (k_ : Int → A_) : A_ := match x_ with
  | .ofNat n => xfN n (fun m_ => k_ (.ofNat m_))
  | .negSucc n => xfN n (fun m_ => k_ (.negSucc m_))
theorem bfI_eq {A_ : Type} (x_ : Int) (k_ : Int → A_) : bfI x_ k_ = k_ x_ := by cases x_ <;> simp only [bfI, xfN_eq]
noncomputable def bfL {A_ B_ : Type} (fe : B_ → (B_ → A_) → A_) (l : List B_) (k_ : List B_ → A_) : A_ := List.rec (motive := fun _ => (List B_ → A_) → A_) (fun k_ => k_ []) (fun a_ _ ih_ k_ => fe a_ (fun b_ => ih_ (fun u_ => k_ (b_ :: u_)))) l k_
theorem bfL_eq {A_ B_ : Type} {fe : B_ → (B_ → A_) → A_} (hf : ∀ a_ k_, fe a_ k_ = k_ a_) (l : List B_) (k_ : List B_ → A_) : bfL fe l k_ = k_ l := by
  induction l generalizing k_ with
  | nil => rfl
  | cons a_ u_ ih_ =>
    have e : bfL fe (a_ :: u_) k_ = fe a_ (fun b_ => bfL fe u_ (fun u' => k_ (b_ :: u'))) := rfl
    rw [e, hf, ih_]
def bfP {A_ : Type} (q_ : Nat × Int) (k_ : Nat × Int → A_) : A_ := xfN q_.1 (fun v_ => bfI q_.2 (fun c_ => k_ (v_, c_)))
theorem bfP_eq {A_ : Type} (q_ : Nat × Int) (k_ : Nat × Int → A_) : bfP q_ k_ = k_ q_ := by simp only [bfP, xfN_eq, bfI_eq]
noncomputable def bfF {A_ : Type} (f_ : bF) (k_ : bF → A_) : A_ := bfI f_.1 (fun c_ => bfL bfP f_.2 (fun l => k_ (c_, l)))
theorem bfF_eq {A_ : Type} (f_ : bF) (k_ : bF → A_) : bfF f_ k_ = k_ f_ := by simp only [bfF, bfI_eq, bfL_eq bfP_eq]
noncomputable def bfV {A_ : Type} (v_ : bV) (k_ : bV → A_) : A_ := match v_ with
  | none => k_ none
  | some (.inl f_) => bfF f_ (fun g_ => k_ (some (.inl g_)))
  | some (.inr l) => k_ (some (.inr l))
theorem bfV_eq {A_ : Type} (v_ : bV) (k_ : bV → A_) : bfV v_ k_ = k_ v_ := by
  rcases v_ with _ | (f_ | l)
  · rfl
  · simp only [bfV, bfF_eq]
  · rfl
def bfE {A_ : Type} (q_ : Nat × Int × Int) (k_ : Nat × Int × Int → A_) : A_ := xfN q_.1 (fun v_ => bfI q_.2.1 (fun l => bfI q_.2.2 (fun u_ => k_ (v_, l, u_))))
theorem bfE_eq {A_ : Type} (q_ : Nat × Int × Int) (k_ : Nat × Int × Int → A_) : bfE q_ k_ = k_ q_ := by simp only [bfE, xfN_eq, bfI_eq]
noncomputable def bfK {A_ : Type} (q_ : Nat × bV) (k_ : Nat × bV → A_) : A_ := xfN q_.1 (fun i_ => bfV q_.2 (fun v_ => k_ (i_, v_)))
theorem bfK_eq {A_ : Type} (q_ : Nat × bV) (k_ : Nat × bV → A_) : bfK q_ k_ = k_ q_ := by simp only [bfK, xfN_eq, bfV_eq]
noncomputable def bfO {A_ : Type} (q_ : (Nat × Nat) × bV) (k_ : (Nat × Nat) × bV → A_) : A_ := xfN q_.1.1 (fun i_ => xfN q_.1.2 (fun j_ => bfV q_.2 (fun v_ => k_ ((i_, j_), v_))))
theorem bfO_eq {A_ : Type} (q_ : (Nat × Nat) × bV) (k_ : (Nat × Nat) × bV → A_) : bfO q_ k_ = k_ q_ := by simp only [bfO, xfN_eq, bfV_eq]
noncomputable def bfS {A_ : Type} (S_ : bT) (k_ : bT → A_) : A_ := bfL bfE S_.1 (fun G => xfN S_.2.1 (fun n => bfL bfK S_.2.2.1 (fun la => bfL bfV S_.2.2.2.1 (fun sa => bfL bfO S_.2.2.2.2 (fun ov => k_ (G, n, la, sa, ov))))))
theorem bfS_eq {A_ : Type} (S_ : bT) (k_ : bT → A_) : bfS S_ k_ = k_ S_ := by simp only [bfS, xfN_eq, bfL_eq bfE_eq, bfL_eq bfK_eq, bfL_eq bfV_eq, bfL_eq bfO_eq]
/-- locals and stack alone -/
noncomputable def bfQ {A_ : Type} (S_ : bT) (k_ : bT → A_) : A_ := xfN S_.2.1 (fun n => bfL bfK S_.2.2.1 (fun la => bfL bfV S_.2.2.2.1 (fun sa => k_ (S_.1, n, la, sa, S_.2.2.2.2))))
theorem bfQ_eq {A_ : Type} (S_ : bT) (k_ : bT → A_) : bfQ S_ k_ = k_ S_ := by simp only [bfQ, xfN_eq, bfL_eq bfK_eq, bfL_eq bfV_eq]
-- ===== contracts: a method, its arguments, its answer, the cells that it writes, how deep it calls
abbrev bP : Type := Option bN
/-- a place between two numbers; with another place, whose number less this one's lies between two numbers -/
abbrev bH : Type := List ((Nat × Nat) × bN × Option ((Nat × Nat) × Int × Int))
abbrev bC : Type := Nat × List bP × Option bN × bW × Nat × bH × bH
def bcD (c_ : bC) : Nat := c_.2.2.2.2.1
/-- places that lie between two numbers: ahead of it, behind it -/
def bcP (c_ : bC) : bH := c_.2.2.2.2.2.1
def bcQ (c_ : bC) : bH := c_.2.2.2.2.2.2
def bHl (h : xH) (t_ : Jvm.Term) (o : Option ((Nat × Nat) × Int × Int)) : Prop := match o with
  | none => True
  | some w_ => ∃ (c_ : xC) (x_ y_ : Int32), t_ = .int x_ ∧ h[w_.1.1]? = some c_ ∧ c_.2[w_.1.2]? = some (.int y_) ∧ w_.2.1 ≤ y_.toInt - x_.toInt ∧ y_.toInt - x_.toInt ≤ w_.2.2
def bHp (h : xH) (l : bH) : Prop := ∀ q_ ∈ l, ∃ (c_ : xC) (t_ : Jvm.Term), h[q_.1.1]? = some c_ ∧ c_.2[q_.1.2]? = some t_ ∧ bnv q_.2.1 t_ ∧ bHl h t_ q_.2.2
/-- the two places lie so by what is known of them -/
noncomputable def bhlk (zf : Nat → Option (Nat × Nat)) (G : bE) (ov : bO) (a_ : Nat × Nat) (o : Option ((Nat × Nat) × Int × Int)) : Bool := match o with
  | none => true
  | some w_ => match zf w_.1.1 with
    | none => false
    | some z_ => Nat.ble (w_.1.2 + 1) z_.2 && (match blo ov a_.1 a_.2 with
      | some (some (.inl f_)) => (match blo ov w_.1.1 w_.1.2 with
        | some (some (.inl g_)) => (match brg G (bsub g_ f_) with
          | some b_ => decide (w_.2.1 ≤ b_.1) && decide (b_.2 ≤ w_.2.2)
          | none => false)
        | _ => false)
      | _ => false)
theorem bhlk_ok {zf : Nat → Option (Nat × Nat)} {Z : List (Nat × Nat)} {I : Nat → Nat → Option bN} {p : Nat → Int} {G : bE} {ov : bO} {h : xH} {a_ : Nat × Nat} {o : Option ((Nat × Nat) × Int × Int)} {z_ : Nat × Nat} {c_ : xC} {t_ : Jvm.Term} (hz : ∀ a_ z_, zf a_ = some z_ → xhg Z a_ = some z_) (hG : bok G p) (g_ : bHr Z I p ov h) (hza : Z[a_.1]? = some z_) (c1_ : h[a_.1]? = some c_) (c2_ : c_.2[a_.2]? = some t_) (hk : bhlk zf G ov a_ o = true) : bHl h t_ o := by
  cases o with
  | none => trivial
  | some w_ =>
  unfold bhlk at hk
  simp only at hk
  cases hq2 : zf w_.1.1 with
  | none => rw [hq2] at hk; cases hk
  | some z2 =>
  rw [hq2] at hk
  simp only [Bool.and_eq_true] at hk
  obtain ⟨hk1, hk2⟩ := hk
  have hz2 : Z[w_.1.1]? = some z2 := by rw [← xhg_eq]; exact hz _ _ hq2
  obtain ⟨d_, d1_, d2_, d3_, d4_⟩ := g_.2 _ z2 hz2
  have hlt : w_.1.2 < d_.2.length := by
    have := Nat.le_of_ble_eq_true hk1
    omega
  have ht := List.getElem?_eq_getElem hlt
  obtain ⟨c0_, e1_, e2_, e3_, e4_⟩ := g_.2 _ z_ hza
  rw [c1_] at e1_
  cases e1_
  have k1_ := e4_ a_.2 _ c2_
  have k2_ := d4_ w_.1.2 _ ht
  cases hb1 : blo ov a_.1 a_.2 with
  | none => rw [hb1] at hk2; cases hk2
  | some v1_ =>
  rw [hb1] at hk2 k1_
  rcases v1_ with _ | (f_ | l1)
  · cases hk2
  · cases hb2 : blo ov w_.1.1 w_.1.2 with
    | none => rw [hb2] at hk2; cases hk2
    | some v2 =>
    rw [hb2] at hk2 k2_
    rcases v2 with _ | (g2 | l2)
    · cases hk2
    · simp only at hk2
      cases hr : brg G (bsub g2 f_) with
      | none => rw [hr] at hk2; cases hk2
      | some b_ =>
      rw [hr] at hk2
      simp only [Bool.and_eq_true, decide_eq_true_eq] at hk2
      obtain ⟨x1_, x2_, x3⟩ := k1_
      obtain ⟨y1, y2, y3⟩ := k2_
      have e5_ := brg_ok hG (a := b_.1) (b := b_.2) hr
      rw [bsub_ok] at e5_
      refine ⟨d_, x1_, y1, x2_, d1_, by rw [← y2]; exact ht, ?_, ?_⟩ <;> omega
    · cases hk2
  · cases hk2
/-- these places are known to lie so -/
noncomputable def bhpk (zf : Nat → Option (Nat × Nat)) (I : Nat → Nat → Option bN) (G : bE) (ov : bO) (l : bH) : Bool := l.all (fun q_ => match zf q_.1.1 with
  | none => false
  | some z_ => Nat.ble (q_.1.2 + 1) z_.2 && ((match bpl I G ov q_.1.1 q_.1.2 with
    | none => false
    | some e => bsN q_.2.1 e) && bhlk zf G ov q_.1 q_.2.2))
theorem bhpk_ok {zf : Nat → Option (Nat × Nat)} {Z : List (Nat × Nat)} {I : Nat → Nat → Option bN} {p : Nat → Int} {G : bE} {ov : bO} {h : xH} {l : bH} (hz : ∀ a_ z_, zf a_ = some z_ → xhg Z a_ = some z_) (hG : bok G p) (g_ : bHr Z I p ov h) (hk : bhpk zf I G ov l = true) : bHp h l := by
  intro q_ hq
  have k_ := List.all_eq_true.mp hk q_ hq
  cases hq2 : zf q_.1.1 with
  | none => rw [hq2] at k_; cases k_
  | some z_ =>
  rw [hq2] at k_
  simp only [Bool.and_eq_true] at k_
  have hz2 : Z[q_.1.1]? = some z_ := by rw [← xhg_eq]; exact hz _ _ hq2
  obtain ⟨c_, c1_, c2_, c3_, c4_⟩ := g_.2 _ z_ hz2
  have hlt : q_.1.2 < c_.2.length := by
    have := Nat.le_of_ble_eq_true k_.1
    omega
  obtain ⟨-, k2_, k3_⟩ := k_
  cases hb_ : bpl I G ov q_.1.1 q_.1.2 with
  | none => rw [hb_] at k2_; cases k2_
  | some e =>
    rw [hb_] at k2_
    have ht := List.getElem?_eq_getElem hlt
    exact ⟨c_, _, c1_, ht, bsN_ok k2_ (bpl_ok hG c4_ ht hb_), bhlk_ok hz hG g_ hz2 c1_ ht k3_⟩
/-- and noted -/
def bnot1 (q_ : (Nat × Nat) × bN × Option ((Nat × Nat) × Int × Int)) (S_ : bT) : bT := match q_.2.1 with
  | .inr l => (S_.1, S_.2.1, S_.2.2.1, S_.2.2.2.1, ((q_.1.1, q_.1.2), some (.inr l)) :: S_.2.2.2.2)
  | .inl b_ => match q_.2.2 with
    | none => ((S_.2.1, b_.1, b_.2) :: S_.1, S_.2.1 + 1, S_.2.2.1, S_.2.2.2.1, ((q_.1.1, q_.1.2), some (.inl (bvr S_.2.1))) :: S_.2.2.2.2)
    | some w_ => ((S_.2.1 + 1, w_.2.1, w_.2.2) :: (S_.2.1, b_.1, b_.2) :: S_.1, S_.2.1 + 1 + 1, S_.2.2.1, S_.2.2.2.1, ((w_.1.1, w_.1.2), some (.inl (0, [(S_.2.1, 1), (S_.2.1 + 1, 1)]))) :: ((q_.1.1, q_.1.2), some (.inl (bvr S_.2.1))) :: S_.2.2.2.2)
def bnot (l : bH) (S_ : bT) : bT := match l with
  | [] => S_
  | q_ :: u_ => bnot u_ (bnot1 q_ S_)
theorem bnot1_ok {Z : List (Nat × Nat)} {I : Nat → Nat → Option bN} {lo : xL} {st : List Jvm.Term} {h : xH} {q_ : (Nat × Nat) × bN × Option ((Nat × Nat) × Int × Int)} {S_ : bT} {p : Nat → Int} (R : bR Z I p S_ lo st h) (H_ : ∃ (c_ : xC) (t_ : Jvm.Term), h[q_.1.1]? = some c_ ∧ c_.2[q_.1.2]? = some t_ ∧ bnv q_.2.1 t_ ∧ bHl h t_ q_.2.2) : ∃ p', (∀ v_, v_ < S_.2.1 → p' v_ = p v_) ∧ S_.2.1 ≤ (bnot1 q_ S_).2.1 ∧ bR Z I p' (bnot1 q_ S_) lo st h := by
  obtain ⟨G, n, la, sa, ov⟩ := S_
  obtain ⟨qa, qe, qo⟩ := q_
  obtain ⟨c_, t_, c1_, c2_, x1_, x3⟩ := H_
  cases qe with
  | inr l => exact ⟨p, fun _ _ => rfl, Nat.le_refl n, bR_note R c1_ c2_ rfl x1_⟩
  | inl b_ =>
  obtain ⟨x_, x0_, x1_, x2_⟩ := x1_
  have x0_ : t_ = .int x_ := x0_
  subst x0_
  have hg : bga (bup p n x_.toInt) (some (.inl (bvr n))) (.int x_) := ⟨x_, rfl, bvr_v.symm⟩
  have R1 := bR_note (bR_new R x1_ x2_) c1_ c2_ bvr_l hg
  cases qo with
  | none => exact ⟨_, fun v_ hv => bup_ne (by have hv : v_ < n := hv; omega), Nat.le_succ n, R1⟩
  | some w_ =>
    obtain ⟨d_, x', y_, e0_, d1_, d2_, y1, y2⟩ := x3
    cases e0_
    have e0_ : bup (bup p n x_.toInt) (n + 1) (y_.toInt - x_.toInt) n = x_.toInt := by
      rw [bup_ne (by omega), bup_self]
    have hg2 : bga (bup (bup p n x_.toInt) (n + 1) (y_.toInt - x_.toInt)) (some (.inl (0, [(n, 1), (n + 1, 1)]))) (.int y_) := by
      refine ⟨y_, rfl, ?_⟩
      simp only [bfv, bsm, e0_, bup_self]
      omega
    have hl2 : bvl (n + 1 + 1) (some (.inl (0, [(n, 1), (n + 1, 1)]))) = true := by
      simp only [bvl, blt, List.all_cons, List.all_nil, Bool.and_true, Bool.and_eq_true]
      exact ⟨Nat.ble_eq_true_of_le (by omega), Nat.ble_eq_true_of_le (by omega)⟩
    refine ⟨_, fun v_ hv => ?_, ?_, bR_note (bR_new R1 y1 y2) d1_ d2_ hl2 hg2⟩
    · have hv : v_ < n := hv
      rw [bup_ne (by omega), bup_ne (by omega)]
    · show n ≤ n + 1 + 1
      omega
theorem bnot_ok {Z : List (Nat × Nat)} {I : Nat → Nat → Option bN} {lo : xL} {st : List Jvm.Term} {h : xH} : ∀ {l : bH} {S_ : bT} {p : Nat → Int}, bR Z I p S_ lo st h → bHp h l → ∃ p', (∀ v_, v_ < S_.2.1 → p' v_ = p v_) ∧ S_.2.1 ≤ (bnot l S_).2.1 ∧ bR Z I p' (bnot l S_) lo st h := by
  intro l
  induction l with
  | nil => intro S_ p R _; exact ⟨p, fun _ _ => rfl, Nat.le_refl _, R⟩
  | cons q_ u_ ih_ =>
    intro S_ p R H_
    obtain ⟨p1_, b1, b2, b3⟩ := bnot1_ok R (H_ q_ List.mem_cons_self)
    obtain ⟨p2_, a1_, a2, a3⟩ := ih_ b3 (fun z_ hz => H_ z_ (List.mem_cons_of_mem _ hz))
    exact ⟨p2_, fun v_ hv => (a1_ v_ (Nat.lt_of_lt_of_le hv b2)).trans (b1 v_ hv), Nat.le_trans b2 a2, a3⟩
def bqv (e : bP) (t_ : Jvm.Term) : Prop := match e with
  | none => ∃ x_ : Int64, t_ = .long x_
  | some b_ => bnv b_ t_
def bPs (es : List bP) (ts : List Jvm.Term) : Prop := match es, ts with
  | [], [] => True
  | e :: t_, b_ :: u_ => bqv e b_ ∧ bPs t_ u_
  | _, _ => False
def bInv (Z : List (Nat × Nat)) (I : Nat → Nat → Option bN) (h : xH) : Prop := bHr Z I (fun _ => 0) [] h ∧ xhw h
def bav (a_ : Option bN) (t_ : Option Jvm.Term) : Prop := match a_ with
  | none => t_ = none
  | some b_ => ∃ u_, t_ = some u_ ∧ bnv b_ u_
/-- a contract is kept, where X holds of the heap -/
def bcon (Z : List (Nat × Nat)) (I : Nat → Nat → Option bN) (X_ : xH → Prop) (c_ : bC) : Prop := ∀ (h : xH) (ts : List Jvm.Term), bInv Z I h → X_ h → bPs c_.2.1 ts → bHp h (bcP c_) → ∃ t_ h', (∀ D_, bcD c_ ≤ D_ → xrun D_ c_.1 0 (xal 0 ts) [] h (t_, h', [])) ∧ bInv Z I h' ∧ bfr c_.2.2.2.1 h h' ∧ bav c_.2.2.1 t_ ∧ bHp h' (bcQ c_)
def bap1 (G : bE) (e : bP) (v_ : bV) : Bool := match e with
  | none => bgL v_
  | some b_ => bkv G b_ v_
def bpre (G : bE) (es : List bP) (vs : List bV) : Bool := match es, vs with
  | [], [] => true
  | e :: t_, v_ :: u_ => bap1 G e v_ && bpre G t_ u_
  | _, _ => false
theorem bpre_ok {G : bE} {p : Nat → Int} (hG : bok G p) : ∀ {es : List bP} {vs : List bV} {ts : List Jvm.Term}, bpre G es vs = true → bSr p vs ts → bPs es ts := by
  intro es
  induction es with
  | nil => intro vs ts h k_; cases vs with
    | nil => cases ts with
      | nil => trivial
      | cons b_ u_ => exact absurd k_ id
    | cons v_ u_ => cases h
  | cons e t_ ih_ => intro vs ts h k_; cases vs with
    | nil => cases h
    | cons v_ u_ => cases ts with
      | nil => exact absurd k_ id
      | cons b_ w_ =>
        simp only [bpre, Bool.and_eq_true] at h
        refine ⟨?_, ih_ h.2 k_.2⟩
        have h1 := h.1
        have k1_ := k_.1
        cases e with
        | none => rcases v_ with _ | x_
                  · exact k1_
                  · cases h1
        | some e => exact bkv_ok hG h1 k1_
noncomputable def bfd (zf : Nat → Option (Nat × Nat)) (I : Nat → Nat → Option bN) (G : bE) (ov : bO) (cm : Nat) (vs : List bV) (ct : List bC) : Option bC := match ct with
  | [] => none
  | c_ :: t_ => match Nat.beq c_.1 cm && (bpre G c_.2.1 vs && bhpk zf I G ov (bcP c_)) with
    | true => some c_
    | false => bfd zf I G ov cm vs t_
theorem bfd_ok {zf : Nat → Option (Nat × Nat)} {I : Nat → Nat → Option bN} {G : bE} {ov : bO} {cm : Nat} {vs : List bV} {c_ : bC} : ∀ {ct : List bC}, bfd zf I G ov cm vs ct = some c_ → c_ ∈ ct ∧ c_.1 = cm ∧ bpre G c_.2.1 vs = true ∧ bhpk zf I G ov (bcP c_) = true := by
  intro ct
  induction ct with
  | nil => intro h; cases h
  | cons y_ t_ ih_ =>
    intro h
    simp only [bfd] at h
    cases e : (Nat.beq y_.1 cm && (bpre G y_.2.1 vs && bhpk zf I G ov (bcP y_))) with
    | true =>
      rw [e] at h
      cases h
      simp only [Bool.and_eq_true] at e
      exact ⟨List.mem_cons_self, Nat.eq_of_beq_eq_true e.1, e.2.1, e.2.2⟩
    | false =>
      rw [e] at h
      obtain ⟨h1, h2⟩ := ih_ h
      exact ⟨List.mem_cons_of_mem _ h1, h2⟩
/-- what is known better, the newest of it, keeps the invariant -/
def bnew (I : Nat → Nat → Option bN) (G : bE) (ov : bO) : Bool := ov.all (fun q_ => match blo ov q_.1.1 q_.1.2 with
  | some v_ => bkeep I G (q_.1, v_)
  | none => true)
theorem bHr_dropn {Z : List (Nat × Nat)} {I : Nat → Nat → Option bN} {p : Nat → Int} {G : bE} (hG : bok G p) {ov : bO} {h : xH} (hk : bnew I G ov = true) (g_ : bHr Z I p ov h) : bHr Z I (fun _ => 0) [] h := by
  refine ⟨g_.1, fun i_ q_ hq => ?_⟩
  obtain ⟨c_, c1_, c2_, c3_, c4_⟩ := g_.2 i_ q_ hq
  refine ⟨c_, c1_, c2_, c3_, fun j_ t_ ht => ?_⟩
  have k_ := c4_ j_ t_ ht
  show ∃ e, I i_ j_ = some e ∧ bnv e t_
  cases e : blo ov i_ j_ with
  | none => rw [e] at k_; exact k_
  | some v_ =>
    rw [e] at k_
    have h1 := List.all_eq_true.mp hk _ (blo_in e)
    simp only at h1
    rw [e] at h1
    unfold bkeep at h1
    simp only at h1
    cases h2 : I i_ j_ with
    | none => rw [h2] at h1; cases h1
    | some z_ =>
      rw [h2] at h1
      exact ⟨z_, rfl, bkv_ok hG h1 k_⟩
-- ===== the abstract interpreter
abbrev bRet : Type := Option bV × bT
abbrev bRs : Type := List bQ × List bRet
abbrev bF4 : Type := List Nat → Nat → Nat → List bT → Option bRs
def bcol {A_ B_ C : Type} (F_ : A_ → Option (List B_ × List C)) (l : List A_) : Option (List B_ × List C) := match l with
  | [] => some ([], [])
  | x_ :: t_ => match F_ x_ with
    | none => none
    | some r_ => match bcol F_ t_ with
      | none => none
      | some q_ => some (r_.1 ++ q_.1, r_.2 ++ q_.2)
theorem bcol_ok {A_ B_ C : Type} {F_ : A_ → Option (List B_ × List C)} : ∀ {l : List A_} {r_ : List B_ × List C}, bcol F_ l = some r_ → ∀ x_ ∈ l, ∃ q_, F_ x_ = some q_ ∧ (∀ b_ ∈ q_.1, b_ ∈ r_.1) ∧ (∀ c_ ∈ q_.2, c_ ∈ r_.2) := by
  intro l
  induction l with
  | nil => intro r_ _ x_ hx; cases hx
  | cons y_ t_ ih_ =>
    intro r_ h x_ hx
    simp only [bcol] at h
    cases h1 : F_ y_ with
    | none => rw [h1] at h; cases h
    | some q_ =>
    rw [h1] at h
    simp only at h
    cases h2 : bcol F_ t_ with
    | none => rw [h2] at h; cases h
    | some w_ =>
    rw [h2] at h
    cases h
    rcases List.mem_cons.mp hx with rfl | hx
    · exact ⟨q_, h1, fun b_ hb_ => List.mem_append.mpr (Or.inl hb_), fun c_ hc_ => List.mem_append.mpr (Or.inl hc_)⟩
    · obtain ⟨z_, z1, z2, z3⟩ := ih_ h2 x_ hx
      exact ⟨z_, z1, fun b_ hb_ => List.mem_append.mpr (Or.inr (z2 b_ hb_)), fun c_ hc_ => List.mem_append.mpr (Or.inr (z3 c_ hc_))⟩
/-- each of these is a case of one of those -/
def bcov (I : Nat → Nat → Option bN) (gm_ : Nat → bT → bT → bG) (n0_ : Nat) (ss js : List bT) : Bool := ss.all (fun s_ => js.any (fun j_ => Nat.ble n0_ j_.2.1 && bmS I n0_ (gm_ n0_ s_ j_) s_ j_))
def bcl (G : bE) (la : bL) (s_ : List bV) (r_ : bRet) : bT := (r_.2.1 ++ G, r_.2.2.1, la, (match r_.1 with
  | none => s_
  | some v_ => v_ :: s_), r_.2.2.2.2.2)
def bat (m_ : Nat) (l : List bQ) : List bT := (l.filter (fun q_ => Nat.beq q_.1 m_)).map (fun q_ => q_.2)
def bnat (m_ : Nat) (l : List bQ) : List bQ := l.filter (fun q_ => !(Nat.beq q_.1 m_))
/-- on from a meeting place -/
noncomputable def bcont (I : Nat → Nat → Option bN) (jn : Nat → List bT → List bT) (gm_ : Nat → bT → bT → bG) (n0_ m_ : Nat) (stops : List Nat) (F_ : List bT → Option bRs) (r_ : bRs) : Option bRs := match stops.any (Nat.beq m_) with
  | true => some r_
  | false => match bat m_ r_.1 with
    | [] => some r_
    | S_ :: T => bfL bfS (S_ :: T) (fun ss => bfL bfS (jn n0_ ss) (fun js => match bcov I gm_ n0_ ss js with
      | false => none
      | true => match F_ js with
        | none => none
        | some q_ => some (bnat m_ r_.1 ++ q_.1, r_.2 ++ q_.2)))
/-- on from what may stand behind a step -/
noncomputable def bgo1 (I : Nat → Nat → Option bN) (jn : Nat → List bT → List bT) (gm_ : Nat → bT → bT → bG) (n0_ nb m_ : Nat) (stops : List Nat) (F_ : bF4) (qs : List bQ) : Option bRs := match qs with
  | [q_] => F_ stops nb q_.1 [q_.2]
  | _ => match bcol (fun q_ : bQ => F_ (m_ :: stops) n0_ q_.1 [q_.2]) qs with
    | none => none
    | some r_ => bcont I jn gm_ n0_ m_ stops (F_ stops n0_ m_) r_
/-- on behind a call -/
noncomputable def bret (I : Nat → Nat → Option bN) (jn : Nat → List bT → List bT) (gm_ : Nat → bT → bT → bG) (n0_ pc : Nat) (stops : List Nat) (F_ : bF4) (G : bE) (la : bL) (s_ : List bV) (rs : List bRet) : Option bRs := bfL bfS (rs.map (bcl G la s_)) (fun ss => bfL bfS (jn n0_ ss) (fun js => match bcov I gm_ n0_ ss js with
  | false => none
  | true => F_ stops n0_ (pc + 3) js))
/-- on behind a call of a contract -/
noncomputable def bconn (I : Nat → Nat → Option bN) (W : bW) (F_ : bF4) (c_ : bC) (d' pc nb : Nat) (stops : List Nat) (S_ : bT) (s_ : List bV) : Option bRs := match (Nat.ble (bcD c_) d' && bws c_.2.2.2.1 W) && bnew I S_.1 S_.2.2.2.2 with
  | false => none
  | true => match c_.2.2.1 with
    | none => bfS (bnot (bcQ c_) (S_.1, S_.2.1, S_.2.2.1, s_, S_.2.2.2.2.filter (fun r_ => !(biw c_.2.2.2.1 r_.1.1 r_.1.2)))) (fun J_ => F_ stops nb (pc + 3) [J_])
    | some b_ => bfS (bnot (bcQ c_) (bpush pc 3 S_.1 S_.2.1 S_.2.2.1 s_ (S_.2.2.2.2.filter (fun r_ => !(biw c_.2.2.2.1 r_.1.1 r_.1.2))) b_).2) (fun J_ => F_ stops nb (pc + 3) [J_])
def bdn (o : Option bRs) : Option bRs := match o with
  | none => none
  | some r_ => match r_.1 with
    | [] => some r_
    | _ :: _ => none
/-- these are cells of that method's class -/
noncomputable def bco (zf : Nat → Option (Nat × Nat)) (cm : Nat) (as_ : List Nat) : Bool := match as_ with
  | [] => true
  | a_ :: t_ => match zf a_ with
    | none => false
    | some z_ => (Nat.beq z_.1 (xo cm) && Nat.ble z_.1 12) && bco zf cm t_
theorem bco_ok {zf : Nat → Option (Nat × Nat)} {cm : Nat} : ∀ {as_ : List Nat}, bco zf cm as_ = true → ∀ a_ ∈ as_, ∃ z_, zf a_ = some z_ ∧ Nat.beq z_.1 (xo cm) = true ∧ Nat.ble z_.1 12 = true := by
  intro as_
  induction as_ with
  | nil => intro _ a_ ha_; cases ha_
  | cons b_ t_ ih_ =>
    intro h a_ ha_
    simp only [bco] at h
    cases hz : zf b_ with
    | none => rw [hz] at h; cases h
    | some z_ =>
      rw [hz] at h
      simp only [Bool.and_eq_true] at h
      rcases List.mem_cons.mp ha_ with rfl | ha_
      · exact ⟨z_, hz, h.1.1, h.1.2⟩
      · exact ih_ h.2 a_ ha_
/-- a loop's states behind a turn: the measure has grown, or fallen -/
def bback (I : Nat → Nat → Option bN) (gm_ : Nat → bT → bT → bG) (n0_ v_ : Nat) (up_ : Bool) (D_ : bF) (J_ B_ : bT) : Bool := bmS I n0_ (gm_ n0_ B_ J_) B_ J_ && (match blF (gm_ n0_ B_ J_) v_ with
  | none => false
  | some f_ => match brg B_.1 (bsub f_ D_) with
    | none => false
    | some g_ => match up_ with
      | true => decide (1 ≤ g_.1)
      | false => decide (g_.2 ≤ -1))
/-- these pieces cover it -/
def bspc (l u_ : Int) (ps_ : List (Int × Int)) : Bool := match ps_ with
  | [] => decide (u_ < l)
  | q_ :: t_ => decide (q_.1 ≤ l) && bspc (q_.2 + 1) u_ t_
theorem bspc_ok {u_ x_ : Int} : ∀ {ps_ : List (Int × Int)} {l : Int}, bspc l u_ ps_ = true → l ≤ x_ → x_ ≤ u_ → ∃ q_ ∈ ps_, q_.1 ≤ x_ ∧ x_ ≤ q_.2 := by
  intro ps_
  induction ps_ with
  | nil =>
    intro l h h1 h2
    have := of_decide_eq_true h
    omega
  | cons q_ t_ ih_ =>
    intro l h h1 h2
    simp only [bspc, Bool.and_eq_true, decide_eq_true_eq] at h
    by_cases hq : x_ ≤ q_.2
    · exact ⟨q_, List.mem_cons_self, by omega, hq⟩
    · obtain ⟨z_, z1, z2⟩ := ih_ h.2 (by omega) h2
      exact ⟨z_, List.mem_cons_of_mem _ z1, z2⟩
def bhasv (J_ : bT) (v_ : Nat) : Bool := match blk J_.1 v_ with
  | none => false
  | some _ => true
/-- what an instruction is to the interpreter -/
def bop (i_ : Instr) : Nat := match i_ with
  | .return_ => 1
  | .ireturn => 2
  | .areturn => 3
  | .invokespecial _ => 4
  | .invokestatic _ => 5
  | .invokevirtual _ => 6
  | .iaload => 7
  | _ => 0
-- ===== segments: a state that was run before, and what it came to
abbrev bSg : Type := Nat × Nat × Nat × Nat × bT × bRs
noncomputable def bsgf (I : Nat → Nat → Option bN) (gm_ : Nat → bT → bT → bG) (d_ mi pc nb : Nat) (S_ : bT) (l : List bSg) : Option bRs := match l with
  | [] => none
  | e :: t_ => match Nat.beq e.2.2.1 pc && (Nat.beq e.2.1 mi && (Nat.beq e.1 d_ && (Nat.ble nb e.2.2.2.1 && bcov I gm_ S_.2.1 [S_] [e.2.2.2.2.1]))) with
    | true => some e.2.2.2.2.2
    | false => bsgf I gm_ d_ mi pc nb S_ t_
theorem bsgf_ok {I : Nat → Nat → Option bN} {gm_ : Nat → bT → bT → bG} {d_ mi pc nb : Nat} {S_ : bT} {y_ : bRs} : ∀ {l : List bSg}, bsgf I gm_ d_ mi pc nb S_ l = some y_ → ∃ e ∈ l, e.2.2.1 = pc ∧ e.2.1 = mi ∧ e.1 = d_ ∧ nb ≤ e.2.2.2.1 ∧ bcov I gm_ S_.2.1 [S_] [e.2.2.2.2.1] = true ∧ y_ = e.2.2.2.2.2 := by
  intro l
  induction l with
  | nil => intro h; cases h
  | cons x_ t_ ih_ =>
    intro h
    simp only [bsgf] at h
    cases e : (Nat.beq x_.2.2.1 pc && (Nat.beq x_.2.1 mi && (Nat.beq x_.1 d_ && (Nat.ble nb x_.2.2.2.1 && bcov I gm_ S_.2.1 [S_] [x_.2.2.2.2.1])))) with
    | true =>
      rw [e] at h
      cases h
      simp only [Bool.and_eq_true] at e
      obtain ⟨e1_, e2_, e3_, e4_, e5_⟩ := e
      exact ⟨x_, List.mem_cons_self, Nat.eq_of_beq_eq_true e1_, Nat.eq_of_beq_eq_true e2_, Nat.eq_of_beq_eq_true e3_, Nat.le_of_ble_eq_true e4_, e5_, rfl⟩
    | false =>
      rw [e] at h
      obtain ⟨z_, z1, z2⟩ := ih_ h
      exact ⟨z_, List.mem_cons_of_mem _ z1, z2⟩
abbrev bF7 : Type := Bool → Nat → Nat → Nat → List Nat → Nat → List bT → Option bRs
section
variable (zf : Nat → Option (Nat × Nat)) (I : Nat → Nat → Option bN) (W : bW) (ct : List bC) (mp_ mq : Nat → Nat → Nat) (jn : Nat → List bT → List bT) (gm_ : Nat → bT → bT → bG) (lp : Nat → Nat → bT → Option (bT × Nat × Bool × Nat)) (sp_ : Nat → Nat → bT → Option (bT × Nat × List (Int × Int) × Nat)) (dg ld : Nat → Nat → Option Nat) (sg : List bSg)
/-- a split -/
noncomputable def bspl (F_ : bF7) (d_ mi pc : Nat) (stops : List Nat) (S_ : bT) (w_ : bT × Nat × List (Int × Int) × Nat) : Option bRs := match blk w_.1.1 w_.2.1 with
  | none => none
  | some b_ => match bcov I gm_ S_.2.1 [S_] [w_.1] && bspc b_.1 b_.2 w_.2.2.1 with
    | false => none
    | true => match bcol (fun q_ : Int × Int => F_ false d_ mi pc (w_.2.2.2 :: stops) S_.2.1 [((w_.2.1, q_.1, q_.2) :: w_.1.1, w_.1.2)]) w_.2.2.1 with
      | none => none
      | some r_ => bcont I jn gm_ S_.2.1 w_.2.2.2 stops (F_ false d_ mi w_.2.2.2 stops S_.2.1) r_
/-- a loop -/
noncomputable def blop (F_ : bF7) (d_ mi pc : Nat) (stops : List Nat) (S_ : bT) (w_ : bT × Nat × Bool × Nat) : Option bRs := match bcov I gm_ S_.2.1 [S_] [w_.1] && (Nat.ble S_.2.1 w_.2.1 && bhasv w_.1 w_.2.1) with
  | false => none
  | true => match F_ true d_ mi pc (pc :: w_.2.2.2 :: stops) (bldg (ld mi pc) w_.2.1 w_.1).1.2.1 [(bldg (ld mi pc) w_.2.1 w_.1).1] with
    | none => none
    | some r_ => match (bat pc r_.1).all (bback I gm_ S_.2.1 w_.2.1 w_.2.2.1 (bldg (ld mi pc) w_.2.1 w_.1).2 w_.1) with
      | false => none
      | true => bcont I jn gm_ S_.2.1 w_.2.2.2 stops (F_ false d_ mi w_.2.2.2 stops S_.2.1) (bnat pc r_.1, r_.2)
/-- states at a place: at a stop, several, at a head -/
noncomputable def bpla (F_ : bF7) (d_ mi pc : Nat) (stops : List Nat) (nb : Nat) (Ss : List bT) : Option bRs := match stops.any (Nat.beq pc) with
  | true => some (Ss.map (fun S_ => (pc, S_)), [])
  | false => match Ss with
    | [] => some ([], [])
    | S_ :: S2 :: T => (match bcol (fun S_ => F_ false d_ mi pc (mq mi pc :: stops) nb [S_]) (S_ :: S2 :: T) with
      | none => none
      | some r_ => bcont I jn gm_ nb (mq mi pc) stops (F_ false d_ mi (mq mi pc) stops nb) r_)
    | [S_] => match bsgf I gm_ d_ mi pc nb S_ sg with
      | some y_ => some y_
      | none => match bdgo (dg mi pc) S_ with
        | some J_ => F_ false d_ mi pc stops nb [J_]
        | none => match sp_ mi pc S_ with
          | some w_ => bspl I jn gm_ F_ d_ mi pc stops S_ w_
          | none => match lp mi pc S_ with
            | none => F_ true d_ mi pc stops nb [S_]
            | some w_ => blop I jn gm_ ld F_ d_ mi pc stops S_ w_
/-- a call of a static method -/
noncomputable def bcst (F_ : bF7) (d_ mi pc cm : Nat) (stops : List Nat) (nb : Nat) (S_ : bT) : Option bRs := match d_ with
  | 0 => none
  | d' + 1 => match btk (xn cm) S_.2.2.2.1 [] with
    | none => none
    | some q_ => match Nat.ble (basz q_.1) (xm cm) && bcc q_.2 with
      | false => none
      | true => match bfd zf I S_.1 S_.2.2.2.2 cm q_.1 ct with
        | some c_ => bconn I W (fun st n pc Ss => F_ false (d' + 1) mi pc st n Ss) c_ d' pc nb stops S_ q_.2
        | none => match bdn (F_ false d' cm 0 [] S_.2.1 [(S_.1, S_.2.1, bal 0 q_.1, [], S_.2.2.2.2)]) with
          | none => none
          | some r_ => bret I jn gm_ S_.2.1 pc stops (fun st n pc Ss => F_ false (d' + 1) mi pc st n Ss) S_.1 S_.2.2.1 q_.2 r_.2
/-- a call of a method of a cell -/
noncomputable def bcvt (F_ : bF7) (d_ mi pc cm : Nat) (stops : List Nat) (nb : Nat) (S_ : bT) : Option bRs := match d_ with
  | 0 => none
  | d' + 1 => match btk (xn cm) S_.2.2.2.1 [] with
    | none => none
    | some q_ => match q_.2 with
      | [] => none
      | v_ :: s_ => (match bcel v_ with
        | none => none
        | some as_ => match bco zf cm as_ && (Nat.ble (basz (v_ :: q_.1)) (xm cm) && bcc s_) with
          | false => none
          | true => match bfd zf I S_.1 S_.2.2.2.2 cm (v_ :: q_.1) ct with
            | some c_ => bconn I W (fun st n pc Ss => F_ false (d' + 1) mi pc st n Ss) c_ d' pc nb stops S_ s_
            | none => match bcol (fun a_ => bdn (F_ false d' cm 0 [] S_.2.1 [(S_.1, S_.2.1, bal 0 (some (.inr [.index a_]) :: q_.1), [], S_.2.2.2.2)])) as_ with
              | none => none
              | some r_ => bret I jn gm_ S_.2.1 pc stops (fun st n pc Ss => F_ false (d' + 1) mi pc st n Ss) S_.1 S_.2.2.1 s_ r_.2)
/-- a String constant -/
def bixz (t_ : Jvm.Term) : Bool := match t_ with
  | .arg z_ => Nat.ble 101 z_ && (match xstra (z_ - 101) with
    | some _ => true
    | none => false)
  | _ => false
/-- indexOf of a String constant -/
noncomputable def bixo (F_ : bF7) (d_ mi pc : Nat) (stops : List Nat) (nb : Nat) (S_ : bT) : Option bRs := match S_.2.2.2.1 with
  | some (.inl _) :: some (.inr as_) :: s_ => (match Nat.ble 4 d_ && (as_.all bixz && bcc s_) with
    | false => none
    | true => match bany (pc + 2) S_.1 S_.2.1 S_.2.2.1 s_ S_.2.2.2.2 (-1) 3 with
      | none => none
      | some q_ => F_ false d_ mi q_.1 stops nb [q_.2])
  | _ => none
/-- a plain step -/
noncomputable def bpln (F_ : bF7) (d_ mi pc : Nat) (stops : List Nat) (nb : Nat) (e : Instr × Nat × List Nat) (S_ : bT) : Option bRs := match bnx zf I W mi pc e S_ with
  | none => none
  | some qs => bgo1 I jn gm_ S_.2.1 nb (mp_ mi pc) stops (fun st n pc Ss => F_ false d_ mi pc st n Ss) qs
/-- returns -/
def brtn (mi : Nat) (S_ : bT) : Option bRs := match S_.2.2.2.1 with
  | [] => (match xr mi with
    | none => some ([], [(none, S_)])
    | some _ => none)
  | _ => none
def birt (mi : Nat) (S_ : bT) : Option bRs := match S_.2.2.2.1 with
  | [v_] => (match brtv (xr mi) S_.1 v_ with
    | true => some ([], [(some v_, S_)])
    | false => none)
  | _ => none
def bart (mi : Nat) (S_ : bT) : Option bRs := match S_.2.2.2.1 with
  | [v_] => (match brtr (xr mi) v_ with
    | true => some ([], [(some v_, S_)])
    | false => none)
  | _ => none
/-- one instruction, and on -/
noncomputable def bins1 (F_ : bF7) (d_ mi pc : Nat) (stops : List Nat) (nb : Nat) (e : Instr × Nat × List Nat) (S_ : bT) : Option bRs := match bop e.1 with
  | 0 => bpln zf I W mp_ jn gm_ F_ d_ mi pc stops nb e S_
  | 1 => brtn mi S_
  | 2 => birt mi S_
  | 3 => bart mi S_
  | 5 => (match e.2.2 with
    | [_, cm, _, _] => bcst zf I W ct jn gm_ F_ d_ mi pc cm stops nb S_
    | [_, _, _, _, _] => bpln zf I W mp_ jn gm_ F_ d_ mi pc stops nb e S_
    | _ => none)
  | 6 => (match e.2.2 with
    | [_, cm, _, _, _] => bcvt zf I W ct jn gm_ F_ d_ mi pc cm stops nb S_
    | [_, _, _, _, _, _] => bixo F_ d_ mi pc stops nb S_
    | _ => none)
  | 7 => (match bcpg zf I W mi pc S_ with
    | some J_ => F_ false d_ mi (pc + 1 + 1) stops nb [J_]
    | none => bpln zf I W mp_ jn gm_ F_ d_ mi pc stops nb e S_)
  | _ => none
noncomputable def bexe (F_ : bF7) (d_ mi pc : Nat) (stops : List Nat) (nb : Nat) (Ss : List bT) : Option bRs := match Ss with
  | [S0_] => bfQ S0_ (fun S_ => xfN pc (fun pc => match xcd mi pc with
    | none => none
    | some e => bins1 zf I W ct mp_ jn gm_ F_ d_ mi pc stops nb e S_))
  | _ => none
noncomputable def babs (f_ : Nat) (hd_ : Bool) (d_ mi pc : Nat) (stops : List Nat) (nb : Nat) (Ss : List bT) : Option bRs := match f_ with
  | 0 => none
  | f_ + 1 => match hd_ with
    | false => bpla I mq jn gm_ lp sp_ dg ld sg (fun hd_ d_ mi pc stops nb Ss => babs f_ hd_ d_ mi pc stops nb Ss) d_ mi pc stops nb Ss
    | true => bexe zf I W ct mp_ jn gm_ (fun hd_ d_ mi pc stops nb Ss => babs f_ hd_ d_ mi pc stops nb Ss) d_ mi pc stops nb Ss
end
