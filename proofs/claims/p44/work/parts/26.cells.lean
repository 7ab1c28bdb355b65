-- ===== sets of cells, places in them
def bidx (l : List Jvm.Term) : Option (List Nat) := match l with
  | [] => some []
  | t_ :: u_ => match t_ with
    | .index a_ => (match bidx u_ with
      | some as_ => some (a_ :: as_)
      | none => none)
    | _ => none
theorem bidx_ok : ∀ {l : List Jvm.Term} {as_ : List Nat} {t_ : Jvm.Term}, bidx l = some as_ → t_ ∈ l → ∃ a_ ∈ as_, t_ = .index a_ := by
  intro l
  induction l with
  | nil => intro as_ t_ _ ht; cases ht
  | cons x_ u_ ih_ =>
    intro as_ t_ h ht
    cases x_ with
    | index a_ =>
      simp only [bidx] at h
      cases h1 : bidx u_ with
      | none => rw [h1] at h; cases h
      | some as' =>
        rw [h1] at h
        cases h
        rcases List.mem_cons.mp ht with rfl | ht
        · exact ⟨a_, List.mem_cons_self, rfl⟩
        · obtain ⟨b_, hb_, e⟩ := ih_ h1 ht
          exact ⟨b_, List.mem_cons_of_mem _ hb_, e⟩
    | _ => exfalso; revert h; simp [bidx]
/-- all cells that a value may be -/
def bcel (v_ : bV) : Option (List Nat) := match v_ with
  | some (.inr l) => bidx l
  | _ => none
theorem bcel_ok {p : Nat → Int} {v_ : bV} {t_ : Jvm.Term} {as_ : List Nat} (h : bcel v_ = some as_) (g_ : bga p v_ t_) : ∃ a_ ∈ as_, t_ = .index a_ := by
  rcases v_ with _ | (f_ | l)
  · cases h
  · cases h
  · exact bidx_ok h g_.1
-- ===== what a place holds: an interval, or references
def bplv (G : bE) (v_ : bV) : Option bN := match v_ with
  | some (.inl f_) => (match brg G f_ with
    | some r_ => some (.inl r_)
    | none => none)
  | some (.inr l) => some (.inr l)
  | none => none
def bpl (I : Nat → Nat → Option bN) (G : bE) (ov : bO) (i_ j_ : Nat) : Option bN := match blo ov i_ j_ with
  | some v_ => bplv G v_
  | none => I i_ j_
def bjN (e w_ : bN) : Option bN := match e with
  | .inl b_ => (match w_ with
    | .inl c_ => some (.inl (if b_.1 ≤ c_.1 then b_.1 else c_.1, if b_.2 ≤ c_.2 then c_.2 else b_.2))
    | .inr _ => none)
  | .inr l => (match w_ with
    | .inl _ => none
    | .inr m_ => some (.inr (match blq l m_ with
      | true => l
      | false => l ++ m_.filter (fun u_ => !(l.any (fun v_ => bre v_ u_))))))
/-- this is within that -/
def bsN (e w_ : bN) : Bool := match e with
  | .inl b_ => (match w_ with
    | .inl c_ => decide (b_.1 ≤ c_.1) && decide (c_.2 ≤ b_.2)
    | .inr _ => false)
  | .inr l => (match w_ with
    | .inl _ => false
    | .inr m_ => bsbs m_ l)
theorem bsN_ok {e w_ : bN} {t_ : Jvm.Term} (h : bsN e w_ = true) (k_ : bnv w_ t_) : bnv e t_ := by
  rcases e with b_ | l
  · rcases w_ with c_ | m_
    · simp only [bsN, Bool.and_eq_true, decide_eq_true_eq] at h
      obtain ⟨x_, x1_, x2_, x3⟩ := k_
      exact ⟨x_, x1_, by omega, by omega⟩
    · cases h
  · rcases w_ with c_ | m_
    · cases h
    · exact ⟨bsbs_ok h k_.1, k_.2⟩
theorem bjN_l {e w_ r_ : bN} {t_ : Jvm.Term} (h : bjN e w_ = some r_) (k_ : bnv e t_) : bnv r_ t_ := by
  rcases e with b_ | l
  · rcases w_ with c_ | m_
    · cases h
      obtain ⟨x_, x1_, x2_, x3⟩ := k_
      refine ⟨x_, x1_, ?_, ?_⟩
      · simp only
        split <;> omega
      · simp only
        split <;> omega
    · cases h
  · rcases w_ with c_ | m_
    · cases h
    · cases h
      refine ⟨?_, k_.2⟩
      cases hq : blq l m_ with
      | true => exact k_.1
      | false => exact List.mem_append.mpr (Or.inl k_.1)
theorem bjN_r {e w_ r_ : bN} {t_ : Jvm.Term} (h : bjN e w_ = some r_) (k_ : bnv w_ t_) : bnv r_ t_ := by
  rcases e with b_ | l
  · rcases w_ with c_ | m_
    · cases h
      obtain ⟨x_, x1_, x2_, x3⟩ := k_
      refine ⟨x_, x1_, ?_, ?_⟩
      · simp only
        split <;> omega
      · simp only
        split <;> omega
    · cases h
  · rcases w_ with c_ | m_
    · cases h
    · cases h
      refine ⟨?_, k_.2⟩
      cases hq : blq l m_ with
      | true =>
        rw [blq_eq hq]
        exact k_.1
      | false =>
      simp only
      cases e1_ : l.any (fun v_ => bre v_ t_) with
      | true =>
        obtain ⟨u_, hu, he⟩ := List.any_eq_true.mp e1_
        rw [← bre_eq he]
        exact List.mem_append.mpr (Or.inl hu)
      | false => exact List.mem_append.mpr (Or.inr (List.mem_filter.mpr ⟨k_.1, by rw [e1_]; rfl⟩))
def bhl (I : Nat → Nat → Option bN) (G : bE) (ov : bO) (ps_ : List (Nat × Nat)) : Option bN := match ps_ with
  | [] => none
  | q_ :: t_ => match bpl I G ov q_.1 q_.2 with
    | none => none
    | some e => match t_ with
      | [] => some e
      | _ :: _ => match bhl I G ov t_ with
        | none => none
        | some r_ => bjN e r_
/-- places of a cell of m -/
def bpx (a_ m_ : Nat) (xs : List Int) : Option (List (Nat × Nat)) := match xs with
  | [] => some []
  | x_ :: t_ => match decide (0 ≤ x_) && decide (x_ < (m_ : Int)) with
    | false => none
    | true => match bpx a_ m_ t_ with
      | none => none
      | some r_ => some ((a_, x_.toNat) :: r_)
/-- places of these cells, of a kind -/
noncomputable def bpls (zf : Nat → Option (Nat × Nat)) (k1_ k2_ : Nat) (as_ : List Nat) (xs : List Int) : Option (List (Nat × Nat)) := match as_ with
  | [] => some []
  | a_ :: t_ => match zf a_ with
    | none => none
    | some z_ => match Nat.ble k1_ z_.1 && Nat.ble z_.1 k2_ with
      | false => none
      | true => match bpx a_ z_.2 xs with
        | none => none
        | some u_ => match bpls zf k1_ k2_ t_ xs with
          | none => none
          | some w_ => some (u_ ++ w_)
theorem bpx_ok {a_ m_ : Nat} : ∀ {xs : List Int} {r_ : List (Nat × Nat)}, bpx a_ m_ xs = some r_ → ∀ x_ ∈ xs, 0 ≤ x_ ∧ x_ < (m_ : Int) ∧ (a_, x_.toNat) ∈ r_ := by
  intro xs
  induction xs with
  | nil => intro r_ _ x_ hx; cases hx
  | cons y_ t_ ih_ =>
    intro r_ h x_ hx
    simp only [bpx] at h
    cases h1 : (decide (0 ≤ y_) && decide (y_ < (m_ : Int))) with
    | false => rw [h1] at h; cases h
    | true =>
    rw [h1] at h
    simp only at h
    cases h2 : bpx a_ m_ t_ with
    | none => rw [h2] at h; cases h
    | some w_ =>
    rw [h2] at h
    cases h
    simp only [Bool.and_eq_true, decide_eq_true_eq] at h1
    rcases List.mem_cons.mp hx with rfl | hx
    · exact ⟨h1.1, h1.2, List.mem_cons_self⟩
    · obtain ⟨k1_, k2_, k3_⟩ := ih_ h2 x_ hx
      exact ⟨k1_, k2_, List.mem_cons_of_mem _ k3_⟩
theorem bpls_ok {zf : Nat → Option (Nat × Nat)} {k1_ k2_ : Nat} {xs : List Int} : ∀ {as_ : List Nat} {ps_ : List (Nat × Nat)}, bpls zf k1_ k2_ as_ xs = some ps_ → ∀ a_ ∈ as_, ∃ z_, zf a_ = some z_ ∧ k1_ ≤ z_.1 ∧ z_.1 ≤ k2_ ∧ ∀ x_ ∈ xs, 0 ≤ x_ ∧ x_ < (z_.2 : Int) ∧ (a_, x_.toNat) ∈ ps_ := by
  intro as_
  induction as_ with
  | nil => intro ps_ _ a_ ha_; cases ha_
  | cons b_ t_ ih_ =>
    intro ps_ h a_ ha_
    simp only [bpls] at h
    cases h1 : zf b_ with
    | none => rw [h1] at h; cases h
    | some z_ =>
    rw [h1] at h
    simp only at h
    cases h2 : (Nat.ble k1_ z_.1 && Nat.ble z_.1 k2_) with
    | false => rw [h2] at h; cases h
    | true =>
    rw [h2] at h
    simp only at h
    cases h3 : bpx b_ z_.2 xs with
    | none => rw [h3] at h; cases h
    | some u_ =>
    rw [h3] at h
    simp only at h
    cases h4 : bpls zf k1_ k2_ t_ xs with
    | none => rw [h4] at h; cases h
    | some w_ =>
    rw [h4] at h
    cases h
    simp only [Bool.and_eq_true] at h2
    rcases List.mem_cons.mp ha_ with rfl | ha_
    · refine ⟨z_, h1, Nat.le_of_ble_eq_true h2.1, Nat.le_of_ble_eq_true h2.2, fun x_ hx => ?_⟩
      obtain ⟨k1_, k2_, k3_⟩ := bpx_ok h3 x_ hx
      exact ⟨k1_, k2_, List.mem_append.mpr (Or.inl k3_)⟩
    · obtain ⟨y_, y1, y2, y3, y4⟩ := ih_ h4 a_ ha_
      exact ⟨y_, y1, y2, y3, fun x_ hx => ⟨(y4 x_ hx).1, (y4 x_ hx).2.1, List.mem_append.mpr (Or.inr (y4 x_ hx).2.2)⟩⟩
/-- the lengths of these arrays -/
noncomputable def bln (zf : Nat → Option (Nat × Nat)) (as_ : List Nat) : Option (Int × Int) := match as_ with
  | [] => none
  | a_ :: t_ => match zf a_ with
    | none => none
    | some z_ => match Nat.ble 20 z_.1 && Nat.ble z_.1 24 with
      | false => none
      | true => match t_ with
        | [] => some ((Int32.ofNat z_.2).toInt, (Int32.ofNat z_.2).toInt)
        | _ :: _ => match bln zf t_ with
          | none => none
          | some r_ => some (if (Int32.ofNat z_.2).toInt ≤ r_.1 then (Int32.ofNat z_.2).toInt else r_.1, if r_.2 ≤ (Int32.ofNat z_.2).toInt then (Int32.ofNat z_.2).toInt else r_.2)
theorem bln_ok {zf : Nat → Option (Nat × Nat)} : ∀ {as_ : List Nat} {r_ : Int × Int}, bln zf as_ = some r_ → ∀ a_ ∈ as_, ∃ z_, zf a_ = some z_ ∧ (Nat.ble 20 z_.1 && Nat.ble z_.1 24) = true ∧ r_.1 ≤ (Int32.ofNat z_.2).toInt ∧ (Int32.ofNat z_.2).toInt ≤ r_.2 := by
  intro as_
  induction as_ with
  | nil => intro r_ _ a_ ha_; cases ha_
  | cons b_ t_ ih_ =>
    intro r_ h a_ ha_
    simp only [bln] at h
    cases h1 : zf b_ with
    | none => rw [h1] at h; cases h
    | some z_ =>
    rw [h1] at h
    simp only at h
    cases h2 : (Nat.ble 20 z_.1 && Nat.ble z_.1 24) with
    | false => rw [h2] at h; cases h
    | true =>
    rw [h2] at h
    simp only at h
    cases t_ with
    | nil =>
      simp only at h
      cases h
      rcases List.mem_cons.mp ha_ with rfl | ha_
      · exact ⟨z_, h1, h2, Int.le_refl _, Int.le_refl _⟩
      · cases ha_
    | cons c_ u_ =>
      simp only at h
      cases h4 : bln zf (c_ :: u_) with
      | none => rw [h4] at h; cases h
      | some w_ =>
      rw [h4] at h
      cases h
      rcases List.mem_cons.mp ha_ with rfl | ha_
      · refine ⟨z_, h1, h2, ?_, ?_⟩
        · simp only
          split <;> omega
        · simp only
          split <;> omega
      · obtain ⟨y_, y1, y2, y3, y4⟩ := ih_ h4 a_ ha_
        refine ⟨y_, y1, y2, ?_, ?_⟩
        · simp only
          split <;> omega
        · simp only
          split <;> omega
section
variable {Z : List (Nat × Nat)} {I : Nat → Nat → Option bN} {W : bW} {p : Nat → Int} {mi pc : Nat} {e : Instr × Nat × List Nat} {G : bE} {n : Nat} {la : bL} {sa : List bV} {ov : bO} {lo : xL} {st : List Jvm.Term} {h : xH}
theorem bplv_ok (hG : bok G p) {v_ : bV} {w_ : bN} {t_ : Jvm.Term} (k_ : bplv G v_ = some w_) (g_ : bga p v_ t_) : bnv w_ t_ := by
  rcases v_ with _ | (f_ | l)
  · cases k_
  · simp only [bplv] at k_
    cases hr : brg G f_ with
    | none => rw [hr] at k_; cases k_
    | some r_ =>
      rw [hr] at k_
      cases k_
      obtain ⟨x_, x1_, x2_⟩ := g_
      have := brg_ok hG (a := r_.1) (b := r_.2) hr
      exact ⟨x_, x1_, by omega, by omega⟩
  · cases k_
    exact g_
theorem bpl_ok (hG : bok G p) {i_ j_ : Nat} {l : List Jvm.Term} {t_ : Jvm.Term} (hc_ : bcr I p ov i_ l) (ht : l[j_]? = some t_) {w_ : bN} (k_ : bpl I G ov i_ j_ = some w_) : bnv w_ t_ := by
  have g_ := hc_ j_ t_ ht
  unfold bpl at k_
  cases e1_ : blo ov i_ j_ with
  | some v_ =>
    rw [e1_] at k_ g_
    exact bplv_ok hG k_ g_
  | none =>
    rw [e1_] at k_ g_
    obtain ⟨z_, hz, kb⟩ := g_
    simp only at k_
    rw [hz] at k_
    cases k_
    exact kb
theorem bhl_ok : ∀ {ps_ : List (Nat × Nat)} {r_ : bN}, bhl I G ov ps_ = some r_ → ∀ q_ ∈ ps_, ∃ w_, bpl I G ov q_.1 q_.2 = some w_ ∧ ∀ t_, bnv w_ t_ → bnv r_ t_ := by
  intro ps_
  induction ps_ with
  | nil => intro r_ _ q_ hq; cases hq
  | cons y_ u_ ih_ =>
    intro r_ k_ q_ hq
    simp only [bhl] at k_
    cases h1 : bpl I G ov y_.1 y_.2 with
    | none => rw [h1] at k_; cases k_
    | some w_ =>
    rw [h1] at k_
    simp only at k_
    cases u_ with
    | nil =>
      simp only at k_
      have k2_ : w_ = r_ := Option.some.inj k_
      rcases List.mem_cons.mp hq with rfl | hq
      · exact ⟨w_, h1, fun t_ g_ => by rw [← k2_]; exact g_⟩
      · cases hq
    | cons y2 u2_ =>
      simp only at k_
      cases h2 : bhl I G ov (y2 :: u2_) with
      | none => rw [h2] at k_; cases k_
      | some z_ =>
      rw [h2] at k_
      simp only at k_
      rcases List.mem_cons.mp hq with rfl | hq
      · exact ⟨w_, h1, fun t_ g_ => bjN_l k_ g_⟩
      · obtain ⟨v_, v1_, v2⟩ := ih_ h2 q_ hq
        exact ⟨v_, v1_, fun t_ g_ => bjN_r k_ (v2 t_ g_)⟩
/-- a value between two numbers, or one of these references, laid on the stack -/
def bpush (pc w_ : Nat) (G : bE) (n : Nat) (la : bL) (s_ : List bV) (ov : bO) (e : bN) : bQ := match e with
  | .inl b_ => (match decide (b_.1 = b_.2) with
    | true => (pc + w_, G, n, la, some (.inl (bcn b_.1)) :: s_, ov)
    | false => (pc + w_, (n, b_.1, b_.2) :: G, n + 1, la, some (.inl (bvr n)) :: s_, ov))
  | .inr l => (pc + w_, G, n, la, some (.inr l) :: s_, ov)
theorem bSt_e {w_ : Nat} {b_ : bN} {t_ : Jvm.Term} {s_ : List Jvm.Term} (R : bR Z I p (G, n, la, sa, ov) lo s_ h) (k_ : bnv b_ t_) (hx : ∀ kk : Nat → xL → List Jvm.Term → xH → List xB → Option xO, xsp mi pc e lo st h [] kk = xpu pc w_ lo s_ h [] t_ kk) : bSt Z I W p mi pc e n lo st h (bpush pc w_ G n la sa ov b_) := by
  rcases b_ with b_ | l
  · obtain ⟨x_, rfl, x2_, x3⟩ := k_
    cases hb_ : decide (b_.1 = b_.2) with
    | true =>
      have e1_ : bpush pc w_ G n la sa ov (.inl b_) = (pc + w_, G, n, la, some (.inl (bcn b_.1)) :: sa, ov) := by simp only [bpush, hb_]
      rw [e1_]
      have hb_ := of_decide_eq_true hb_
      exact bSt_push R rfl ⟨x_, rfl, by simp only [bfv, bcn, bsm]; omega⟩ hx
    | false =>
      have e1_ : bpush pc w_ G n la sa ov (.inl b_) = (pc + w_, (n, b_.1, b_.2) :: G, n + 1, la, some (.inl (bvr n)) :: sa, ov) := by simp only [bpush, hb_]
      rw [e1_]
      exact ⟨bup p n x_.toInt, lo, .int x_ :: s_, h, fun v_ hv => bup_ne (by omega), Nat.le_succ _, bR_push (bR_new R x2_ x3) bvr_l ⟨x_, rfl, bvr_v.symm⟩, bfr_rfl, fun kk => (hx kk).trans (by simp only [xpu, xfT_eq, xfN_eq])⟩
  · exact bSt_push R rfl k_ hx
def bgot (I : Nat → Nat → Option bN) (pc w_ : Nat) (G : bE) (n : Nat) (la : bL) (s_ : List bV) (ov : bO) (a_ j_ : Nat) : Option bQ := match brd I n ov a_ j_ with
  | none => none
  | some r_ => match r_.2 with
    | none => some (pc + w_, G, n, la, r_.1 :: s_, ov)
    | some b_ => some (pc + w_, (n, b_.1, b_.2) :: G, n + 1, la, r_.1 :: s_, ((a_, j_), r_.1) :: ov)
theorem bSt_got {w_ a_ j_ : Nat} {z_ : Nat × Nat} {c_ : xC} {t_ : Jvm.Term} {s_ : List Jvm.Term} {q_ : bQ} (R : bR Z I p (G, n, la, sa, ov) lo s_ h) (hz : xhg Z a_ = some z_) (hc_ : h[a_]? = some c_) (ht : c_.2[j_]? = some t_) (hs : bgot I pc w_ G n la sa ov a_ j_ = some q_) (hx : ∀ kk : Nat → xL → List Jvm.Term → xH → List xB → Option xO, xsp mi pc e lo st h [] kk = xpu pc w_ lo s_ h [] t_ kk) : bSt Z I W p mi pc e n lo st h q_ := by
  unfold bgot at hs
  cases hb_ : brd I n ov a_ j_ with
  | none => rw [hb_] at hs; cases hs
  | some r_ =>
    rw [hb_] at hs
    obtain ⟨v_, b_⟩ := r_
    have k_ := bR_read R hc_ ht ⟨z_, by rw [← xhg_eq]; exact hz⟩ hb_
    cases b_ with
    | none =>
      cases hs
      exact bSt_push R k_.1 k_.2 hx
    | some b_ =>
      obtain ⟨x_, rfl, x2_, x3, rfl⟩ := k_
      cases hs
      have hg : bga (bup p n x_.toInt) (some (.inl (bvr n))) (.int x_) := ⟨x_, rfl, bvr_v.symm⟩
      exact ⟨bup p n x_.toInt, lo, .int x_ :: s_, h, fun v_ hv => bup_ne (by omega), Nat.le_succ _, bR_push (bR_note (bR_new R x2_ x3) hc_ ht bvr_l hg) bvr_l hg, bfr_rfl, fun kk => (hx kk).trans (by simp only [xpu, xfT_eq, xfN_eq])⟩
/-- one of these places, read -/
def bread (I : Nat → Nat → Option bN) (pc w_ : Nat) (G : bE) (n : Nat) (la : bL) (s_ : List bV) (ov : bO) (ps_ : List (Nat × Nat)) (e : bN) : Option bQ := match ps_ with
  | [q_] => bgot I pc w_ G n la s_ ov q_.1 q_.2
  | _ => some (bpush pc w_ G n la s_ ov e)
theorem bSt_read {w_ a_ j_ : Nat} {z_ : Nat × Nat} {c_ : xC} {t_ : Jvm.Term} {s_ : List Jvm.Term} {q_ : bQ} {ps_ : List (Nat × Nat)} {b_ : bN} (R : bR Z I p (G, n, la, sa, ov) lo s_ h) (hz : xhg Z a_ = some z_) (hc_ : h[a_]? = some c_) (hcr : bcr I p ov a_ c_.2) (ht : c_.2[j_]? = some t_) (hm_ : (a_, j_) ∈ ps_) (hb_ : bhl I G ov ps_ = some b_) (hs : bread I pc w_ G n la sa ov ps_ b_ = some q_) (hx : ∀ kk : Nat → xL → List Jvm.Term → xH → List xB → Option xO, xsp mi pc e lo st h [] kk = xpu pc w_ lo s_ h [] t_ kk) : bSt Z I W p mi pc e n lo st h q_ := by
  obtain ⟨v_, v1_, v2⟩ := bhl_ok hb_ _ hm_
  have k_ := v2 t_ (bpl_ok R.1 hcr ht v1_)
  unfold bread at hs
  split at hs
  · rename_i y_
    have e1_ := List.mem_singleton.mp hm_
    rw [← e1_] at hs
    exact bSt_got R hz hc_ ht hs hx
  · cases hs
    exact bSt_e R k_ hx
theorem xix_at {x_ : Int32} {m_ : Nat} (h1 : 0 ≤ x_.toInt) (h2 : x_.toInt < (m_ : Int)) : xix (.int x_) m_ = some x_.toInt.toNat := by
  have e0_ : x_.toNatClampNeg = x_.toInt.toNat := rfl
  have e1_ : decide (x_ < 0) = false := by
    refine decide_eq_false (fun q_ => ?_)
    have := Int32.lt_iff_toInt_lt.mp q_
    have e : (0 : Int32).toInt = 0 := rfl
    omega
  have e2_ : Nat.ble m_ x_.toNatClampNeg = false := by
    cases e : Nat.ble m_ x_.toNatClampNeg with
    | false => rfl
    | true =>
      have := Nat.le_of_ble_eq_true e
      omega
  simp only [xix, e1_, e2_, Bool.or_self]
  rw [e0_]
-- ===== what reads
noncomputable def bsr (zf : Nat → Option (Nat × Nat)) (I : Nat → Nat → Option bN) (pc : Nat) (e : Instr × Nat × List Nat) (G : bE) (n : Nat) (la : bL) (sa : List bV) (ov : bO) : Option bQ := match e.1 with
  | .getfield _ => match e.2.2 with
    | [_, ci, kf] => match sa with
      | v_ :: s_ => match bcel v_ with
        | none => none
        | some as_ => match bpls zf ci ci as_ [(kf : Int)] with
          | none => none
          | some ps_ => match bhl I G ov ps_ with
            | none => none
            | some b_ => bread I pc 3 G n la s_ ov ps_ b_
      | _ => none
    | _ => none
  | .arraylength => match sa with
    | v_ :: s_ => match bcel v_ with
      | none => none
      | some as_ => match bln zf as_ with
        | none => none
        | some r_ => some (bpush pc 1 G n la s_ ov (.inl r_))
    | _ => none
  | .iaload => match sa with
    | some (.inl f_) :: v_ :: s_ => match bcel v_ with
      | none => none
      | some as_ => match bpos G f_ with
        | none => none
        | some xs => match bpls zf 20 20 as_ xs with
          | none => none
          | some ps_ => match bhl I G ov ps_ with
            | some (.inl b_) => bread I pc 1 G n la s_ ov ps_ (.inl b_)
            | _ => none
    | _ => none
  | .aaload => match sa with
    | some (.inl f_) :: v_ :: s_ => match bcel v_ with
      | none => none
      | some as_ => match bpos G f_ with
        | none => none
        | some xs => match bpls zf 21 24 as_ xs with
          | none => none
          | some ps_ => match bhl I G ov ps_ with
            | some (.inr l) => some (bpush pc 1 G n la s_ ov (.inr l))
            | _ => none
    | _ => none
  | _ => none
set_option maxHeartbeats 4000000 in
theorem bsr_ok {zf : Nat → Option (Nat × Nat)} (hz : ∀ a_ z_, zf a_ = some z_ → xhg Z a_ = some z_) {q_ : bQ} (R : bR Z I p (G, n, la, sa, ov) lo st h) (hs : bsr zf I pc e G n la sa ov = some q_) : bSt Z I W p mi pc e n lo st h q_ := by
  obtain ⟨i_, ln, ax⟩ := e
  have r1_ := R.1
  cases i_ with
  | getfield idx_ =>
    simp only [bsr] at hs
    rcases ax with _ | ⟨x0_, _ | ⟨ci, _ | ⟨kf, _ | ⟨x9, t9⟩⟩⟩⟩ <;> first | (cases hs; done) | skip
    rcases sa with _ | ⟨v_, s_⟩
    · cases hs
    simp only at hs
    cases hv : bcel v_ with
    | none => rw [hv] at hs; cases hs
    | some as_ =>
    rw [hv] at hs
    simp only at hs
    cases hp : bpls zf ci ci as_ [(kf : Int)] with
    | none => rw [hp] at hs; cases hs
    | some ps_ =>
    rw [hp] at hs
    simp only at hs
    cases hb_ : bhl I G ov ps_ with
    | none => rw [hb_] at hs; cases hs
    | some b_ =>
    rw [hb_] at hs
    simp only at hs
    obtain ⟨t_, s', rfl⟩ := bR_top R
    obtain ⟨R1, -, g_⟩ := bR_pop R
    obtain ⟨a_, ha_, rfl⟩ := bcel_ok hv g_
    obtain ⟨z_, z1, z2, z3, z4⟩ := bpls_ok hp a_ ha_
    obtain ⟨y1, y2, y3⟩ := z4 _ List.mem_cons_self
    obtain ⟨c_, c1_, c2_, c3_, c4_, c5_⟩ := bR_cell R1 (hz _ _ z1)
    have hlt : kf < c_.2.length := by omega
    have hk : Nat.beq c_.1 ci = true := by
      have : c_.1 = ci := by omega
      rw [this]
      simp
    exact bSt_read R1 (hz _ _ z1) c1_ c4_ (List.getElem?_eq_getElem hlt) y3 hb_ hs (fun kk => by simp only [xsp, xhg_eq, c1_, hk, cond_true, List.getElem?_eq_getElem hlt])
  | arraylength =>
    simp only [bsr] at hs
    rcases sa with _ | ⟨v_, s_⟩
    · cases hs
    simp only at hs
    cases hv : bcel v_ with
    | none => rw [hv] at hs; cases hs
    | some as_ =>
    rw [hv] at hs
    simp only at hs
    cases hp : bln zf as_ with
    | none => rw [hp] at hs; cases hs
    | some r_ =>
    rw [hp] at hs
    cases hs
    obtain ⟨t_, s', rfl⟩ := bR_top R
    obtain ⟨R1, -, g_⟩ := bR_pop R
    obtain ⟨a_, ha_, rfl⟩ := bcel_ok hv g_
    obtain ⟨z_, z1, z2, z3, z4⟩ := bln_ok hp a_ ha_
    obtain ⟨c_, c1_, c2_, c3_, c4_, c5_⟩ := bR_cell R1 (hz _ _ z1)
    refine bSt_e (t_ := .int (Int32.ofNat c_.2.length)) R1 ⟨_, rfl, by rw [c3_]; exact z3, by rw [c3_]; exact z4⟩ (fun kk => by simp only [xsp, xhg_eq, c1_, c2_, z2, cond_true])
  | iaload =>
    simp only [bsr] at hs
    split at hs
    · rename_i f_ v_ s_
      cases hv : bcel v_ with
      | none => rw [hv] at hs; cases hs
      | some as_ =>
      rw [hv] at hs
      simp only at hs
      cases hq : bpos G f_ with
      | none => rw [hq] at hs; cases hs
      | some xs =>
      rw [hq] at hs
      simp only at hs
      cases hp : bpls zf 20 20 as_ xs with
      | none => rw [hp] at hs; cases hs
      | some ps_ =>
      rw [hp] at hs
      simp only at hs
      split at hs
      · rename_i b_ hb_
        obtain ⟨t_, s', rfl⟩ := bR_top R
        obtain ⟨R1, -, x_, rfl, hx⟩ := bR_pop R
        obtain ⟨t2_, s', rfl⟩ := bR_top R1
        obtain ⟨R2, -, g2⟩ := bR_pop R1
        obtain ⟨a_, ha_, rfl⟩ := bcel_ok hv g2
        obtain ⟨z_, z1, z2, z3, z4⟩ := bpls_ok hp a_ ha_
        obtain ⟨y1, y2, y3⟩ := z4 _ (bpos_ok r1_ hq)
        obtain ⟨c_, c1_, c2_, c3_, c4_, c5_⟩ := bR_cell R2 (hz _ _ z1)
        rw [← hx] at y1 y2 y3
        have hlt : x_.toInt.toNat < c_.2.length := by omega
        have hk : Nat.beq c_.1 20 = true := by
          have : c_.1 = 20 := by omega
          rw [this]
          rfl
        have hxi : xix (.int x_) c_.2.length = some x_.toInt.toNat := xix_at y1 (by omega)
        have ht := List.getElem?_eq_getElem hlt
        obtain ⟨w_, w1_, w2_⟩ := bhl_ok hb_ _ y3
        obtain ⟨u_, u1_, -, -⟩ := w2_ _ (bpl_ok r1_ c4_ ht w1_)
        rw [u1_] at ht
        exact bSt_read R2 (hz _ _ z1) c1_ c4_ ht y3 hb_ hs (fun kk => by simp only [xsp, xhg_eq, c1_, hk, cond_true, hxi, ht, xI])
      · cases hs
    · cases hs
  | aaload =>
    simp only [bsr] at hs
    split at hs
    · rename_i f_ v_ s_
      cases hv : bcel v_ with
      | none => rw [hv] at hs; cases hs
      | some as_ =>
      rw [hv] at hs
      simp only at hs
      cases hq : bpos G f_ with
      | none => rw [hq] at hs; cases hs
      | some xs =>
      rw [hq] at hs
      simp only at hs
      cases hp : bpls zf 21 24 as_ xs with
      | none => rw [hp] at hs; cases hs
      | some ps_ =>
      rw [hp] at hs
      simp only at hs
      split at hs
      · rename_i l hb_
        cases hs
        obtain ⟨t_, s', rfl⟩ := bR_top R
        obtain ⟨R1, -, x_, rfl, hx⟩ := bR_pop R
        obtain ⟨t2_, s', rfl⟩ := bR_top R1
        obtain ⟨R2, -, g2⟩ := bR_pop R1
        obtain ⟨a_, ha_, rfl⟩ := bcel_ok hv g2
        obtain ⟨z_, z1, z2, z3, z4⟩ := bpls_ok hp a_ ha_
        obtain ⟨y1, y2, y3⟩ := z4 _ (bpos_ok r1_ hq)
        obtain ⟨c_, c1_, c2_, c3_, c4_, c5_⟩ := bR_cell R2 (hz _ _ z1)
        rw [← hx] at y1 y2 y3
        have hlt : x_.toInt.toNat < c_.2.length := by omega
        have hk : (Nat.ble 21 c_.1 && Nat.ble c_.1 24) = true := by
          simp only [Bool.and_eq_true]
          exact ⟨Nat.ble_eq_true_of_le (by omega), Nat.ble_eq_true_of_le (by omega)⟩
        have hxi : xix (.int x_) c_.2.length = some x_.toInt.toNat := xix_at y1 (by omega)
        have ht := List.getElem?_eq_getElem hlt
        obtain ⟨w_, w1_, w2_⟩ := bhl_ok hb_ _ y3
        have hu := w2_ _ (bpl_ok r1_ c4_ ht w1_)
        exact bSt_e R2 hu (fun kk => by simp only [xsp, xhg_eq, c1_, hk, cond_true, hxi, ht, hu.2.1])
      · cases hs
    · cases hs
  | _ => cases hs
end
