-- ===== switches, null or not
def bside (pc : Nat) (o : Option bE) (n : Nat) (la : bL) (s_ : List bV) (ov : bO) : List bQ := match o with
  | none => []
  | some G => [(pc, G, n, la, s_, ov)]
/-- it is 0, surely -/
def bzr (G : bE) (e : bF) : Bool := match brg G e with
  | some b_ => decide (b_.1 = 0) && decide (b_.2 = 0)
  | none => false
theorem bzr_ok {G : bE} {p : Nat → Int} (hG : bok G p) {e : bF} (hz : bzr G e = true) : bfv p e = 0 := by
  unfold bzr at hz
  cases hr : brg G e with
  | none => rw [hr] at hz; cases hz
  | some b_ =>
    rw [hr] at hz
    simp only [Bool.and_eq_true, decide_eq_true_eq] at hz
    have k_ := brg_ok hG (a := b_.1) (b := b_.2) hr
    omega
/-- e is not 0: what covers it -/
def bnzs (G : bE) (e : bF) : List bE := match e.2 with
  | [] => (match decide (e.1 = 0) with
    | true => []
    | false => [G])
  | [q_] => (match decide (q_.2 = 1) || decide (q_.2 = -1) with
    | false => [G]
    | true => match blk G q_.1 with
      | none => [G]
      | some b_ => (match decide (b_.1 ≤ -e.1 * q_.2 - 1) with
        | true => [(q_.1, b_.1, if -e.1 * q_.2 - 1 ≤ b_.2 then -e.1 * q_.2 - 1 else b_.2) :: G]
        | false => []) ++ (match decide (-e.1 * q_.2 + 1 ≤ b_.2) with
        | true => [(q_.1, (if b_.1 ≤ -e.1 * q_.2 + 1 then -e.1 * q_.2 + 1 else b_.1), b_.2) :: G]
        | false => []))
  | _ => match bzr G e with
    | true => []
    | false => [G]
theorem bnzs_ok {n : Nat} {G : bE} {p : Nat → Int} (hG : bok G p) (hn : bltE n G = true) {e : bF} (he : bfv p e ≠ 0) : ∃ G' ∈ bnzs G e, bok G' p ∧ bltE n G' = true := by
  unfold bnzs
  split
  · rename_i h0
    have e1_ : bfv p e = e.1 := by simp only [bfv, h0, bsm]; omega
    cases h : decide (e.1 = 0) with
    | true => exact absurd (e1_.trans (of_decide_eq_true h)) he
    | false => exact ⟨G, List.mem_cons_self, hG, hn⟩
  · rename_i q_ h0
    have e1_ : bfv p e = e.1 + q_.2 * p q_.1 := by simp only [bfv, h0, bsm]; omega
    cases h : (decide (q_.2 = 1) || decide (q_.2 = -1)) with
    | false => exact ⟨G, List.mem_cons_self, hG, hn⟩
    | true =>
      simp only
      cases hb_ : blk G q_.1 with
      | none => exact ⟨G, List.mem_cons_self, hG, hn⟩
      | some b_ =>
        have h1 := hG q_.1 b_.1 b_.2 hb_
        have hv := blk_lt hn hb_
        simp only
        have hne : p q_.1 ≤ -e.1 * q_.2 - 1 ∨ -e.1 * q_.2 + 1 ≤ p q_.1 := by
          simp only [Bool.or_eq_true, decide_eq_true_eq] at h
          rcases h with h | h
          · rw [h, Int.one_mul] at e1_
            rw [h, Int.mul_one]
            omega
          · rw [h] at e1_ ⊢
            omega
        rcases hne with hc_ | hc_
        · have h2 : decide (b_.1 ≤ -e.1 * q_.2 - 1) = true := decide_eq_true (by omega)
          rw [h2]
          refine ⟨_, List.mem_append.mpr (Or.inl List.mem_cons_self), bok_set hG h1.1 ?_, bltE_set hn hv⟩
          split
          · exact hc_
          · exact h1.2
        · have h2 : decide (-e.1 * q_.2 + 1 ≤ b_.2) = true := decide_eq_true (by omega)
          rw [h2]
          refine ⟨_, List.mem_append.mpr (Or.inr List.mem_cons_self), bok_set hG ?_ h1.2, bltE_set hn hv⟩
          split
          · exact hc_
          · exact h1.1
  · cases hz : bzr G e with
    | true => exact absurd (bzr_ok hG hz) he
    | false => exact ⟨G, List.mem_cons_self, hG, hn⟩
def bopt (o : Option bE) : List bE := match o with
  | none => []
  | some G' => [G']
theorem bopt_ok {n : Nat} {p : Nat → Int} {o : Option bE} (h : bRf n p o) : ∃ G' ∈ bopt o, bok G' p ∧ bltE n G' = true := by
  cases o with
  | none => exact absurd h id
  | some G' => exact ⟨G', List.mem_cons_self, h⟩
def bcms (c_ : Jvm.ClassFile.Cond) (G : bE) (f_ g_ : bF) : List bE := match c_ with
  | .ne => bnzs G (bsub f_ g_)
  | .eq => bopt (bcm .eq G f_ g_)
  | .lt => bopt (bcm .lt G f_ g_)
  | .le => bopt (bcm .le G f_ g_)
  | .gt => bopt (bcm .gt G f_ g_)
  | .ge => bopt (bcm .ge G f_ g_)
theorem bcms_ok {n : Nat} {G : bE} {p : Nat → Int} (hG : bok G p) (hn : bltE n G = true) {c_ : Jvm.ClassFile.Cond} {f_ g_ : bF} {x_ y_ : Int32} (hx : x_.toInt = bfv p f_) (hy : y_.toInt = bfv p g_) (h : xcm c_ x_ y_) : ∃ G' ∈ bcms c_ G f_ g_, bok G' p ∧ bltE n G' = true := by
  have h1 := bcm_ok hG hn hx hy h
  cases c_ with
  | ne =>
    have h2 : ¬ x_ = y_ := h
    exact bnzs_ok hG hn (by
      rw [bsub_ok]
      intro q_
      exact h2 (Int32.toInt_inj.mp (by omega)))
  | eq => exact bopt_ok h1
  | lt => exact bopt_ok h1
  | le => exact bopt_ok h1
  | gt => exact bopt_ok h1
  | ge => exact bopt_ok h1
def bjt (pc : Nat) (off_ : Int) : Option Nat := match (pc : Int) + off_ with
  | .negSucc _ => none
  | .ofNat t_ => some t_
theorem bjt_ok {pc t_ : Nat} {off_ : Int} (h : bjt pc off_ = some t_) : (pc : Int) + off_ = .ofNat t_ := by
  unfold bjt at h
  split at h
  · cases h
  · rename_i u_ hu
    cases h
    exact hu
def bls (pc n : Nat) (la : bL) (s_ : List bV) (ov : bO) (d_ : Int) (f_ : bF) (G : bE) (l : List (Int × Int)) : Option (List bQ) := match l with
  | [] => (match bjt pc d_ with
    | none => none
    | some t_ => some [(t_, G, n, la, s_, ov)])
  | q_ :: r_ => match bjt pc q_.2 with
    | none => none
    | some t_ => match bnz G (bsub f_ (bcn q_.1)) with
      | none => some (bside t_ (bcm .eq G f_ (bcn q_.1)) n la s_ ov)
      | some G' => match bls pc n la s_ ov d_ f_ G' r_ with
        | none => none
        | some qs => some (bside t_ (bcm .eq G f_ (bcn q_.1)) n la s_ ov ++ qs)
def btl (pc n : Nat) (la : bL) (s_ : List bV) (ov : bO) (f_ : bF) (G : bE) (k_ : Int) (l : List Int) : Option (List bQ) := match l with
  | [] => some []
  | o :: r_ => match bjt pc o with
    | none => none
    | some t_ => match btl pc n la s_ ov f_ G (k_ + 1) r_ with
      | none => none
      | some qs => some (bside t_ (bcm .eq G f_ (bcn k_)) n la s_ ov ++ qs)
def bnull (t_ : Jvm.Term) : Bool := match t_ with
  | .null => true
  | _ => false
def bindx (t_ : Jvm.Term) : Bool := match t_ with
  | .index _ => true
  | _ => false
/-- a local that may be null and may be not: one state each -/
def bal2 (pc w_ i_ : Nat) (G : bE) (n : Nat) (la : bL) (sa : List bV) (ov : bO) : Option (List bQ) := match blL la i_ with
  | some (some (.inr l)) => (match l.any bnull && l.any (fun t_ => !(bnull t_)) with
    | true => some [(pc + w_, G, n, (i_, some (.inr (l.filter bnull))) :: la, some (.inr (l.filter bnull)) :: sa, ov), (pc + w_, G, n, (i_, some (.inr (l.filter (fun t_ => !(bnull t_))))) :: la, some (.inr (l.filter (fun t_ => !(bnull t_)))) :: sa, ov)]
    | false => none)
  | _ => none
def bbs (pc : Nat) (e : Instr × Nat × List Nat) (G : bE) (n : Nat) (la : bL) (sa : List bV) (ov : bO) : Option (List bQ) := match e.1 with
  | .aload_n i_ => bal2 pc 1 i_.val G n la sa ov
  | .aload i_ => bal2 pc 2 i_ G n la sa ov
  | .ifnonnull off_ => match sa with
    | some (.inr l) :: s_ => match l.all (fun t_ => bnull t_ || bindx t_) with
      | false => none
      | true => match bjt pc off_ with
        | none => none
        | some t_ => some ((match l.any bnull with
          | true => [(pc + 3, G, n, la, s_, ov)]
          | false => []) ++ (match l.any bindx with
          | true => [(t_, G, n, la, s_, ov)]
          | false => []))
    | _ => none
  | .lookupswitch d_ ps_ => match sa with
    | some (.inl f_) :: s_ => match (ps_.toList.zip (ps_.toList.drop 1)).all (fun (a_, next_) => a_.1 < next_.1) with
      | true => bls pc n la s_ ov d_ f_ G ps_.toList
      | false => none
    | _ => none
  | .tableswitch d_ low_ high_ offs => match sa with
    | some (.inl f_) :: s_ => match decide (high_ - low_ < (offs.toList.length : Int)) with
      | false => none
      | true => match bjt pc d_ with
        | none => none
        | some t_ => match btl pc n la s_ ov f_ G low_ offs.toList with
          | none => none
          | some qs => some (bside t_ (bnp G (badd (bsub f_ (bcn low_)) (bcn 1))) n la s_ ov ++ (bside t_ (bnp G (badd (bsub (bcn high_) f_) (bcn 1))) n la s_ ov ++ qs))
    | _ => none
  | _ => none
section
variable {Z : List (Nat × Nat)} {I : Nat → Nat → Option bN} {W : bW} {p : Nat → Int} {mi pc : Nat} {e : Instr × Nat × List Nat} {G : bE} {n : Nat} {la : bL} {sa : List bV} {ov : bO} {lo : xL} {st : List Jvm.Term} {h : xH}
theorem bR_env {G' : bE} (R : bR Z I p (G, n, la, sa, ov) lo st h) (hG : bok G' p ∧ bltE n G' = true) : bR Z I p (G', n, la, sa, ov) lo st h := by
  obtain ⟨r1_, r2, r3⟩ := R
  exact ⟨hG.1, hG.2, r3⟩
theorem bside_ok {t_ : Nat} {o : Option bE} {s_ : List Jvm.Term} (R : bR Z I p (G, n, la, sa, ov) lo s_ h) (hG : bRf n p o) (hx : ∀ kk : Nat → xL → List Jvm.Term → xH → List xB → Option xO, xsp mi pc e lo st h [] kk = kk t_ lo s_ h []) : ∃ q_ ∈ bside t_ o n la sa ov, bSt Z I W p mi pc e n lo st h q_ := by
  cases o with
  | none => exact absurd hG id
  | some G' => exact ⟨_, List.mem_cons_self, bSt_same (bR_env R hG) hx⟩
theorem bside_in {t_ : Nat} {o : Option bE} {la : bL} {sa : List bV} {ov : bO} (hG : bRf n p o) : ∃ G', (t_, G', n, la, sa, ov) ∈ bside t_ o n la sa ov ∧ bok G' p ∧ bltE n G' = true := by
  cases o with
  | none => exact absurd hG id
  | some G' => exact ⟨G', List.mem_cons_self, hG⟩
theorem bls_ok {d_ : Int} {f_ : bF} {x_ : Int32} (hx : x_.toInt = bfv p f_) : ∀ {l : List (Int × Int)} {G : bE} {qs : List bQ}, bls pc n la sa ov d_ f_ G l = some qs → bok G p → bltE n G = true → ∃ t_ G', (t_, G', n, la, sa, ov) ∈ qs ∧ (bok G' p ∧ bltE n G' = true) ∧ (pc : Int) + Op.lookupswitch.offset l d_ x_.toInt = .ofNat t_ := by
  intro l
  induction l with
  | nil =>
    intro G qs hs hG hn
    simp only [bls] at hs
    cases ht : bjt pc d_ with
    | none => rw [ht] at hs; cases hs
    | some t_ =>
      rw [ht] at hs
      cases hs
      exact ⟨t_, G, List.mem_cons_self, ⟨hG, hn⟩, bjt_ok ht⟩
  | cons q_ r_ ih_ =>
    intro G qs hs hG hn
    obtain ⟨a_, o⟩ := q_
    simp only [bls] at hs
    cases ht : bjt pc o with
    | none => rw [ht] at hs; cases hs
    | some t_ =>
    rw [ht] at hs
    simp only at hs
    rw [Op.lookupswitch.offset_cons]
    have ea : bfv p (bcn a_) = a_ := bcn_v
    by_cases hk : a_ = x_.toInt
    · rw [if_pos hk]
      have h1 := bcm_ok (c := .eq) (f := f_) (g := bcn a_) hG hn hx (by rw [ea]; exact hk.symm) (show x_ = x_ from rfl)
      obtain ⟨G', g1, g2⟩ := bside_in (t_ := t_) (la := la) (sa := sa) (ov := ov) h1
      cases hz : bnz G (bsub f_ (bcn a_)) with
      | none =>
        rw [hz] at hs
        cases hs
        exact ⟨t_, G', g1, g2, bjt_ok ht⟩
      | some G2_ =>
        rw [hz] at hs
        simp only at hs
        cases hb_ : bls pc n la sa ov d_ f_ G2_ r_ with
        | none => rw [hb_] at hs; cases hs
        | some w_ =>
          rw [hb_] at hs
          cases hs
          exact ⟨t_, G', List.mem_append.mpr (Or.inl g1), g2, bjt_ok ht⟩
    · rw [if_neg hk]
      have h1 := bnz_ok hG hn (e := bsub f_ (bcn a_)) (by rw [bsub_ok, ea]; omega)
      cases hz : bnz G (bsub f_ (bcn a_)) with
      | none => rw [hz] at h1; exact absurd h1 id
      | some G2_ =>
        rw [hz] at hs h1
        simp only at hs
        cases hb_ : bls pc n la sa ov d_ f_ G2_ r_ with
        | none => rw [hb_] at hs; cases hs
        | some w_ =>
          rw [hb_] at hs
          cases hs
          obtain ⟨t2_, G3, g1, g2, g3_⟩ := ih_ hb_ h1.1 h1.2
          exact ⟨t2_, G3, List.mem_append.mpr (Or.inr g1), g2, g3_⟩
theorem btl_ok {f_ : bF} {x_ : Int32} (hx : x_.toInt = bfv p f_) (hG : bok G p) (hn : bltE n G = true) : ∀ {l : List Int} {k_ : Int} {qs : List bQ}, btl pc n la sa ov f_ G k_ l = some qs → k_ ≤ x_.toInt → x_.toInt < k_ + (l.length : Int) → ∃ o t_ G', l[(x_.toInt - k_).toNat]? = some o ∧ (t_, G', n, la, sa, ov) ∈ qs ∧ (bok G' p ∧ bltE n G' = true) ∧ (pc : Int) + o = .ofNat t_ := by
  intro l
  induction l with
  | nil =>
    intro k_ qs hs h1 h2
    simp only [List.length_nil] at h2
    omega
  | cons o r_ ih_ =>
    intro k_ qs hs h1 h2
    simp only [btl] at hs
    cases ht : bjt pc o with
    | none => rw [ht] at hs; cases hs
    | some t_ =>
    rw [ht] at hs
    simp only at hs
    cases hb_ : btl pc n la sa ov f_ G (k_ + 1) r_ with
    | none => rw [hb_] at hs; cases hs
    | some w_ =>
    rw [hb_] at hs
    cases hs
    have ea : bfv p (bcn k_) = k_ := bcn_v
    by_cases hk : x_.toInt = k_
    · have h3 := bcm_ok (c := .eq) (f := f_) (g := bcn k_) hG hn hx (by rw [ea]; exact hk) (show x_ = x_ from rfl)
      obtain ⟨G', g1, g2⟩ := bside_in (t_ := t_) (la := la) (sa := sa) (ov := ov) h3
      refine ⟨o, t_, G', ?_, List.mem_append.mpr (Or.inl g1), g2, bjt_ok ht⟩
      rw [show (x_.toInt - k_).toNat = 0 by omega]
      rfl
    · simp only [List.length_cons] at h2
      obtain ⟨o2, t2_, G2_, g0, g1, g2, g3_⟩ := ih_ hb_ (by omega) (by omega)
      refine ⟨o2, t2_, G2_, ?_, List.mem_append.mpr (Or.inr g1), g2, g3_⟩
      rw [show (x_.toInt - k_).toNat = (x_.toInt - (k_ + 1)).toNat + 1 by omega, List.getElem?_cons_succ]
      exact g0
theorem bal2_ok {w_ i_ : Nat} {qs : List bQ} (R : bR Z I p (G, n, la, sa, ov) lo st h) (hs : bal2 pc w_ i_ G n la sa ov = some qs) (hx : ∀ t_, xlk lo i_ = some t_ → xF t_ = true → ∀ kk : Nat → xL → List Jvm.Term → xH → List xB → Option xO, xsp mi pc e lo st h [] kk = xpu pc w_ lo st h [] t_ kk) : ∃ q_ ∈ qs, bSt Z I W p mi pc e n lo st h q_ := by
  unfold bal2 at hs
  split at hs
  · rename_i l hl
    split at hs
    · cases hs
      have R0_ := R
      obtain ⟨r1_, r2, r3, r4, r5_, r6, r7, r8, r9, rx_⟩ := R0_
      obtain ⟨t_, t1_, t2_⟩ := blL_ok r6 hl
      have key_ : ∀ l' : List Jvm.Term, t_ ∈ l' → bSt Z I W p mi pc e n lo st h (pc + w_, G, n, (i_, some (.inr l')) :: la, some (.inr l') :: sa, ov) := by
        intro l' ht
        have g_ : bga p (some (.inr l')) t_ := ⟨ht, t2_.2⟩
        have R' : bR Z I p (G, n, (i_, some (.inr l')) :: la, sa, ov) lo st h := by
          refine ⟨r1_, r2, ?_, r4, r5_, ?_, r7, r8, r9, rx_⟩
          · unfold bLl at r3 ⊢
            simp only [List.all_cons, Bool.and_eq_true]
            exact ⟨rfl, r3⟩
          · intro k_ v_ hk
            simp only [blL] at hk
            cases e1_ : Nat.beq i_ k_ with
            | true =>
              rw [e1_] at hk
              cases hk
              rw [← Nat.eq_of_beq_eq_true e1_]
              exact ⟨t_, t1_, g_⟩
            | false =>
              rw [e1_] at hk
              exact r6 k_ v_ hk
        exact bSt_push R' rfl g_ (hx t_ t1_ t2_.2.1)
      cases hb_ : bnull t_ with
      | true => exact ⟨_, List.mem_cons_self, key_ _ (List.mem_filter.mpr ⟨t2_.1, hb_⟩)⟩
      | false => exact ⟨_, List.mem_cons_of_mem _ List.mem_cons_self, key_ _ (List.mem_filter.mpr ⟨t2_.1, by rw [hb_]; rfl⟩)⟩
    · cases hs
  · cases hs
theorem bbs_ok {qs : List bQ} (R : bR Z I p (G, n, la, sa, ov) lo st h) (hs : bbs pc e G n la sa ov = some qs) : ∃ q_ ∈ qs, bSt Z I W p mi pc e n lo st h q_ := by
  obtain ⟨i_, ln, ax⟩ := e
  cases i_ with
  | aload_n i_ => exact bal2_ok R hs (fun t_ ht hF kk => by simp only [xsp, ht, hF, cond_true])
  | aload i_ => exact bal2_ok R hs (fun t_ ht hF kk => by simp only [xsp, ht, hF, cond_true])
  | ifnonnull off_ =>
    simp only [bbs] at hs
    split at hs
    · rename_i l s0_
      obtain ⟨t_, s_, rfl⟩ := bR_top R
      obtain ⟨R1, hv, g_⟩ := bR_pop R
      cases hl : l.all (fun t_ => bnull t_ || bindx t_) with
      | false => rw [hl] at hs; cases hs
      | true =>
      rw [hl] at hs
      simp only at hs
      cases hj : bjt pc off_ with
      | none => rw [hj] at hs; cases hs
      | some tg =>
      rw [hj] at hs
      cases hs
      have ht := List.all_eq_true.mp hl t_ g_.1
      cases t_ with
      | null =>
        have hn : l.any bnull = true := List.any_eq_true.mpr ⟨_, g_.1, rfl⟩
        rw [hn]
        exact ⟨_, List.mem_append.mpr (Or.inl List.mem_cons_self), bSt_same R1 (fun kk => by simp only [xsp, xfN_eq])⟩
      | index a_ =>
        have hn : l.any bindx = true := List.any_eq_true.mpr ⟨_, g_.1, rfl⟩
        rw [hn]
        exact ⟨_, List.mem_append.mpr (Or.inr List.mem_cons_self), bSt_same R1 (fun kk => by simp only [xsp, xjp, bjt_ok hj, xfN_eq])⟩
      | _ => exact absurd ht (by simp [bnull, bindx])
    · cases hs
  | lookupswitch d_ ps_ =>
    simp only [bbs] at hs
    split at hs
    · rename_i f_ s0_
      obtain ⟨t_, s_, rfl⟩ := bR_top R
      obtain ⟨R1, hv, x_, rfl, hx⟩ := bR_pop R
      split at hs
      · rename_i ho
        obtain ⟨t_, G', g1, g2, g3_⟩ := bls_ok hx hs R.1 R.2.1
        exact ⟨_, g1, bSt_same (bR_env R1 g2) (fun kk => by simp only [xsp, ho, xjp, g3_, xfN_eq])⟩
      · cases hs
    · cases hs
  | tableswitch d_ low_ high_ offs =>
    simp only [bbs] at hs
    split at hs
    · rename_i f_ s0_
      obtain ⟨t_, s_, rfl⟩ := bR_top R
      obtain ⟨R1, hv, x_, rfl, hx⟩ := bR_pop R
      cases hd_ : decide (high_ - low_ < (offs.toList.length : Int)) with
      | false => rw [hd_] at hs; cases hs
      | true =>
      rw [hd_] at hs
      simp only at hs
      cases hj : bjt pc d_ with
      | none => rw [hj] at hs; cases hs
      | some td =>
      rw [hj] at hs
      simp only at hs
      cases hb_ : btl pc n la s0_ ov f_ G low_ offs.toList with
      | none => rw [hb_] at hs; cases hs
      | some w_ =>
      rw [hb_] at hs
      cases hs
      have hd_ := of_decide_eq_true hd_
      by_cases h1 : x_.toInt < low_
      · have hG := bnp_ok R.1 R.2.1 (e := badd (bsub f_ (bcn low_)) (bcn 1)) (by rw [badd_ok, bsub_ok, bcn_v, bcn_v]; omega)
        obtain ⟨q_, hq, k_⟩ := bside_ok (W := W) (mi := mi) (pc := pc) (e := (.tableswitch d_ low_ high_ offs, ln, ax)) (st := .int x_ :: s_) (t_ := td) R1 hG (fun kk => by
          have e1_ : (decide (x_.toInt < low_) || decide (high_ < x_.toInt)) = true := by rw [decide_eq_true h1]; rfl
          simp only [xsp, xlit, e1_, xjp, bjt_ok hj, xfN_eq])
        exact ⟨q_, List.mem_append.mpr (Or.inl hq), k_⟩
      · by_cases h2 : high_ < x_.toInt
        · have hG := bnp_ok R.1 R.2.1 (e := badd (bsub (bcn high_) f_) (bcn 1)) (by rw [badd_ok, bsub_ok, bcn_v, bcn_v]; omega)
          obtain ⟨q_, hq, k_⟩ := bside_ok (W := W) (mi := mi) (pc := pc) (e := (.tableswitch d_ low_ high_ offs, ln, ax)) (st := .int x_ :: s_) (t_ := td) R1 hG (fun kk => by
            have e1_ : (decide (x_.toInt < low_) || decide (high_ < x_.toInt)) = true := by rw [decide_eq_true h2, Bool.or_true]
            simp only [xsp, xlit, e1_, xjp, bjt_ok hj, xfN_eq])
          exact ⟨q_, List.mem_append.mpr (Or.inr (List.mem_append.mpr (Or.inl hq))), k_⟩
        · obtain ⟨o, t_, G', g0, g1, g2, g3_⟩ := btl_ok hx R.1 R.2.1 hb_ (by omega) (by omega)
          refine ⟨_, List.mem_append.mpr (Or.inr (List.mem_append.mpr (Or.inr g1))), bSt_same (bR_env R1 g2) (fun kk => ?_)⟩
          have e1_ : (decide (x_.toInt < low_) || decide (high_ < x_.toInt)) = false := by rw [decide_eq_false h1, decide_eq_false h2]; rfl
          have e2_ : offs[(x_.toInt - low_).toNat]? = some o := by rw [← Array.getElem?_toList]; exact g0
          simp only [xsp, xlit, e1_, e2_, xjp, g3_, xfN_eq]
    · cases hs
  | _ => cases hs
end
