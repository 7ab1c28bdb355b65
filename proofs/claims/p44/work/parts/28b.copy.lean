-- ===== an element copied: a read and a write at once
def bi2 (v_ : Nat) (k_ m_ : Int) (l : List (Nat × Int × Int)) : List (Nat × Int × Int) := match l with
  | [] => [(v_, k_, m_)]
  | q_ :: t_ => match Nat.beq q_.1 v_ with
    | true => (q_.1, q_.2.1 + k_, q_.2.2 + m_) :: t_
    | false => q_ :: bi2 v_ k_ m_ t_
def bs1m (p : Nat → Int) (l : List (Nat × Int × Int)) : Int := match l with
  | [] => 0
  | q_ :: t_ => q_.2.1 * p q_.1 + bs1m p t_
def bs2m (p : Nat → Int) (l : List (Nat × Int × Int)) : Int := match l with
  | [] => 0
  | q_ :: t_ => q_.2.2 * p q_.1 + bs2m p t_
theorem bi2_1 (p : Nat → Int) (v_ : Nat) (k_ m_ : Int) (l : List (Nat × Int × Int)) : bs1m p (bi2 v_ k_ m_ l) = k_ * p v_ + bs1m p l ∧ bs2m p (bi2 v_ k_ m_ l) = m_ * p v_ + bs2m p l := by
  induction l with
  | nil => exact ⟨rfl, rfl⟩
  | cons q_ t_ ih_ =>
    simp only [bi2]
    cases h : Nat.beq q_.1 v_ with
    | true =>
      have e1_ := Nat.eq_of_beq_eq_true h
      simp only [bs1m, bs2m, e1_, Int.add_mul]
      omega
    | false =>
      simp only [bs1m, bs2m, ih_.1, ih_.2]
      omega
def bcb (f_ g_ : List (Nat × Int)) : List (Nat × Int × Int) := f_.foldr (fun q_ l => bi2 q_.1 q_.2 0 l) (g_.foldr (fun q_ l => bi2 q_.1 0 q_.2 l) [])
theorem bcb_ok (p : Nat → Int) (f_ g_ : List (Nat × Int)) : bs1m p (bcb f_ g_) = bsm p f_ ∧ bs2m p (bcb f_ g_) = bsm p g_ := by
  have base_ : bs1m p (g_.foldr (fun q_ l => bi2 q_.1 0 q_.2 l) []) = 0 ∧ bs2m p (g_.foldr (fun q_ l => bi2 q_.1 0 q_.2 l) []) = bsm p g_ := by
    induction g_ with
    | nil => exact ⟨rfl, rfl⟩
    | cons q_ t_ ih_ =>
      have k_ := bi2_1 p q_.1 0 q_.2 (t_.foldr (fun q_ l => bi2 q_.1 0 q_.2 l) [])
      simp only [List.foldr_cons]
      rw [k_.1, k_.2, ih_.1, ih_.2]
      exact ⟨by rw [Int.zero_mul, Int.zero_add], rfl⟩
  unfold bcb
  induction f_ with
  | nil => exact base_
  | cons q_ t_ ih_ =>
    have k_ := bi2_1 p q_.1 q_.2 0 (t_.foldr (fun q_ l => bi2 q_.1 q_.2 0 l) (g_.foldr (fun q_ l => bi2 q_.1 0 q_.2 l) []))
    simp only [List.foldr_cons]
    rw [k_.1, k_.2, ih_.1, ih_.2]
    exact ⟨rfl, by rw [Int.zero_mul, Int.zero_add]⟩
def bpr (G : bE) (l : List (Nat × Int × Int)) : Option (List (Int × Int)) := match l with
  | [] => some [(0, 0)]
  | q_ :: t_ => match bpr G t_ with
    | none => none
    | some ps_ => match blk G q_.1 with
      | none => none
      | some b_ => some (ps_.flatMap (fun s_ => (brange b_.1 (b_.2 - b_.1 + 1).toNat).map (fun x_ => (q_.2.1 * x_ + s_.1, q_.2.2 * x_ + s_.2))))
theorem bpr_ok {G : bE} {p : Nat → Int} (hG : bok G p) : ∀ {l : List (Nat × Int × Int)} {ps_ : List (Int × Int)}, bpr G l = some ps_ → (bs1m p l, bs2m p l) ∈ ps_ := by
  intro l
  induction l with
  | nil => intro ps_ h; cases h; exact List.mem_cons_self
  | cons q_ t_ ih_ =>
    intro ps_ h
    simp only [bpr] at h
    cases h1 : bpr G t_ with
    | none => rw [h1] at h; cases h
    | some qs =>
    rw [h1] at h
    simp only at h
    cases h2 : blk G q_.1 with
    | none => rw [h2] at h; cases h
    | some b_ =>
    rw [h2] at h
    cases h
    have hb_ := hG q_.1 b_.1 b_.2 h2
    exact List.mem_flatMap.mpr ⟨_, ih_ h1, List.mem_map.mpr ⟨p q_.1, brange_mem hb_.1 (by omega), rfl⟩⟩
def bprs (G : bE) (f_ g_ : bF) : Option (List (Int × Int)) := match bpr G (bcb f_.2 g_.2) with
  | none => none
  | some ps_ => some (ps_.map (fun s_ => (f_.1 + s_.1, g_.1 + s_.2)))
theorem bprs_ok {G : bE} {p : Nat → Int} (hG : bok G p) {f_ g_ : bF} {ps_ : List (Int × Int)} (h : bprs G f_ g_ = some ps_) : (bfv p f_, bfv p g_) ∈ ps_ := by
  unfold bprs at h
  cases h1 : bpr G (bcb f_.2 g_.2) with
  | none => rw [h1] at h; cases h
  | some qs =>
    rw [h1] at h
    cases h
    have k_ := bpr_ok hG h1
    have e := bcb_ok p f_.2 g_.2
    rw [e.1, e.2] at k_
    exact List.mem_map.mpr ⟨_, k_, rfl⟩
def bisi (e : bN) : Bool := match e with
  | .inl _ => true
  | .inr _ => false
def bcp1 (I : Nat → Nat → Option bN) (G : bE) (ov : bO) (a_ m_ b_ k_ : Nat) (ps_ : List (Int × Int)) : Option (List (Nat × Nat)) := match ps_ with
  | [] => some []
  | s_ :: t_ => match (decide (0 ≤ s_.1) && decide (s_.1 < (m_ : Int))) && (decide (0 ≤ s_.2) && decide (s_.2 < (k_ : Int))) with
    | false => none
    | true => match bpl I G ov a_ s_.1.toNat with
      | none => none
      | some e => match bisi e && bfree I G ov e (b_, s_.2.toNat) with
        | false => none
        | true => match bcp1 I G ov a_ m_ b_ k_ t_ with
          | none => none
          | some r_ => some ((b_, s_.2.toNat) :: r_)
theorem bcp1_ok {I : Nat → Nat → Option bN} {G : bE} {ov : bO} {a_ m_ b_ k_ : Nat} : ∀ {ps_ : List (Int × Int)} {r_ : List (Nat × Nat)}, bcp1 I G ov a_ m_ b_ k_ ps_ = some r_ → (∀ s_ ∈ ps_, (0 ≤ s_.1 ∧ s_.1 < (m_ : Int)) ∧ (0 ≤ s_.2 ∧ s_.2 < (k_ : Int)) ∧ (b_, s_.2.toNat) ∈ r_ ∧ ∃ e, bpl I G ov a_ s_.1.toNat = some e ∧ bisi e = true ∧ bfree I G ov e (b_, s_.2.toNat) = true) ∧ ∀ q_ ∈ r_, ∃ e, bfree I G ov e q_ = true := by
  intro ps_
  induction ps_ with
  | nil =>
    intro r_ h
    cases h
    exact ⟨fun s_ hs => absurd hs List.not_mem_nil, fun q_ hq => absurd hq List.not_mem_nil⟩
  | cons y_ t_ ih_ =>
    intro r_ h
    simp only [bcp1] at h
    cases h1 : ((decide (0 ≤ y_.1) && decide (y_.1 < (m_ : Int))) && (decide (0 ≤ y_.2) && decide (y_.2 < (k_ : Int)))) with
    | false => rw [h1] at h; cases h
    | true =>
    rw [h1] at h
    simp only at h
    cases h2 : bpl I G ov a_ y_.1.toNat with
    | none => rw [h2] at h; cases h
    | some e =>
    rw [h2] at h
    simp only at h
    cases h3 : (bisi e && bfree I G ov e (b_, y_.2.toNat)) with
    | false => rw [h3] at h; cases h
    | true =>
    rw [h3] at h
    simp only at h
    cases h4 : bcp1 I G ov a_ m_ b_ k_ t_ with
    | none => rw [h4] at h; cases h
    | some w_ =>
    rw [h4] at h
    cases h
    simp only [Bool.and_eq_true, decide_eq_true_eq] at h1 h3
    obtain ⟨i1_, i2_⟩ := ih_ h4
    constructor
    · intro s_ hs
      rcases List.mem_cons.mp hs with rfl | hs
      · exact ⟨h1.1, h1.2, List.mem_cons_self, e, h2, h3.1, h3.2⟩
      · obtain ⟨j1, j2_, j3_, j4_⟩ := i1_ s_ hs
        exact ⟨j1, j2_, List.mem_cons_of_mem _ j3_, j4_⟩
    · intro q_ hq
      rcases List.mem_cons.mp hq with rfl | hq
      · exact ⟨e, h3.2⟩
      · exact i2_ q_ hq
noncomputable def bcpy (zf : Nat → Option (Nat × Nat)) (I : Nat → Nat → Option bN) (W : bW) (S_ : bT) : Option bT := match S_.2.2.2.1 with
  | some (.inl f_) :: va :: some (.inl g_) :: vb :: s_ => (match bcel va with
    | some [a_] => (match bcel vb with
      | some [b_] => (match zf a_ with
        | none => none
        | some z0 => match zf b_ with
          | none => none
          | some z1 => match Nat.beq z0.1 20 && Nat.beq z1.1 20 with
            | false => none
            | true => match bprs S_.1 f_ g_ with
              | none => none
              | some ps_ => match bcp1 I S_.1 S_.2.2.2.2 a_ z0.2 b_ z1.2 ps_ with
                | none => none
                | some r_ => match r_.all (fun q_ => biw W q_.1 q_.2) with
                  | false => none
                  | true => match r_ with
                    | [_] => none
                    | _ => some (S_.1, S_.2.1, S_.2.2.1, s_, S_.2.2.2.2.filter (fun q_ => !(bmem r_ q_.1))))
      | _ => none)
    | _ => none)
  | _ => none
def bisst (i_ : Instr) : Bool := match i_ with
  | .iastore => true
  | _ => false
/-- copied into an array of any numbers, anywhere: not place by place -/
noncomputable def bcwd (zf : Nat → Option (Nat × Nat)) (I : Nat → Nat → Option bN) (S_ : bT) : Bool := match S_.2.2.2.1 with
  | _ :: _ :: some (.inl g_) :: vb_ :: _ => match bcel vb_ with
    | some [b_] => match brg S_.1 g_ with
      | none => false
      | some r_ => match decide (r_.1 + 16 ≤ r_.2) with
        | false => false
        | true => match zf b_ with
          | none => false
          | some z_ => xfN z_.2 (bwn I b_)
    | _ => false
  | _ => false
noncomputable def bcpg (zf : Nat → Option (Nat × Nat)) (I : Nat → Nat → Option bN) (W : bW) (mi pc : Nat) (S_ : bT) : Option bT := match xcd mi (pc + 1) with
  | none => none
  | some e => match bisst e.1 with
    | false => none
    | true => match bcwd zf I S_ with
      | true => none
      | false => bcpy zf I W S_
section
variable {Z : List (Nat × Nat)} {I : Nat → Nat → Option bN} {W : bW} {p : Nat → Int} {mi pc : Nat} {e : Instr × Nat × List Nat} {G : bE} {n : Nat} {la : bL} {sa : List bV} {ov : bO} {lo : xL} {st : List Jvm.Term} {h : xH}
theorem bHr_weak2 (hG : bok G p) (g0 : bHr Z I p ov h) {i_ : Nat} {c_ : xC} {l : List Jvm.Term} {ps_ : List (Nat × Nat)} (hc_ : h[i_]? = some c_) (hl : l.length = c_.2.length) (hu : ∀ m_ u_, l[m_]? = some u_ → c_.2[m_]? = some u_ ∨ ((i_, m_) ∈ ps_ ∧ ∃ w_, bnv w_ u_ ∧ bfree I G ov w_ (i_, m_) = true)) (hf : ∀ q_ ∈ ps_, ∃ w_, bfree I G ov w_ q_ = true) : bHr Z I p (ov.filter (fun r_ => !(bmem ps_ r_.1))) (h.set i_ (c_.1, l)) := by
  have hi_ : i_ < h.length := (List.getElem?_eq_some_iff.mp hc_).1
  refine ⟨by rw [List.length_set]; exact g0.1, fun k_ q_ hq => ?_⟩
  obtain ⟨c', c1_, c2_, c3_, c4_⟩ := g0.2 k_ q_ hq
  have keep_ : ∀ m_ u_, c'.2[m_]? = some u_ → (match blo (ov.filter (fun r_ => !(bmem ps_ r_.1))) k_ m_ with
    | some v_ => bga p v_ u_
    | none => ∃ b_, I k_ m_ = some b_ ∧ bnv b_ u_) := by
    intro m_ u_ hu
    have k4_ := c4_ m_ u_ hu
    cases hb_ : bmem ps_ (k_, m_) with
    | true =>
      rw [blo_filf (g_ := fun q_ => !(bmem ps_ q_)) (by simp only [hb_, Bool.not_true])]
      obtain ⟨r_, hr, hb_⟩ := List.any_eq_true.mp hb_
      simp only [Bool.and_eq_true] at hb_
      have e1_ : r_ = (k_, m_) := by
        obtain ⟨r1_, r2⟩ := r_
        have f1_ : r1_ = k_ := Nat.eq_of_beq_eq_true hb_.1
        have f2_ : r2 = m_ := Nat.eq_of_beq_eq_true hb_.2
        rw [f1_, f2_]
      rw [e1_] at hr
      obtain ⟨w_, hw⟩ := hf _ hr
      obtain ⟨b_, b1, -, b3⟩ := bfree_ok hG hw
      exact ⟨b_, b1, b3 u_ k4_⟩
    | false =>
      rw [blo_filt (g_ := fun q_ => !(bmem ps_ q_)) (by simp only [hb_, Bool.not_false])]
      exact k4_
  by_cases hk : k_ = i_
  · subst hk
    rw [hc_] at c1_
    cases c1_
    refine ⟨(c_.1, l), by rw [List.getElem?_set_self hi_], c2_, by rw [← c3_]; exact hl, fun m_ u_ hm_ => ?_⟩
    rcases hu m_ u_ hm_ with h1 | ⟨h1, w_, h2, h3⟩
    · exact keep_ m_ u_ h1
    · have hb_ : bmem ps_ (k_, m_) = true := List.any_eq_true.mpr ⟨_, h1, by simp⟩
      rw [blo_filf (g_ := fun q_ => !(bmem ps_ q_)) (by simp only [hb_, Bool.not_true])]
      obtain ⟨b_, b1, b2, -⟩ := bfree_ok hG h3
      exact ⟨b_, b1, b2 u_ h2⟩
  · exact ⟨c', by rw [List.getElem?_set_ne (fun q_ => hk q_.symm)]; exact c1_, c2_, c3_, keep_⟩
set_option maxHeartbeats 4000000 in
theorem bcpg_ok (hZ : Z.length = 354) {zf : Nat → Option (Nat × Nat)} (hz : ∀ a_ z_, zf a_ = some z_ → xhg Z a_ = some z_) {ln : Nat} {ax : List Nat} {S_ J_ : bT} (hcd : xcd mi pc = some (.iaload, ln, ax)) (R : bR Z I p S_ lo st h) (hs : bcpg zf I W mi pc S_ = some J_) : ∃ st' h', S_.2.1 = J_.2.1 ∧ bR Z I p J_ lo st' h' ∧ bfr W h h' ∧ ∀ d_, bld d_ mi pc lo st h (pc + 1 + 1) lo st' h' := by
  obtain ⟨G, n, la, sa, ov⟩ := S_
  unfold bcpg at hs
  cases hc2 : xcd mi (pc + 1) with
  | none => rw [hc2] at hs; cases hs
  | some e2_ =>
  rw [hc2] at hs
  simp only at hs
  cases hi2 : bisst e2_.1 with
  | false => rw [hi2] at hs; cases hs
  | true =>
  rw [hi2] at hs
  simp only at hs
  cases hg9_ : bcwd zf I (G, n, la, sa, ov) with
  | true => rw [hg9_] at hs; cases hs
  | false =>
  rw [hg9_] at hs
  simp only [bcpy] at hs
  split at hs
  · rename_i f_ va g_ vb s_
    split at hs
    · rename_i a_ ha_
      split at hs
      · rename_i b_ hb_
        cases hz0 : zf a_ with
        | none => rw [hz0] at hs; cases hs
        | some z0 =>
        rw [hz0] at hs
        simp only at hs
        cases hz1 : zf b_ with
        | none => rw [hz1] at hs; cases hs
        | some z1 =>
        rw [hz1] at hs
        simp only at hs
        cases hk : (Nat.beq z0.1 20 && Nat.beq z1.1 20) with
        | false => rw [hk] at hs; cases hs
        | true =>
        rw [hk] at hs
        simp only at hs
        cases hp : bprs G f_ g_ with
        | none => rw [hp] at hs; cases hs
        | some ps_ =>
        rw [hp] at hs
        simp only at hs
        cases hr : bcp1 I G ov a_ z0.2 b_ z1.2 ps_ with
        | none => rw [hr] at hs; cases hs
        | some r_ =>
        rw [hr] at hs
        simp only at hs
        cases hbw : r_.all (fun q_ => biw W q_.1 q_.2) with
        | false => rw [hbw] at hs; cases hs
        | true =>
        rw [hbw] at hs
        simp only at hs
        split at hs
        · cases hs
        · cases hs
          simp only [Bool.and_eq_true] at hk
          obtain ⟨t_, s', rfl⟩ := bR_top R
          obtain ⟨R1, -, x_, rfl, hx⟩ := bR_pop R
          obtain ⟨t2_, s', rfl⟩ := bR_top R1
          obtain ⟨R2, -, g2⟩ := bR_pop R1
          obtain ⟨t3_, s', rfl⟩ := bR_top R2
          obtain ⟨R3, -, y_, rfl, hy⟩ := bR_pop R2
          obtain ⟨t4_, s', rfl⟩ := bR_top R3
          obtain ⟨R4, -, g4⟩ := bR_pop R3
          obtain ⟨a', ha', rfl⟩ := bcel_ok ha_ g2
          have ea := List.mem_singleton.mp ha'
          subst ea
          obtain ⟨b', hb', rfl⟩ := bcel_ok hb_ g4
          have eb := List.mem_singleton.mp hb'
          subst eb
          obtain ⟨c0_, c01, c02, c03, c04, c05⟩ := bR_cell R4 (hz _ _ hz0)
          obtain ⟨c1_, c11_, c12_, c13_, c14_, c15_⟩ := bR_cell R4 (hz _ _ hz1)
          have r1_ := R4.1
          obtain ⟨i1_, i2_⟩ := bcp1_ok hr
          obtain ⟨j1, j2_, j3_, ee, j4_, j5_, j6_⟩ := i1_ _ (bprs_ok r1_ hp)
          rw [← hx] at j1 j4_
          rw [← hy] at j2_ j3_ j6_
          have hlt0 : x_.toInt.toNat < c0_.2.length := by omega
          have hlt1 : y_.toInt.toNat < c1_.2.length := by omega
          have ht := List.getElem?_eq_getElem hlt0
          have hv := bpl_ok r1_ c04 ht j4_
          have hint : ∃ w_ : Int32, c0_.2[x_.toInt.toNat] = .int w_ := by
            cases ee with
            | inl bb =>
              obtain ⟨w_, w1_, -, -⟩ := hv
              exact ⟨w_, w1_⟩
            | inr ll => cases j5_
          obtain ⟨w_, hw⟩ := hint
          rw [hw] at ht hv
          have hx0 : xix (.int x_) c0_.2.length = some x_.toInt.toNat := xix_at j1.1 (by omega)
          have hx1 : xix (.int y_) c1_.2.length = some y_.toInt.toNat := xix_at j2_.1 (by omega)
          have k0_ : Nat.beq c0_.1 20 = true := by rw [c02]; exact hk.1
          have k1_ : Nat.beq c1_.1 20 = true := by rw [c12_]; exact hk.2
          obtain ⟨s1_, s2_, s3_, s4_, s5, s6_, s7, s8, s9, sx⟩ := R4
          have hlen : h.length = 354 := s8.1.trans hZ
          have hH : bHr Z I p (ov.filter (fun q_ => !(bmem r_ q_.1))) (h.set b' (c1_.1, c1_.2.set y_.toInt.toNat (.int w_))) := bHr_weak2 r1_ s8 c11_ (by rw [List.length_set]) (fun m_ u_ hu => by
            by_cases hmj : m_ = y_.toInt.toNat
            · subst hmj
              rw [List.getElem?_set_self hlt1] at hu
              cases hu
              exact Or.inr ⟨j3_, ee, hv, j6_⟩
            · rw [List.getElem?_set_ne (fun q_ => hmj q_.symm)] at hu
              exact Or.inl hu) i2_
          refine ⟨s', h.set b' (c1_.1, c1_.2.set y_.toInt.toNat (.int w_)), rfl, ⟨s1_, s2_, s3_, s4_, bOl_filter s5, s6_, s7, hH, xhw_set s9 (xokc_set s9 c11_ (by rw [hlen]; rfl)), sx⟩, bfr_set1 c11_ (List.all_eq_true.mp hbw _ j3_), ?_⟩
          obtain ⟨in2, ln2, ax2⟩ := e2_
          cases in2 <;> first | (cases hi2; done) | skip
          intro d_ o H_
          refine xrun_step hcd rfl (pc' := pc + 1) (lo' := lo) (st' := .int w_ :: .int y_ :: .index b' :: s') (h' := h) (fun kk => ?_) (xrun_step hc2 rfl (pc' := pc + 1 + 1) (lo' := lo) (st' := s') (h' := h.set b' (c1_.1, c1_.2.set y_.toInt.toNat (.int w_))) (fun kk => ?_) H_)
          · simp only [xsp, xhg_eq, c01, k0_, cond_true, hx0, ht, xI, xpu, xfT_eq, xfN_eq]
          · simp only [xsp, xhg_eq, c11_, k1_, xI, Bool.and_self, cond_true, hx1, xst_eq, xfN_eq]
      · cases hs
    · cases hs
  · cases hs
end
