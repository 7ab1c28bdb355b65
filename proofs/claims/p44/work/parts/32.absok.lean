-- ===== what the abstract interpreter says
def bRt (Z : List (Nat × Nat)) (I : Nat → Nat → Option bN) (p : Nat → Int) (r_ : bRet) (t_ : Option Jvm.Term) (h : xH) : Prop := bok r_.2.1 p ∧ bltE r_.2.2.1 r_.2.1 = true ∧ bOl r_.2.2.1 r_.2.2.2.2.2 = true ∧ bHr Z I p r_.2.2.2.2.2 h ∧ xhw h ∧ (match r_.1 with
  | none => t_ = none
  | some v_ => ∃ u_, t_ = some u_ ∧ bga p v_ u_ ∧ bvl r_.2.2.1 v_ = true)
def bldD (d_ mi pc : Nat) (lo : xL) (st : List Jvm.Term) (h : xH) (pc' : Nat) (lo' : xL) (st' : List Jvm.Term) (h' : xH) : Prop := ∀ D_, d_ ≤ D_ → bld D_ mi pc lo st h pc' lo' st' h'
def bEnd (Z : List (Nat × Nat)) (I : Nat → Nat → Option bN) (W : bW) (p : Nat → Int) (nb d_ mi pc : Nat) (lo : xL) (st : List Jvm.Term) (h : xH) (ss : List bQ) (rs : List bRet) : Prop :=
  (∃ q_ ∈ ss, ∃ p' lo' st' h', (∀ v_, v_ < nb → p' v_ = p v_) ∧ nb ≤ q_.2.2.1 ∧ bR Z I p' q_.2 lo' st' h' ∧ bfr W h h' ∧ bldD d_ mi pc lo st h q_.1 lo' st' h') ∨
  (∃ r_ ∈ rs, ∃ p' t_ h', (∀ v_, v_ < nb → p' v_ = p v_) ∧ nb ≤ r_.2.2.1 ∧ bRt Z I p' r_ t_ h' ∧ bfr W h h' ∧ ∀ D_, d_ ≤ D_ → xrun D_ mi pc lo st h (t_, h', []))
/-- what such a runner says is right -/
def bFo (Z : List (Nat × Nat)) (I : Nat → Nat → Option bN) (X_ : xH → Prop) (W : bW) (d_ mi : Nat) (F_ : bF4) : Prop := ∀ stops nb pc Ss r_, F_ stops nb pc Ss = some r_ → ∀ S_ ∈ Ss, nb ≤ S_.2.1 → ∀ p lo st h, bR Z I p S_ lo st h → X_ h → bEnd Z I W p nb d_ mi pc lo st h r_.1 r_.2
section
variable {Z : List (Nat × Nat)} {I : Nat → Nat → Option bN} {X_ : xH → Prop} {W : bW} {p p1_ : Nat → Int} {nb n0_ n1_ d_ mi pc pc1 m_ : Nat} {lo lo1 : xL} {st st1_ : List Jvm.Term} {h h1 : xH} {ss ss1 : List bQ} {rs rs1 : List bRet} {jn : Nat → List bT → List bT} {gm_ : Nat → bT → bT → bG} {F_ : bF4} {stops : List Nat}
theorem bEnd_led (hag : ∀ v_, v_ < nb → p1_ v_ = p v_) (hn : nb ≤ n1_) (hf : bfr W h h1) (hl : bldD d_ mi pc lo st h pc1 lo1 st1_ h1) (hs : ∀ q_ ∈ ss, q_ ∈ ss1) (hr : ∀ r_ ∈ rs, r_ ∈ rs1) (H_ : bEnd Z I W p1_ n1_ d_ mi pc1 lo1 st1_ h1 ss rs) : bEnd Z I W p nb d_ mi pc lo st h ss1 rs1 := by
  rcases H_ with ⟨q_, k_, p', lo', st', h', a1_, a2, a3, a5, a4⟩ | ⟨r_, k_, p', t_, h', a1_, a2, a3, a5, a4⟩
  · exact Or.inl ⟨q_, hs q_ k_, p', lo', st', h', fun v_ hv => (a1_ v_ (by omega)).trans (hag v_ hv), by omega, a3, bfr_tt hf a5, fun D_ hD => bld_tt (hl D_ hD) (a4 D_ hD)⟩
  · exact Or.inr ⟨r_, hr r_ k_, p', t_, h', fun v_ hv => (a1_ v_ (by omega)).trans (hag v_ hv), by omega, a3, bfr_tt hf a5, fun D_ hD => hl D_ hD _ (a4 D_ hD)⟩
theorem bEnd_up (hn : nb ≤ n0_) (H_ : bEnd Z I W p n0_ d_ mi pc lo st h ss rs) : bEnd Z I W p nb d_ mi pc lo st h ss rs := bEnd_led (fun _ _ => rfl) hn bfr_rfl (fun _ _ _ H_ => H_) (fun _ q_ => q_) (fun _ q_ => q_) H_
theorem bcov_ok {js Ss : List bT} {S_ : bT} (R : bR Z I p S_ lo st h) (hm_ : S_ ∈ Ss) (hc_ : bcov I gm_ n0_ Ss js = true) : ∃ J_ ∈ js, n0_ ≤ J_.2.1 ∧ ∃ p', (∀ v_, v_ < n0_ → p' v_ = p v_) ∧ bR Z I p' J_ lo st h := by
  obtain ⟨J_, hJ, k_⟩ := List.any_eq_true.mp (List.all_eq_true.mp hc_ S_ hm_)
  simp only [Bool.and_eq_true] at k_
  exact ⟨J_, hJ, Nat.le_of_ble_eq_true k_.1, _, bsu_lt, bmS_ok R k_.2⟩
theorem bat_mem {q_ : bQ} {l : List bQ} (hq : q_ ∈ l) (e : q_.1 = m_) : q_.2 ∈ bat m_ l := List.mem_map.mpr ⟨q_, List.mem_filter.mpr ⟨hq, by rw [e]; simp⟩, rfl⟩
theorem bnat_mem {q_ : bQ} {l : List bQ} (hq : q_ ∈ l) (e : ¬ q_.1 = m_) : q_ ∈ bnat m_ l := List.mem_filter.mpr ⟨hq, by
  have : Nat.beq q_.1 m_ = false := by
    cases e1_ : Nat.beq q_.1 m_ with
    | false => rfl
    | true => exact absurd (Nat.eq_of_beq_eq_true e1_) e
  rw [this]
  rfl⟩
theorem bcont_ok {G : List bT → Option bRs} {r_ y_ : bRs} (hX : ∀ h h', bfr W h h' → X_ h → X_ h') (hx : X_ h) (HG : ∀ Ss r_, G Ss = some r_ → ∀ S_ ∈ Ss, n0_ ≤ S_.2.1 → ∀ p lo st h, bR Z I p S_ lo st h → X_ h → bEnd Z I W p n0_ d_ mi m_ lo st h r_.1 r_.2) (E_ : bEnd Z I W p n0_ d_ mi pc lo st h r_.1 r_.2) (hs : bcont I jn gm_ n0_ m_ stops G r_ = some y_) : bEnd Z I W p n0_ d_ mi pc lo st h y_.1 y_.2 := by
  unfold bcont at hs
  cases hm_ : stops.any (Nat.beq m_) with
  | true => rw [hm_] at hs; cases hs; exact E_
  | false =>
  rw [hm_] at hs
  simp only at hs
  cases hb_ : bat m_ r_.1 with
  | nil => rw [hb_] at hs; cases hs; exact E_
  | cons S0_ T0_ =>
  rw [hb_] at hs
  simp only at hs
  simp only [bfL_eq bfS_eq] at hs
  cases hc_ : bcov I gm_ n0_ (S0_ :: T0_) (jn n0_ (S0_ :: T0_)) with
  | false => rw [hc_] at hs; cases hs
  | true =>
  rw [hc_] at hs
  simp only at hs
  cases hF : G (jn n0_ (S0_ :: T0_)) with
  | none => rw [hF] at hs; cases hs
  | some w_ =>
  rw [hF] at hs
  cases hs
  rcases E_ with ⟨q_, hq, p', lo', st', h', a1_, a2, a3, a5, a4⟩ | ⟨r0, hr, p', t_, h', a1_, a2, a3, a5, a4⟩
  · by_cases hqm : q_.1 = m_
    · have hin : q_.2 ∈ S0_ :: T0_ := by rw [← hb_]; exact bat_mem hq hqm
      obtain ⟨J_, hJ, b1, p2_, b2, b3⟩ := bcov_ok a3 hin hc_
      have E2 := HG _ _ hF J_ hJ b1 p2_ lo' st' h' b3 (hX _ _ a5 hx)
      rw [hqm] at a4
      exact bEnd_led (fun v_ hv => (b2 v_ hv).trans (a1_ v_ hv)) (Nat.le_refl _) a5 a4 (fun _ k_ => List.mem_append.mpr (Or.inr k_)) (fun _ k_ => List.mem_append.mpr (Or.inr k_)) E2
    · exact Or.inl ⟨q_, List.mem_append.mpr (Or.inl (bnat_mem hq hqm)), p', lo', st', h', a1_, a2, a3, a5, a4⟩
  · exact Or.inr ⟨r0, List.mem_append.mpr (Or.inl hr), p', t_, h', a1_, a2, a3, a5, a4⟩
theorem bgo1_ok {qs : List bQ} {q_ : bQ} {y_ : bRs} {lo' : xL} {st' : List Jvm.Term} {h' : xH} {p' : Nat → Int} (hX : ∀ h h', bfr W h h' → X_ h → X_ h') (hx : X_ h) (HF : bFo Z I X_ W d_ mi F_) (hn : nb ≤ n0_) (hq : q_ ∈ qs) (a1_ : ∀ v_, v_ < n0_ → p' v_ = p v_) (a2 : n0_ ≤ q_.2.2.1) (a3 : bR Z I p' q_.2 lo' st' h') (a5 : bfr W h h') (a4 : bldD d_ mi pc lo st h q_.1 lo' st' h') (hs : bgo1 I jn gm_ n0_ nb m_ stops F_ qs = some y_) : bEnd Z I W p nb d_ mi pc lo st h y_.1 y_.2 := by
  unfold bgo1 at hs
  split at hs
  · rename_i q1_
    have e1_ := List.mem_singleton.mp hq
    subst e1_
    have E_ := HF _ _ _ _ _ hs q_.2 List.mem_cons_self (by omega) p' lo' st' h' a3 (hX _ _ a5 hx)
    exact bEnd_led (fun v_ hv => a1_ v_ (by omega)) (Nat.le_refl _) a5 a4 (fun _ k_ => k_) (fun _ k_ => k_) E_
  · cases hc_ : bcol (fun q_ : bQ => F_ (m_ :: stops) n0_ q_.1 [q_.2]) qs with
    | none => rw [hc_] at hs; cases hs
    | some w_ =>
    rw [hc_] at hs
    simp only at hs
    obtain ⟨z_, z1, z2, z3⟩ := bcol_ok hc_ q_ hq
    have E1_ := HF (m_ :: stops) n0_ q_.1 [q_.2] z_ z1 q_.2 List.mem_cons_self a2 p' lo' st' h' a3 (hX _ _ a5 hx)
    have E2 : bEnd Z I W p n0_ d_ mi pc lo st h w_.1 w_.2 := bEnd_led a1_ (Nat.le_refl _) a5 a4 z2 z3 E1_
    exact bEnd_up hn (bcont_ok hX hx (fun Ss r_ hr => HF stops n0_ m_ Ss r_ hr) E2 hs)
theorem blk_app {G G' : bE} {v_ : Nat} : blk (G ++ G') v_ = match blk G v_ with
    | some b_ => some b_
    | none => blk G' v_ := by
  induction G with
  | nil => rfl
  | cons q_ t_ ih_ =>
    simp only [List.cons_append, blk]
    cases e : Nat.beq q_.1 v_ with
    | true => rfl
    | false => exact ih_
theorem bok_app {G G' : bE} (h1 : bok G p) (h2 : bok G' p) : bok (G ++ G') p := by
  intro v_ l u_ hb_
  rw [blk_app] at hb_
  cases e : blk G v_ with
  | some b_ =>
    rw [e] at hb_
    cases hb_
    exact h1 v_ l u_ e
  | none =>
    rw [e] at hb_
    exact h2 v_ l u_ hb_
theorem bltE_app {n : Nat} {G G' : bE} (h1 : bltE n G = true) (h2 : bltE n G' = true) : bltE n (G ++ G') = true := by
  unfold bltE at h1 h2 ⊢
  rw [List.all_append, h1, h2]
  rfl
theorem bcl_ok {G : bE} {n : Nat} {la : bL} {sa s_ : List bV} {ov : bO} {s' : List Jvm.Term} {y_ : bRet} {tv : Option Jvm.Term} (R : bR Z I p (G, n, la, sa, ov) lo st h) (hl : bSl n s_ = true) (k_ : bSr p s_ s') (hxo : xok 354 lo s' = true) (b1 : ∀ v_, v_ < n → p1_ v_ = p v_) (b2 : n ≤ y_.2.2.1) (b3 : bRt Z I p1_ y_ tv h1) : bR Z I p1_ (bcl G la s_ y_) lo (xpr tv s') h1 := by
  obtain ⟨r1_, r2, r3, r4, r5_, r6, r7, r8, r9, rx_⟩ := R
  obtain ⟨q1_, q2_, q3_, q4_, q5_, q6_⟩ := b3
  have hs1 : bSl y_.2.2.1 s_ = true := bSl_up b2 hl
  have hs2 : bSr p1_ s_ s' := bSr_ag b1 hl k_
  obtain ⟨yv, yS⟩ := y_
  cases yv with
  | none =>
    simp only at q6_
    subst q6_
    exact ⟨bok_app q1_ (bok_ag b1 r2 r1_), bltE_app q2_ (bltE_up b2 r2), bLl_up b2 r3, hs1, q3_, bLr_ag b1 r3 r6, hs2, q4_, q5_, hxo⟩
  | some u_ =>
    obtain ⟨w_, rfl, g1, g2⟩ := q6_
    refine ⟨bok_app q1_ (bok_ag b1 r2 r1_), bltE_app q2_ (bltE_up b2 r2), bLl_up b2 r3, ?_, q3_, bLr_ag b1 r3 r6, ⟨g1, hs2⟩, q4_, q5_, ?_⟩
    · unfold bSl
      simp only [bcl, List.all_cons, Bool.and_eq_true]
      exact ⟨g2, hs1⟩
    · unfold xok at hxo ⊢
      simp only [xpr, List.all_cons, Bool.and_eq_true] at hxo ⊢
      exact ⟨hxo.1, bga_x g1, hxo.2⟩
theorem bret_ok {G0_ : bE} {la : bL} {s_ : List bV} {y_ : bRet} {w_ : bRs} (hx1 : X_ h1) (HF : bFo Z I X_ W d_ mi F_) (hn : nb ≤ n0_) (ym : y_ ∈ rs) (Rc : bR Z I p1_ (bcl G0_ la s_ y_) lo st1_ h1) (b1 : ∀ v_, v_ < n0_ → p1_ v_ = p v_) (hf : bfr W h h1) (hl : bldD d_ mi pc lo st h (pc + 3) lo st1_ h1) (hs : bret I jn gm_ n0_ pc stops F_ G0_ la s_ rs = some w_) : bEnd Z I W p nb d_ mi pc lo st h w_.1 w_.2 := by
  unfold bret at hs
  simp only [bfL_eq bfS_eq] at hs
  cases hc_ : bcov I gm_ n0_ (rs.map (bcl G0_ la s_)) (jn n0_ (rs.map (bcl G0_ la s_))) with
  | false => rw [hc_] at hs; cases hs
  | true =>
  rw [hc_] at hs
  simp only at hs
  obtain ⟨J_, hJ, j1, p2_, j2_, j3_⟩ := bcov_ok Rc (List.mem_map.mpr ⟨y_, ym, rfl⟩) hc_
  have E_ := HF _ _ _ _ _ hs J_ hJ j1 p2_ lo st1_ h1 j3_ hx1
  exact bEnd_up hn (bEnd_led (fun v_ hv => (j2_ v_ hv).trans (b1 v_ hv)) (Nat.le_refl _) hf hl (fun _ k_ => k_) (fun _ k_ => k_) E_)
theorem bR_e {G : bE} {n w_ : Nat} {la : bL} {sa : List bV} {ov : bO} {b_ : bN} {t_ : Jvm.Term} (R : bR Z I p (G, n, la, sa, ov) lo st h) (k_ : bnv b_ t_) : ∃ p', (∀ v_, v_ < n → p' v_ = p v_) ∧ n ≤ (bpush pc w_ G n la sa ov b_).2.2.1 ∧ bR Z I p' (bpush pc w_ G n la sa ov b_).2 lo (t_ :: st) h := by
  rcases b_ with b_ | l
  · obtain ⟨x_, rfl, x2_, x3⟩ := k_
    cases hb_ : decide (b_.1 = b_.2) with
    | true =>
      have e1_ : bpush pc w_ G n la sa ov (.inl b_) = (pc + w_, G, n, la, some (.inl (bcn b_.1)) :: sa, ov) := by simp only [bpush, hb_]
      rw [e1_]
      have hb_ := of_decide_eq_true hb_
      exact ⟨p, fun _ _ => rfl, Nat.le_refl _, bR_push R rfl ⟨x_, rfl, by simp only [bfv, bcn, bsm]; omega⟩⟩
    | false =>
      have e1_ : bpush pc w_ G n la sa ov (.inl b_) = (pc + w_, (n, b_.1, b_.2) :: G, n + 1, la, some (.inl (bvr n)) :: sa, ov) := by simp only [bpush, hb_]
      rw [e1_]
      exact ⟨bup p n x_.toInt, fun v_ hv => bup_ne (by omega), Nat.le_succ _, bR_push (bR_new R x2_ x3) bvr_l ⟨x_, rfl, bvr_v.symm⟩⟩
  · exact ⟨p, fun _ _ => rfl, Nat.le_refl _, bR_push R rfl k_⟩
theorem bHr_keep {ov : bO} {V : bW} (g_ : bHr Z I p ov h) (g' : bHr Z I (fun _ => 0) [] h1) (hf : bfr V h h1) : bHr Z I p (ov.filter (fun r_ => !(biw V r_.1.1 r_.1.2))) h1 := by
  refine ⟨g'.1, fun i_ q_ hq => ?_⟩
  obtain ⟨c_, c1_, c2_, c3_, c4_⟩ := g'.2 i_ q_ hq
  refine ⟨c_, c1_, c2_, c3_, fun j_ t_ ht => ?_⟩
  have k' : ∃ e, I i_ j_ = some e ∧ bnv e t_ := c4_ j_ t_ ht
  cases hb_ : biw V i_ j_ with
  | true =>
    rw [blo_filf (g_ := fun q_ => !(biw V q_.1 q_.2)) (by simp only [hb_, Bool.not_true])]
    exact k'
  | false =>
    rw [blo_filt (g_ := fun q_ => !(biw V q_.1 q_.2)) (by simp only [hb_, Bool.not_false])]
    cases e : blo ov i_ j_ with
    | none => exact k'
    | some v_ =>
      obtain ⟨c', d1_, d2_, d3_, d4_⟩ := g_.2 i_ q_ hq
      have e1_ := hf i_ j_ hb_
      rw [bpat_at c1_, bpat_at d1_] at e1_
      have k_ := d4_ j_ t_ (e1_.symm.trans ht)
      rw [e] at k_
      exact k_
theorem bconn_ok {c_ : bC} {d' : Nat} {S_ : bT} {s_ : List bV} {s' ts : List Jvm.Term} {w_ : bRs} (hX : ∀ h h', bfr W h h' → X_ h → X_ h') (hx : X_ h) (HF : bFo Z I X_ W (d' + 1) mi F_) (hc_ : bcon Z I X_ c_) (R : bR Z I p S_ lo st h) (pre_ : bPs c_.2.1 ts) (hpp : bHp h (bcP c_)) (hl : bSl S_.2.1 s_ = true) (k_ : bSr p s_ s') (hxo : xok 354 lo s' = true)
    (hstep : ∀ D_ t_ h', d' ≤ D_ → xrun D_ c_.1 0 (xal 0 ts) [] h (t_, h', []) → ∀ o, xrun (D_ + 1) mi (pc + 3) lo (xpr t_ s') h' o → xrun (D_ + 1) mi pc lo st h o) (hn : nb ≤ S_.2.1) (hs : bconn I W F_ c_ d' pc nb stops S_ s_ = some w_) : bEnd Z I W p nb (d' + 1) mi pc lo st h w_.1 w_.2 := by
  obtain ⟨G, n, la, sa, ov⟩ := S_
  unfold bconn at hs
  simp only at hs hl hn
  cases hk : ((Nat.ble (bcD c_) d' && bws c_.2.2.2.1 W) && bnew I G ov) with
  | false => rw [hk] at hs; cases hs
  | true =>
  rw [hk] at hs
  simp only [bfS_eq] at hs
  simp only [Bool.and_eq_true] at hk
  obtain ⟨r1_, r2, r3, r4, r5_, r6, r7, r8, r9, rx_⟩ := R
  obtain ⟨t_, h', c1_, c2_, c3_, c4_, c5_⟩ := hc_ h ts ⟨bHr_dropn r1_ hk.2 r8, r9⟩ hx pre_ hpp
  have hfr : bfr W h h' := fun i_ j_ hi_ => c3_ i_ j_ (bws_ok hk.1.2 hi_)
  have hH := bHr_keep r8 c2_.1 c3_
  have R' : bR Z I p (G, n, la, s_, ov.filter (fun r_ => !(biw c_.2.2.2.1 r_.1.1 r_.1.2))) lo s' h' := ⟨r1_, r2, r3, hl, bOl_filter r5_, r6, k_, hH, c2_.2, hxo⟩
  have hdc := Nat.le_of_ble_eq_true hk.1.1
  have hld : bldD (d' + 1) mi pc lo st h (pc + 3) lo (xpr t_ s') h' := fun D_ hD o H_ => by
    obtain ⟨D', rfl⟩ : ∃ D', D_ = D' + 1 := ⟨D_ - 1, by omega⟩
    exact hstep D' t_ h' (by omega) (c1_ D' (by omega)) o H_
  cases ha_ : c_.2.2.1 with
  | none =>
    rw [ha_] at hs c4_
    have c4_ : t_ = none := c4_
    subst c4_
    obtain ⟨p2_, e1_, e2_, e3_⟩ := bnot_ok R' c5_
    have e2_ : n ≤ (bnot (bcQ c_) (G, n, la, s_, ov.filter (fun r_ => !(biw c_.2.2.2.1 r_.1.1 r_.1.2)))).2.1 := e2_
    have e1_ : ∀ v_, v_ < n → p2_ v_ = p v_ := e1_
    have E_ := HF _ _ _ _ _ hs _ List.mem_cons_self (by omega) p2_ lo s' h' e3_ (hX _ _ hfr hx)
    exact bEnd_led (fun v_ hv => e1_ v_ (by omega)) (Nat.le_refl _) hfr hld (fun _ q_ => q_) (fun _ q_ => q_) E_
  | some b_ =>
    rw [ha_] at hs c4_
    obtain ⟨u_, rfl, hu⟩ := c4_
    obtain ⟨p2_, e1_, e2_, e3_⟩ := bR_e (pc := pc) (w_ := 3) R' hu
    obtain ⟨p3_, e4_, e5_, e6_⟩ := bnot_ok e3_ c5_
    have E_ := HF _ _ _ _ _ hs _ List.mem_cons_self (by omega) p3_ lo _ h' e6_ (hX _ _ hfr hx)
    exact bEnd_led (fun v_ hv => (e4_ v_ (by omega)).trans (e1_ v_ (by omega))) (Nat.le_refl _) hfr hld (fun _ q_ => q_) (fun _ q_ => q_) E_
def bmz (up_ : Bool) (l u_ x_ : Int) : Nat := match up_ with
  | true => (u_ - x_).toNat
  | false => (x_ - l).toNat
/-- a loop, by its turns -/
theorem bloop_ok {o : Option Nat} {v_ : Nat} {up_ : Bool} {J_ : bT} {r_ : bRs} (hJ : n0_ ≤ J_.2.1) (hv : n0_ ≤ v_) (hb_ : bhasv J_ v_ = true) (hX : ∀ h h', bfr W h h' → X_ h → X_ h') (hx : X_ h) (hbody : ∀ p lo st h, bR Z I p (bldg o v_ J_).1 lo st h → X_ h → bEnd Z I W p (bldg o v_ J_).1.2.1 d_ mi pc lo st h r_.1 r_.2) (hback : (bat pc r_.1).all (bback I gm_ n0_ v_ up_ (bldg o v_ J_).2 J_) = true) (R : bR Z I p J_ lo st h) : bEnd Z I W p n0_ d_ mi pc lo st h (bnat pc r_.1) r_.2 := by
  unfold bhasv at hb_
  cases hbv : blk J_.1 v_ with
  | none => rw [hbv] at hb_; cases hb_
  | some lu =>
  obtain ⟨l, u_⟩ := lu
  have key_ : ∀ k_ : Nat, ∀ (p : Nat → Int) (lo : xL) (st : List Jvm.Term) (h : xH), bR Z I p J_ lo st h → X_ h → bmz up_ l u_ (p v_) < k_ → bEnd Z I W p n0_ d_ mi pc lo st h (bnat pc r_.1) r_.2 := by
    intro k_
    induction k_ with
    | zero => intro p lo st h _ _ hk; exact absurd hk (Nat.not_lt_zero _)
    | succ k_ ih_ =>
      intro p lo st h R hx hk
      obtain ⟨p0_, y1, y2, y3, y4, y5⟩ := bldg_ok (o := o) R (blk_lt R.2.1 hbv)
      rcases hbody p0_ lo st h y3 hx with ⟨q_, hq, p', lo', st', h', a1_, a2, a3, a5, a4⟩ | ⟨r0, hr, p', t_, h', a1_, a2, a3, a5, a4⟩
      · by_cases hqm : q_.1 = pc
        · have hB_ := List.all_eq_true.mp hback _ (bat_mem hq hqm)
          unfold bback at hB_
          simp only [Bool.and_eq_true] at hB_
          obtain ⟨h1, h2⟩ := hB_
          have R2 := bmS_ok a3 h1
          cases hf : blF (gm_ n0_ q_.2 J_) v_ with
          | none => rw [hf] at h2; cases h2
          | some f_ =>
          rw [hf] at h2
          simp only at h2
          cases hg : brg q_.2.1 (bsub f_ (bldg o v_ J_).2) with
          | none => rw [hg] at h2; cases h2
          | some g_ =>
          rw [hg] at h2
          simp only at h2
          have e1_ : bsu p' n0_ (gm_ n0_ q_.2 J_) v_ = bfv p' f_ := bsu_at (Nat.ble_eq_true_of_le hv) hf
          have e2_ := brg_ok a3.1 (a := g_.1) (b := g_.2) hg
          rw [bsub_ok] at e2_
          have e4_ : bfv p' (bldg o v_ J_).2 = p v_ := (bfv_ag a1_ y5).trans y4
          have b2 := R2.1 v_ l u_ hbv
          have b1 := R.1 v_ l u_ hbv
          have hlt : bmz up_ l u_ (bsu p' n0_ (gm_ n0_ q_.2 J_) v_) < k_ := by
            cases up_ with
            | true =>
              have h2 := of_decide_eq_true h2
              simp only [bmz] at hk ⊢
              omega
            | false =>
              have h2 := of_decide_eq_true h2
              simp only [bmz] at hk ⊢
              omega
          have E2 := ih_ _ lo' st' h' R2 (hX _ _ a5 hx) hlt
          rw [hqm] at a4
          exact bEnd_led (fun w_ hw => (bsu_lt w_ hw).trans ((a1_ w_ (by omega)).trans (y1 w_ (by omega)))) (Nat.le_refl _) a5 a4 (fun _ q_ => q_) (fun _ q_ => q_) E2
        · exact Or.inl ⟨q_, bnat_mem hq hqm, p', lo', st', h', fun w_ hw => (a1_ w_ (by omega)).trans (y1 w_ (by omega)), by omega, a3, a5, a4⟩
      · exact Or.inr ⟨r0, hr, p', t_, h', fun w_ hw => (a1_ w_ (by omega)).trans (y1 w_ (by omega)), by omega, a3, a5, a4⟩
  exact key_ _ p lo st h R hx (Nat.lt_succ_self _)
end
theorem jix_b (tx : String) (x_ : Int32) : -1 ≤ (jix tx x_).toInt ∧ (jix tx x_).toInt ≤ 3 := by
  unfold jix
  split
  · decide
  · simp only [jlp]
    repeat' split
    all_goals decide
section
variable {Z : List (Nat × Nat)} {I : Nat → Nat → Option bN} {X_ : xH → Prop} {W : bW} {zf : Nat → Option (Nat × Nat)} {ct : List bC} {mp_ mq : Nat → Nat → Nat} {jn : Nat → List bT → List bT} {gm_ : Nat → bT → bT → bG} {lp : Nat → Nat → bT → Option (bT × Nat × Bool × Nat)} {sp_ : Nat → Nat → bT → Option (bT × Nat × List (Int × Int) × Nat)} {dg ld : Nat → Nat → Option Nat} {sg : List bSg}
/-- what such a state comes to, it comes to -/
def bsgok (Z : List (Nat × Nat)) (I : Nat → Nat → Option bN) (X_ : xH → Prop) (W : bW) (e : bSg) : Prop := ∀ (p : Nat → Int) (lo : xL) (st : List Jvm.Term) (h : xH), bR Z I p e.2.2.2.2.1 lo st h → X_ h → bEnd Z I W p e.2.2.2.1 e.1 e.2.1 e.2.2.1 lo st h e.2.2.2.2.2.1 e.2.2.2.2.2.2
set_option maxHeartbeats 8000000 in
/-- WHAT THE ABSTRACT INTERPRETER SAYS HOLDS -/
theorem babs_ok (hZ : Z.length = 354) (hz : ∀ a_ z_, zf a_ = some z_ → xhg Z a_ = some z_) (hX : ∀ h h', bfr W h h' → X_ h → X_ h') (hct : ∀ c_ ∈ ct, bcon Z I X_ c_) (hsg : ∀ e ∈ sg, bsgok Z I X_ W e) : ∀ (f_ : Nat) (hd_ : Bool) (d_ mi pc : Nat) (stops : List Nat) (nb : Nat) (Ss : List bT) (r_ : bRs), babs zf I W ct mp_ mq jn gm_ lp sp_ dg ld sg f_ hd_ d_ mi pc stops nb Ss = some r_ → ∀ S_ ∈ Ss, nb ≤ S_.2.1 → ∀ (p : Nat → Int) (lo : xL) (st : List Jvm.Term) (h : xH), bR Z I p S_ lo st h → X_ h → bEnd Z I W p nb d_ mi pc lo st h r_.1 r_.2 := by
  intro f_
  induction f_ with
  | zero => intro hd_ d_ mi pc stops nb Ss r_ hs; cases hs
  | succ f_ ih_ =>
  intro hd_ d_ mi pc stops nb Ss r_ hs S_ hS_ hn p lo st h R hx
  have HF : ∀ d_ mi, bFo Z I X_ W d_ mi (fun st n pc Ss => babs zf I W ct mp_ mq jn gm_ lp sp_ dg ld sg f_ false d_ mi pc st n Ss) := fun d_ mi stops nb pc Ss r_ hr S_ hS_ hn p lo st h R hx => ih_ false d_ mi pc stops nb Ss r_ hr S_ hS_ hn p lo st h R hx
  cases hd_ with
  | false =>
    simp only [babs, bpla] at hs
    cases hst : stops.any (Nat.beq pc) with
    | true =>
      rw [hst] at hs
      cases hs
      exact Or.inl ⟨(pc, S_), List.mem_map.mpr ⟨S_, hS_, rfl⟩, p, lo, st, h, fun _ _ => rfl, hn, R, bfr_rfl, fun _ _ _ H_ => H_⟩
    | false =>
    rw [hst] at hs
    simp only at hs
    rcases Ss with _ | ⟨S1, _ | ⟨S2, T⟩⟩
    · cases hS_
    · have e1_ := List.mem_singleton.mp hS_
      subst e1_
      simp only at hs
      cases hsf : bsgf I gm_ d_ mi pc nb S_ sg with
      | some y_ =>
        rw [hsf] at hs
        cases hs
        obtain ⟨e, he, e1_, e2_, e3_, e4_, e5_, e6_⟩ := bsgf_ok hsf
        obtain ⟨J_, hJ, j1, p2_, j2_, j3_⟩ := bcov_ok R List.mem_cons_self e5_
        have e7_ := List.mem_singleton.mp hJ
        subst e7_
        have E1_ := hsg e he p2_ lo st h j3_ hx
        rw [e1_, e2_, e3_] at E1_
        rw [e6_]
        exact bEnd_led (fun v_ hv => j2_ v_ (by omega)) e4_ bfr_rfl (fun _ _ _ H_ => H_) (fun _ q_ => q_) (fun _ q_ => q_) E1_
      | none =>
      rw [hsf] at hs
      simp only at hs
      cases hdg : bdgo (dg mi pc) S_ with
      | some J_ =>
        rw [hdg] at hs
        have key_ : ∃ i_, bdg i_ S_ = some J_ := by
          cases hi_ : dg mi pc with
          | none => rw [hi_] at hdg; cases hdg
          | some i_ => rw [hi_] at hdg; exact ⟨i_, hdg⟩
        obtain ⟨i_, hi_⟩ := key_
        obtain ⟨p2_, j1, j2_, j3_, -⟩ := bdg_ok R hi_
        have E1_ := ih_ false d_ mi pc stops nb [J_] r_ hs J_ List.mem_cons_self (by omega) p2_ lo st h j3_ hx
        exact bEnd_led (fun v_ hv => j1 v_ (by omega)) (Nat.le_refl _) bfr_rfl (fun _ _ _ H_ => H_) (fun _ q_ => q_) (fun _ q_ => q_) E1_
      | none =>
      rw [hdg] at hs
      simp only at hs
      cases hp : sp_ mi pc S_ with
      | some w_ =>
        rw [hp] at hs
        obtain ⟨J_, v_, ps_, m_⟩ := w_
        simp only [bspl] at hs
        cases hb_ : blk J_.1 v_ with
        | none => rw [hb_] at hs; cases hs
        | some b_ =>
        rw [hb_] at hs
        simp only at hs
        cases hk : (bcov I gm_ S_.2.1 [S_] [J_] && bspc b_.1 b_.2 ps_) with
        | false => rw [hk] at hs; cases hs
        | true =>
        rw [hk] at hs
        simp only at hs
        cases hc_ : bcol (fun q_ : Int × Int => babs zf I W ct mp_ mq jn gm_ lp sp_ dg ld sg f_ false d_ mi pc (m_ :: stops) S_.2.1 [((v_, q_.1, q_.2) :: J_.1, J_.2)]) ps_ with
        | none => rw [hc_] at hs; cases hs
        | some w_ =>
        rw [hc_] at hs
        simp only at hs
        simp only [Bool.and_eq_true] at hk
        obtain ⟨J', hJ', j1, p2_, j2_, j3_⟩ := bcov_ok R List.mem_cons_self hk.1
        have e2_ := List.mem_singleton.mp hJ'
        subst e2_
        have hin := j3_.1 v_ b_.1 b_.2 hb_
        obtain ⟨q_, hq, q1_, q2_⟩ := bspc_ok hk.2 hin.1 hin.2
        obtain ⟨z_, z1, z2, z3⟩ := bcol_ok hc_ q_ hq
        have R' : bR Z I p2_ ((v_, q_.1, q_.2) :: J'.1, J'.2) lo st h := by
          obtain ⟨G, n, la, sa, ov⟩ := J'
          exact bR_env j3_ ⟨bok_set j3_.1 q1_ q2_, bltE_set j3_.2.1 (blk_lt j3_.2.1 hb_)⟩
        have E1_ := ih_ false d_ mi pc _ S_.2.1 _ z_ z1 _ List.mem_cons_self j1 p2_ lo st h R' hx
        have E2 : bEnd Z I W p S_.2.1 d_ mi pc lo st h w_.1 w_.2 := bEnd_led j2_ (Nat.le_refl _) bfr_rfl (fun _ _ _ H_ => H_) z2 z3 E1_
        exact bEnd_up hn (bcont_ok hX hx (fun Ss r_ hr => HF d_ mi stops S_.2.1 m_ Ss r_ hr) E2 hs)
      | none =>
      rw [hp] at hs
      simp only at hs
      cases hl : lp mi pc S_ with
      | none =>
        rw [hl] at hs
        exact ih_ true d_ mi pc stops nb [S_] r_ hs S_ hS_ hn p lo st h R hx
      | some w_ =>
        rw [hl] at hs
        obtain ⟨J_, v_, up_, x_⟩ := w_
        simp only [blop] at hs
        cases hk : (bcov I gm_ S_.2.1 [S_] [J_] && (Nat.ble S_.2.1 v_ && bhasv J_ v_)) with
        | false => rw [hk] at hs; cases hs
        | true =>
        rw [hk] at hs
        simp only at hs
        cases hw : babs zf I W ct mp_ mq jn gm_ lp sp_ dg ld sg f_ true d_ mi pc (pc :: x_ :: stops) (bldg (ld mi pc) v_ J_).1.2.1 [(bldg (ld mi pc) v_ J_).1] with
        | none => rw [hw] at hs; cases hs
        | some w_ =>
        rw [hw] at hs
        simp only at hs
        cases hbk : (bat pc w_.1).all (bback I gm_ S_.2.1 v_ up_ (bldg (ld mi pc) v_ J_).2 J_) with
        | false => rw [hbk] at hs; cases hs
        | true =>
        rw [hbk] at hs
        simp only at hs
        simp only [Bool.and_eq_true] at hk
        obtain ⟨J', hJ', j1, p2_, j2_, j3_⟩ := bcov_ok R List.mem_cons_self hk.1
        have e2_ := List.mem_singleton.mp hJ'
        subst e2_
        have E1_ := bloop_ok (o := ld mi pc) (gm_ := gm_) (n0_ := S_.2.1) (v_ := v_) (up_ := up_) (J_ := J') (r_ := w_) (d_ := d_) (mi := mi) (pc := pc) (W := W) j1 (Nat.le_of_ble_eq_true hk.2.1) hk.2.2 hX hx (fun p lo st h R hx => ih_ true d_ mi pc _ _ _ w_ hw _ List.mem_cons_self (Nat.le_refl _) p lo st h R hx) hbk j3_
        have E2 : bEnd Z I W p S_.2.1 d_ mi pc lo st h (bnat pc w_.1) w_.2 := bEnd_led j2_ (Nat.le_refl _) bfr_rfl (fun _ _ _ H_ => H_) (fun _ q_ => q_) (fun _ q_ => q_) E1_
        exact bEnd_up hn (bcont_ok (r_ := (bnat pc w_.1, w_.2)) hX hx (fun Ss r_ hr => HF d_ mi stops S_.2.1 x_ Ss r_ hr) E2 hs)
    · simp only at hs
      cases hc_ : bcol (fun S_ => babs zf I W ct mp_ mq jn gm_ lp sp_ dg ld sg f_ false d_ mi pc (mq mi pc :: stops) nb [S_]) (S1 :: S2 :: T) with
      | none => rw [hc_] at hs; cases hs
      | some w_ =>
      rw [hc_] at hs
      simp only at hs
      obtain ⟨z_, z1, z2, z3⟩ := bcol_ok hc_ S_ hS_
      have E1_ := ih_ false d_ mi pc _ nb [S_] z_ z1 S_ List.mem_cons_self hn p lo st h R hx
      have E2 : bEnd Z I W p nb d_ mi pc lo st h w_.1 w_.2 := bEnd_led (fun _ _ => rfl) (Nat.le_refl _) bfr_rfl (fun _ _ _ H_ => H_) z2 z3 E1_
      exact bcont_ok hX hx (fun Ss r_ hr => HF d_ mi stops nb (mq mi pc) Ss r_ hr) E2 hs
  | true =>
    simp only [babs, bexe] at hs
    rcases Ss with _ | ⟨S1, _ | ⟨S2, T⟩⟩
    · cases hS_
    · have e1_ := List.mem_singleton.mp hS_
      subst e1_
      simp only at hs
      simp only [bfQ_eq, xfN_eq] at hs
      cases hcd : xcd mi pc with
      | none => rw [hcd] at hs; cases hs
      | some e =>
      rw [hcd] at hs
      simp only at hs
      have plain : xpl e = true → bpln zf I W mp_ jn gm_ (fun hd_ d_ mi pc stops nb Ss => babs zf I W ct mp_ mq jn gm_ lp sp_ dg ld sg f_ hd_ d_ mi pc stops nb Ss) d_ mi pc stops nb e S_ = some r_ → bEnd Z I W p nb d_ mi pc lo st h r_.1 r_.2 := by
        intro hp hs
        unfold bpln at hs
        cases hb_ : bnx zf I W mi pc e S_ with
        | none => rw [hb_] at hs; cases hs
        | some qs =>
        rw [hb_] at hs
        simp only at hs
        obtain ⟨q_, hq, p1_, lo1, st1_, h1, a1_, a2, a3, a5, a4⟩ := bnx_ok hZ hz R hb_
        exact bgo1_ok hX hx (HF d_ mi) hn hq a1_ a2 a3 a5 (fun D_ _ => bld_step hcd hp a4) hs
      have calls : ∀ {as_ s_ : List bV} {n : Nat}, btk n S_.2.2.2.1 [] = some (as_, s_) → ∃ ts s', xtk n st [] = some (ts, s') ∧ bSr p as_ ts ∧ bSr p s_ s' ∧ bSl S_.2.1 as_ = true ∧ bSl S_.2.1 s_ = true ∧ ts.all (xidx 354) = true ∧ xok 354 lo s' = true ∧ h.length = 354 := by
        intro as_ s_ n htk
        obtain ⟨r1_, r2, r3, r4, r5_, r6, r7, r8, r9, rx_⟩ := R
        obtain ⟨ts, s', t1_, t2_, t3_⟩ := btk_ok (ac := []) htk r7 (show bSr p [] [] from trivial)
        have hl := btk_l htk r4 rfl
        have hx : lo.all (fun q_ => xidx 354 q_.2) = true ∧ st.all (xidx 354) = true := by
          unfold xok at rx_
          simpa only [Bool.and_eq_true] using rx_
        have hxa := xtk_all t1_ hx.2 rfl
        refine ⟨ts, s', t1_, t2_, t3_, hl.1, hl.2, hxa.1, ?_, r8.1.trans hZ⟩
        unfold xok
        simp only [Bool.and_eq_true]
        exact ⟨hx.1, hxa.2⟩
      obtain ⟨i_, ln, ax⟩ := e
      cases i_ with
      | return_ =>
        simp only [bins1, bop, brtn] at hs
        obtain ⟨r1_, r2, r3, r4, r5_, r6, r7, r8, r9, rx_⟩ := R
        cases hsa : S_.2.2.2.1 with
        | cons v_ l => rw [hsa] at hs; cases hs
        | nil =>
          rw [hsa] at hs r7
          simp only at hs
          cases hr9 : xr mi with
          | some ty_ => rw [hr9] at hs; cases hs
          | none =>
            rw [hr9] at hs
            cases hs
            cases st with
            | cons t_ u_ => exact absurd r7 id
            | nil => exact Or.inr ⟨(none, S_), List.mem_cons_self, p, none, h, fun _ _ => rfl, hn, ⟨r1_, r2, r5_, r8, r9, rfl⟩, bfr_rfl, fun D_ _ => xrun_return hcd hr9⟩
      | ireturn =>
        simp only [bins1, bop, birt] at hs
        obtain ⟨r1_, r2, r3, r4, r5_, r6, r7, r8, r9, rx_⟩ := R
        cases hsa : S_.2.2.2.1 with
        | nil => rw [hsa] at hs; cases hs
        | cons v_ l =>
          rw [hsa] at hs r7 r4
          cases l with
          | cons v2 l2 => cases hs
          | nil =>
            simp only at hs
            cases hb_ : brtv (xr mi) S_.1 v_ with
            | false => rw [hb_] at hs; cases hs
            | true =>
              rw [hb_] at hs
              cases hs
              cases st with
              | nil => exact absurd r7 id
              | cons t_ u_ =>
                cases u_ with
                | cons t2_ u2_ => exact absurd r7.2 id
                | nil =>
                  unfold bSl at r4
                  simp only [List.all_cons, Bool.and_eq_true] at r4
                  exact Or.inr ⟨(some v_, S_), List.mem_cons_self, p, some t_, h, fun _ _ => rfl, hn, ⟨r1_, r2, r5_, r8, r9, t_, rfl, r7.1, r4.1⟩, bfr_rfl, fun D_ _ => xrun_ireturn hcd (brtv_ok r1_ r7.1 hb_)⟩
      | areturn =>
        simp only [bins1, bop, bart] at hs
        obtain ⟨r1_, r2, r3, r4, r5_, r6, r7, r8, r9, rx_⟩ := R
        cases hsa : S_.2.2.2.1 with
        | nil => rw [hsa] at hs; cases hs
        | cons v_ l =>
          rw [hsa] at hs r7 r4
          cases l with
          | cons v2 l2 => cases hs
          | nil =>
            simp only at hs
            cases hb_ : brtr (xr mi) v_ with
            | false => rw [hb_] at hs; cases hs
            | true =>
              rw [hb_] at hs
              cases hs
              cases st with
              | nil => exact absurd r7 id
              | cons t_ u_ =>
                cases u_ with
                | cons t2_ u2_ => exact absurd r7.2 id
                | nil =>
                  unfold bSl at r4
                  simp only [List.all_cons, Bool.and_eq_true] at r4
                  exact Or.inr ⟨(some v_, S_), List.mem_cons_self, p, some t_, h, fun _ _ => rfl, hn, ⟨r1_, r2, r5_, r8, r9, t_, rfl, r7.1, r4.1⟩, bfr_rfl, fun D_ _ => xrun_areturn hcd (brtr_ok r7.1 hb_)⟩
      | invokespecial idx_ => cases hs
      | invokestatic idx_ =>
        simp only [bins1, bop] at hs
        rcases ax with _ | ⟨p0_, _ | ⟨cm, _ | ⟨a1_, _ | ⟨b1, _ | ⟨e1_, _ | ⟨x9, t9⟩⟩⟩⟩⟩⟩ <;> first | (cases hs; done) | skip
        · simp only [bcst] at hs
          rcases d_ with _ | d'
          · cases hs
          simp only at hs
          cases htk : btk (xn cm) S_.2.2.2.1 [] with
          | none => rw [htk] at hs; cases hs
          | some q_ =>
          rw [htk] at hs
          obtain ⟨as_, s_⟩ := q_
          simp only at hs
          cases hk : (Nat.ble (basz as_) (xm cm) && bcc s_) with
          | false => rw [hk] at hs; cases hs
          | true =>
          rw [hk] at hs
          simp only at hs
          simp only [Bool.and_eq_true] at hk
          obtain ⟨k3_, k4_⟩ := hk
          obtain ⟨ts, s', t1_, t2_, t3_, l1, l2, x1_, x2_, hlen⟩ := calls htk
          have hkk : (Nat.ble (xasz ts) (xm cm) && xcc h.length lo s') = true := by
            simp only [Bool.and_eq_true]
            rw [hlen, basz_ok t2_]
            exact ⟨k3_, bcc_ok t3_ k4_ x2_⟩
          cases hf : bfd zf I S_.1 S_.2.2.2.2 cm as_ ct with
          | some c_ =>
            rw [hf] at hs
            simp only at hs
            obtain ⟨f1_, f2_, f3_, f4_⟩ := bfd_ok hf
            refine bconn_ok hX hx (HF (d' + 1) mi) (hct c_ f1_) R (bpre_ok R.1 f3_ t2_) (bhpk_ok hz R.1 R.2.2.2.2.2.2.2.1 f4_) l2 t3_ x2_ (fun D_ t_ h' _ H1_ o H2_ => ?_) hn hs
            rw [f2_] at H1_
            exact xrun_static hcd t1_ hkk H1_ H2_
          | none =>
            rw [hf] at hs
            simp only at hs
            cases hw : bdn (babs zf I W ct mp_ mq jn gm_ lp sp_ dg ld sg f_ false d' cm 0 [] S_.2.1 [(S_.1, S_.2.1, bal 0 as_, [], S_.2.2.2.2)]) with
            | none => rw [hw] at hs; cases hs
            | some w_ =>
            rw [hw] at hs
            simp only at hs
            obtain ⟨G, n, la, sa, ov⟩ := S_
            have R0_ := R
            obtain ⟨r1_, r2, r3, r4, r5_, r6, r7, r8, r9, rx_⟩ := R0_
            have R' : bR Z I p (G, n, bal 0 as_, [], ov) (xal 0 ts) [] h := by
              refine ⟨r1_, r2, bal_l l1, rfl, r5_, bal_ok t2_, trivial, r8, r9, ?_⟩
              unfold xok
              simp only [Bool.and_eq_true]
              exact ⟨xal_x x1_, rfl⟩
            unfold bdn at hw
            cases hw2 : babs zf I W ct mp_ mq jn gm_ lp sp_ dg ld sg f_ false d' cm 0 [] n [(G, n, bal 0 as_, [], ov)] with
            | none => simp only [hw2] at hw; cases hw
            | some w2_ =>
            simp only [hw2] at hw
            cases hw3 : w2_.1 with
            | cons y1 y2 => rw [hw3] at hw; cases hw
            | nil =>
            rw [hw3] at hw
            cases hw
            rcases ih_ false d' cm 0 [] n _ _ hw2 _ List.mem_cons_self (Nat.le_refl _) p _ [] h R' hx with ⟨q_, m_, -⟩ | ⟨y_, ym, p', tv, h', b1, b2, b3, b5, b4⟩
            · rw [hw3] at m_
              exact absurd m_ List.not_mem_nil
            · exact bret_ok (hX _ _ b5 hx) (HF (d' + 1) mi) hn ym (bcl_ok R l2 t3_ x2_ b1 b2 b3) b1 b5 (fun D_ hD o H_ => by
                obtain ⟨D', rfl⟩ : ∃ D', D_ = D' + 1 := ⟨D_ - 1, by omega⟩
                exact xrun_static hcd t1_ hkk (b4 D' (by omega)) H_) hs
        · exact plain rfl hs
      | invokevirtual idx_ =>
        simp only [bins1, bop] at hs
        rcases ax with _ | ⟨p0_, _ | ⟨cm, _ | ⟨a1_, _ | ⟨b1, _ | ⟨e1_, _ | ⟨e2_, _ | ⟨x9, t9⟩⟩⟩⟩⟩⟩⟩ <;> first | (cases hs; done) | skip
        rotate_left
        · simp only [bixo] at hs
          split at hs
          · rename_i f_ as_ s_ hsa
            cases hk : (Nat.ble 4 d_ && (as_.all bixz && bcc s_)) with
            | false => rw [hk] at hs; cases hs
            | true =>
            rw [hk] at hs
            simp only at hs
            simp only [Bool.and_eq_true] at hk
            obtain ⟨k1_, k2_, k3_⟩ := hk
            cases hb_ : bany (pc + 2) S_.1 S_.2.1 S_.2.2.1 s_ S_.2.2.2.2 (-1) 3 with
            | none => rw [hb_] at hs; cases hs
            | some q_ =>
            rw [hb_] at hs
            simp only at hs
            obtain ⟨G, n, la, sa, ov⟩ := S_
            simp only at hsa
            subst hsa
            obtain ⟨t1_, s1_, rfl⟩ := bR_top R
            obtain ⟨R1, -, x_, rfl, hx0⟩ := bR_pop R
            obtain ⟨t2_, s2_, rfl⟩ := bR_top R1
            obtain ⟨R2, -, g2⟩ := bR_pop R1
            have hz2 := List.all_eq_true.mp k2_ _ g2.1
            cases t2_ <;> first | (cases hz2; done) | skip
            rename_i z_
            simp only [bixz, Bool.and_eq_true] at hz2
            obtain ⟨z1, z2⟩ := hz2
            cases hq : xstra (z_ - 101) with
            | none => rw [hq] at z2; cases z2
            | some q0 =>
            have hlen : h.length = 354 := R2.2.2.2.2.2.2.2.1.1.trans hZ
            have hxc := bcc_ok R2.2.2.2.2.2.2.1 k3_ R2.2.2.2.2.2.2.2.2.2
            have hj := jix_b q0.2.2 x_
            have key_ : ∃ p1_, (∀ v_, v_ < n → p1_ v_ = p v_) ∧ n ≤ q_.2.2.1 ∧ q_.1 = pc + 3 ∧ bR Z I p1_ q_.2 lo (.int (jix q0.2.2 x_) :: s2_) h := by
              unfold bany at hb_
              simp only [show decide ((-1 : Int) = 3) = false from by decide] at hb_
              cases hb_
              exact ⟨bup p n (jix q0.2.2 x_).toInt, fun v_ hv => bup_ne (by omega), Nat.le_succ _, rfl, bR_push (bR_new R2 hj.1 hj.2) bvr_l ⟨_, rfl, bvr_v.symm⟩⟩
            obtain ⟨p1_, a1', a2', a3', a4'⟩ := key_
            have hn' : nb ≤ n := hn
            have E1_ := ih_ false d_ mi q_.1 stops nb [q_.2] r_ hs q_.2 List.mem_cons_self (by omega) p1_ lo _ h a4' hx
            rw [a3'] at E1_
            exact bEnd_led (fun v_ hv => a1' v_ (by omega)) (Nat.le_refl _) bfr_rfl (fun D_ hD o H_ => xrun_ix hcd (by
              have hkk : (Nat.ble 4 D_ && (Nat.ble 101 z_ && xcc h.length lo s2_)) = true := by
                simp only [Bool.and_eq_true]
                rw [hlen]
                exact ⟨Nat.ble_eq_true_of_le (Nat.le_trans (Nat.le_of_ble_eq_true k1_) hD), z1, hxc⟩
              simp only [xixs, hkk, hq]) H_) (fun _ q_ => q_) (fun _ q_ => q_) E1_
          · cases hs
        simp only [bcvt] at hs
        rcases d_ with _ | d'
        · cases hs
        simp only at hs
        cases htk : btk (xn cm) S_.2.2.2.1 [] with
        | none => rw [htk] at hs; cases hs
        | some q_ =>
        rw [htk] at hs
        obtain ⟨as_, sl_⟩ := q_
        simp only at hs
        rcases sl_ with _ | ⟨v_, s_⟩
        · cases hs
        simp only at hs
        cases hv : bcel v_ with
        | none => rw [hv] at hs; cases hs
        | some cs =>
        rw [hv] at hs
        simp only at hs
        cases hk : (bco zf cm cs && (Nat.ble (basz (v_ :: as_)) (xm cm) && bcc s_)) with
        | false => rw [hk] at hs; cases hs
        | true =>
        rw [hk] at hs
        simp only at hs
        simp only [Bool.and_eq_true] at hk
        obtain ⟨k2_, k3_, k4_⟩ := hk
        obtain ⟨ts, s0_, t1_, t2_, t3_, l1, l2, x1_, x2_, hlen⟩ := calls htk
        cases s0_ with
        | nil => exact absurd t3_ id
        | cons t_ s' =>
        obtain ⟨a_, ha_, rfl⟩ := bcel_ok hv t3_.1
        obtain ⟨z_, z1, z2, z3⟩ := bco_ok k2_ a_ ha_
        unfold bSl at l2
        simp only [List.all_cons, Bool.and_eq_true] at l2
        have x3 : xidx 354 (.index a_) = true ∧ xok 354 lo s' = true := by
          unfold xok at x2_ ⊢
          simp only [List.all_cons, Bool.and_eq_true] at x2_ ⊢
          exact ⟨x2_.2.1, x2_.1, x2_.2.2⟩
        have hcell : ∃ c_, h[a_]? = some c_ ∧ c_.1 = z_.1 := by
          obtain ⟨G, n, la, sa, ov⟩ := S_
          obtain ⟨c_, c1_, c2_, c3_, c4_, c5_⟩ := bR_cell R (hz _ _ z1)
          exact ⟨c_, c1_, c2_⟩
        obtain ⟨c_, c1_, c2_⟩ := hcell
        have hkk : (Nat.beq c_.1 (xo cm) && (Nat.ble c_.1 12 && (Nat.ble (xasz (.index a_ :: ts)) (xm cm) && xcc h.length lo s'))) = true := by
          simp only [Bool.and_eq_true]
          rw [c2_, hlen, basz_ok (p := p) (l := v_ :: as_) (ts := .index a_ :: ts) ⟨t3_.1, t2_⟩]
          exact ⟨z2, z3, k3_, bcc_ok t3_.2 k4_ x3.2⟩
        cases hf : bfd zf I S_.1 S_.2.2.2.2 cm (v_ :: as_) ct with
        | some cc =>
          rw [hf] at hs
          simp only at hs
          obtain ⟨f1_, f2_, f3_, f4_⟩ := bfd_ok hf
          refine bconn_ok hX hx (HF (d' + 1) mi) (hct cc f1_) R (bpre_ok R.1 f3_ (show bSr p (v_ :: as_) (.index a_ :: ts) from ⟨t3_.1, t2_⟩)) (bhpk_ok hz R.1 R.2.2.2.2.2.2.2.1 f4_) l2.2 t3_.2 x3.2 (fun D_ t_ h' _ H1_ o H2_ => ?_) hn hs
          rw [f2_] at H1_
          exact xrun_virtual hcd t1_ c1_ hkk H1_ H2_
        | none =>
          rw [hf] at hs
          simp only at hs
          cases hw : bcol (fun a_ => bdn (babs zf I W ct mp_ mq jn gm_ lp sp_ dg ld sg f_ false d' cm 0 [] S_.2.1 [(S_.1, S_.2.1, bal 0 (some (.inr [.index a_]) :: as_), [], S_.2.2.2.2)])) cs with
          | none => rw [hw] at hs; cases hs
          | some w_ =>
          rw [hw] at hs
          simp only at hs
          obtain ⟨G, n, la, sa, ov⟩ := S_
          have R0_ := R
          obtain ⟨r1_, r2, r3, r4, r5_, r6, r7, r8, r9, rx_⟩ := R0_
          have g1 : bga p (some (.inr [.index a_])) (.index a_) := ⟨List.mem_cons_self, rfl, x3.1⟩
          have hvas : bSl n (some (.inr [.index a_]) :: as_) = true := by
            unfold bSl at l1 ⊢
            simp only [List.all_cons, Bool.and_eq_true]
            exact ⟨rfl, l1⟩
          have R' : bR Z I p (G, n, bal 0 (some (.inr [.index a_]) :: as_), [], ov) (xal 0 (.index a_ :: ts)) [] h := by
            refine ⟨r1_, r2, bal_l hvas, rfl, r5_, bal_ok ⟨g1, t2_⟩, trivial, r8, r9, ?_⟩
            unfold xok
            simp only [Bool.and_eq_true]
            exact ⟨xal_x (by simp only [List.all_cons, Bool.and_eq_true]; exact ⟨x3.1, x1_⟩), rfl⟩
          obtain ⟨w2_, hw1, -, hw9⟩ := bcol_ok hw a_ ha_
          simp only at hw1
          unfold bdn at hw1
          cases hw2 : babs zf I W ct mp_ mq jn gm_ lp sp_ dg ld sg f_ false d' cm 0 [] n [(G, n, bal 0 (some (.inr [.index a_]) :: as_), [], ov)] with
          | none => simp only [hw2] at hw1; cases hw1
          | some w4_ =>
          simp only [hw2] at hw1
          cases hw3 : w4_.1 with
          | cons y1 y2 => rw [hw3] at hw1; cases hw1
          | nil =>
          rw [hw3] at hw1
          cases hw1
          rcases ih_ false d' cm 0 [] n _ _ hw2 _ List.mem_cons_self (Nat.le_refl _) p _ [] h R' hx with ⟨q_, m_, -⟩ | ⟨y_, ym, p', tv, h', b1, b2, b3, b5, b4⟩
          · rw [hw3] at m_
            exact absurd m_ List.not_mem_nil
          · exact bret_ok (hX _ _ b5 hx) (HF (d' + 1) mi) hn (hw9 y_ ym) (bcl_ok R l2.2 t3_.2 x3.2 b1 b2 b3) b1 b5 (fun D_ hD o H_ => by
              obtain ⟨D', rfl⟩ : ∃ D', D_ = D' + 1 := ⟨D_ - 1, by omega⟩
              exact xrun_virtual hcd t1_ c1_ hkk (b4 D' (by omega)) H_) hs
      | iaload =>
        simp only [bins1, bop] at hs
        cases hg : bcpg zf I W mi pc S_ with
        | none =>
          rw [hg] at hs
          exact plain rfl hs
        | some J_ =>
          rw [hg] at hs
          obtain ⟨st2_, h2, k1_, k2_, k3_, k4_⟩ := bcpg_ok hZ hz hcd R hg
          have E1_ := ih_ false d_ mi (pc + 1 + 1) stops nb [J_] r_ hs J_ List.mem_cons_self (by omega) p lo st2_ h2 k2_ (hX _ _ k3_ hx)
          exact bEnd_led (fun _ _ => rfl) (Nat.le_refl _) k3_ (fun D_ _ => k4_ D_) (fun _ q_ => q_) (fun _ q_ => q_) E1_
      | _ => exact plain rfl hs
    · cases hs
end
