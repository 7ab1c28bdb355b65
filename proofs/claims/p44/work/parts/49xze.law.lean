-- ===== echoes: the law
theorem m_imE {T : List Int32} {nw : Int32} {g_ : Nat} {h_ : xH} (B_ : bInv bZ bIj h_) (X_ : EMb 339 T nw g_ h_) : ∃ (y_ : Int32) (h' : xH), (∀ D_, 60 ≤ D_ → xrun D_ 232 0 [(0, .index 338)] [] h_ (some (.int y_), h', [])) ∧ (bInv bZ bIj h' → EMb 339 T nw g_ h' ∧ EMb 340 T nw g_ h') := by
  obtain ⟨x_, h', rn, fr_, cp_, ex_, ei⟩ := image_x (bIj_m B_)
  have kk := ink_m
  rw [Bool.and_eq_true] at kk
  have c9_ : bcq h_ 339 20 768 := bcq_of (n_ := 339) (z_ := (20, 768)) (sHp_of B_) rfl
  refine ⟨x_, h', fun D_ hD => rn D_ (by omega), fun B' => ⟨EMb_cp X_ (fun j_ x_ e_ => (fr_ _ _ rfl : bpat h' 339 j_ = bpat h_ 339 j_).trans e_), EMb_cp X_ (fun j_ x_ e_ => ?_)⟩⟩
  have hj := bptl c9_ e_
  have k_ := List.all_eq_true.mp kk.1 j_ (List.mem_range.mpr hj)
  rw [Bool.and_eq_true] at k_
  exact tv_in B' k_.2 ((cp_ j_ hj).trans (tv_at e_))
theorem m_rsE {T T' : List Int32} {nw nw' : Int32} {g_ g' : Nat} {h_ : xH} {v_ : Int32} (B_ : bInv bZ bIj h_) (o : bpat h_ 338 2 = some (.int v_)) (X_ : EMb 339 T nw g_ h_) (X' : EMb 340 T' nw' g' h_) : ∃ (y_ : Int32) (h' : xH), (∀ D_, 60 ≤ D_ → xrun D_ 233 0 [(0, .index 338)] [] h_ (some (.int y_), h', [])) ∧ (bInv bZ bIj h' → (if v_ = 0 then EMb 339 T nw g_ h' else EMb 339 T' nw' g' h') ∧ EMb 340 T' nw' g' h') := by
  by_cases gz : v_ = 0
  · obtain ⟨ye, oe⟩ := merr (k_ := 2) B_ (by omega)
    obtain ⟨h2, m2_, e_⟩ := mreA (sHp_of B_) o oe
    rcases e_ with ⟨g1, f0_, ld0⟩ | ⟨g1, w0_, f0_, r0⟩
    · exact absurd gz g1
    · exact ⟨_, h2, fun D_ hD => r0 D_ (by omega), fun _ => ⟨by rw [if_pos gz]; exact EMb_cp X_ (fun j_ x_ e_ => (f0_ _ _ (by omega)).trans e_), EMb_cp X' (fun j_ x_ e_ => (f0_ _ _ (by omega)).trans e_)⟩⟩
  · obtain ⟨x_, h', rn, fr_, cp_, ex_⟩ := restore_x (bIj_m B_) (by
      rw [tv_at o]
      intro q_
      exact gz (Int32.toInt_inj.mp q_))
    have kk := ink_m
    rw [Bool.and_eq_true] at kk
    have c0_ : bcq h_ 340 20 768 := bcq_of (n_ := 340) (z_ := (20, 768)) (sHp_of B_) rfl
    have f00 : bInv bZ bIj h' → ∀ (j_ : Nat) (x_ : Int32), bpat h_ 340 j_ = some (.int x_) → bpat h' 339 j_ = some (.int x_) := fun B' j_ x_ e_ => by
      have hj := bptl c0_ e_
      have k_ := List.all_eq_true.mp kk.1 j_ (List.mem_range.mpr hj)
      rw [Bool.and_eq_true] at k_
      exact tv_in B' k_.1 ((cp_ j_ hj).trans (tv_at e_))
    exact ⟨x_, h', fun D_ hD => rn D_ (by omega), fun B' => ⟨by rw [if_neg gz]; exact EMb_cp X' (fun j_ x_ e_ => f00 B' j_ x_ e_), EMb_cp X' (fun j_ x_ e_ => (fr_ _ _ rfl : bpat h' 340 j_ = bpat h_ 340 j_).trans e_)⟩⟩
/-- echoes, NOW, THE LOG on both sides, and in both images -/
def EEs (S_ S' : List eCo × (Int32 × Nat)) (h_ : xH) : Prop := (EXc S_.1 S_.2.1 S_.2.2 h_ ∧ EXi S'.1 S'.2.1 S'.2.2 h_) ∧ (EMb 339 (tmEc S_.1) S_.2.1 S_.2.2 h_ ∧ EMb 340 (tmEc S'.1) S'.2.1 S'.2.2 h_)
def EE (h_ : xH) : Prop := ∃ S_ S', (okE S_ ∧ okE S') ∧ EEs S_ S' h_
def RE (h_ : xH) : Prop := RS h_ ∧ EE h_
def rwE (W_ : bW) (a_ b_ n_ : Nat) : Bool := (!(biw W_ a_ 0) && !(biw W_ a_ 1)) && (List.range n_).all (fun j_ => !(biw W_ b_ j_))
def exwQ (W_ : bW) : Bool := (!(biw W_ 1 11) && !(biw W_ 15 0)) && ((rwE W_ 9 10 10 && (rwE W_ 11 12 10 && rwE W_ 13 14 10)) && (!(biw W_ 15 2) && !(biw W_ 15 1)))
def eiwQ (W_ : bW) : Bool := !(biw W_ 74 11) && ((rwE W_ 82 83 10 && (rwE W_ 84 85 10 && rwE W_ 86 87 10)) && (!(biw W_ 88 2) && !(biw W_ 88 1)))
def emwQ (W_ : bW) (b_ : Nat) : Bool := (!(biw W_ b_ 2) && !(biw W_ b_ 3)) && (!(biw W_ b_ 4) && (List.range 10).all (fun k_ => !(biw W_ b_ (190 + 14 * k_))))
section
variable {E_ : List eCo} {T : List Int32} {nw : Int32} {g_ : Nat} {h_ h' : xH} {Wx_ : bW}
theorem rwE_k {a_ b_ n_ : Nat} {l : List Int32} (R_ : rwx h_ a_ b_ n_ l) (m_ : ysm h_ h') (F_ : bfr Wx_ h_ h') (k_ : rwE Wx_ a_ b_ n_ = true) : rwx h' a_ b_ n_ l := by
  unfold rwE at k_
  rw [Bool.and_eq_true, Bool.and_eq_true] at k_
  obtain ⟨⟨b1, b2⟩, ⟨r0, r1_⟩, l0, q_⟩ := R_
  refine ⟨⟨m_.2 _ _ _ b1, m_.2 _ _ _ b2⟩, ⟨(F_ _ _ (nbw k_.1.1)).trans r0, (F_ _ _ (nbw k_.1.2)).trans r1_⟩, l0, fun j_ x_ hx => ?_⟩
  have lj := (List.getElem?_eq_some_iff.mp hx).1
  exact (F_ _ _ (nbw (List.all_eq_true.mp k_.2 j_ (List.mem_range.mpr (by omega))))).trans (q_ j_ x_ hx)
theorem EXc_bw (X_ : EXc E_ nw g_ h_) (m_ : ysm h_ h') (F_ : bfr Wx_ h_ h') (k_ : exwQ Wx_ = true) : EXc E_ nw g_ h' := by
  unfold exwQ at k_
  simp only [Bool.and_eq_true] at k_
  obtain ⟨⟨k1_, k2_⟩, ⟨k3_, k4_, k5_⟩, k6_, k7_⟩ := k_
  obtain ⟨⟨a1_, a2⟩, ⟨b1, b2, b3⟩, c1_, y_, c2_, c3_⟩ := X_
  exact ⟨⟨(F_ _ _ (nbw k1_)).trans a1_, (F_ _ _ (nbw k2_)).trans a2⟩, ⟨rwE_k b1 m_ F_ k3_, rwE_k b2 m_ F_ k4_, rwE_k b3 m_ F_ k5_⟩, (F_ _ _ (nbw k6_)).trans c1_, y_, c2_, (F_ _ _ (nbw k7_)).trans c3_⟩
theorem EXi_bw (X_ : EXi E_ nw g_ h_) (m_ : ysm h_ h') (F_ : bfr Wx_ h_ h') (k_ : eiwQ Wx_ = true) : EXi E_ nw g_ h' := by
  unfold eiwQ at k_
  simp only [Bool.and_eq_true] at k_
  obtain ⟨k1_, ⟨k3_, k4_, k5_⟩, k6_, k7_⟩ := k_
  obtain ⟨a1_, ⟨b1, b2, b3⟩, c1_, y_, c2_, c3_⟩ := X_
  exact ⟨(F_ _ _ (nbw k1_)).trans a1_, ⟨rwE_k b1 m_ F_ k3_, rwE_k b2 m_ F_ k4_, rwE_k b3 m_ F_ k5_⟩, (F_ _ _ (nbw k6_)).trans c1_, y_, c2_, (F_ _ _ (nbw k7_)).trans c3_⟩
theorem EMb_bw {b_ : Nat} (hT_ : T.length ≤ 10) (X_ : EMb b_ T nw g_ h_) (F_ : bfr Wx_ h_ h') (k_ : emwQ Wx_ b_ = true) : EMb b_ T nw g_ h' := by
  unfold emwQ at k_
  simp only [Bool.and_eq_true] at k_
  obtain ⟨⟨k1_, k2_⟩, k3_, k4_⟩ := k_
  refine ⟨⟨(F_ _ _ (nbw k1_)).trans X_.1.1, (F_ _ _ (nbw k2_)).trans X_.1.2⟩, (F_ _ _ (nbw k3_)).trans X_.2.1, fun j_ t_ hj => ?_⟩
  have lj := (List.getElem?_eq_some_iff.mp hj).1
  exact (F_ _ _ (nbw (List.all_eq_true.mp k4_ j_ (List.mem_range.mpr (by omega))))).trans (X_.2.2 j_ t_ hj)
end
theorem tm10 {S_ : List eCo × (Int32 × Nat)} (K_ : okE S_) : (tmEc S_.1).length ≤ 10 := by
  unfold tmEc
  rw [List.length_map]
  exact K_.1
/-- a turn that leaves echoes as they are -/
theorem lwPg_E {cx cm : Nat} {es : List bP} {Wx_ Wm_ : bW} {eq_ : Bool} (fx : lwFr cx 0 es Wx_) (fm : lwFr cm 338 es Wm_) (hE : ((exwQ Wx_ && (eiwQ Wx_ && (emwQ Wx_ 339 && emwQ Wx_ 340))) && (exwQ Wm_ && (eiwQ Wm_ && (emwQ Wm_ 339 && emwQ Wm_ 340)))) = true) (P_ : lwPg RS eq_ cx cm es) : lwPg RE eq_ cx cm es := by
  intro h_ as_ H_ X_ ⟨R0_, S_, S', ⟨K_, K'⟩, ⟨X0, X1⟩, M0, M1_⟩ hp
  simp only [Bool.and_eq_true] at hE
  obtain ⟨⟨e1_, e2_, e3_, e4_⟩, e5_, e6_, e7_, e8⟩ := hE
  obtain ⟨v_, h1, S1, H1_, Y1, v2, h2, S2, H2_, Y2, R2, E2⟩ := P_ h_ as_ H_ X_ R0_ hp
  obtain ⟨u_, g1, D1, -, -, F1_⟩ := fx h_ _ H_ X_ hp
  have q1_ := congrArg (fun o => o.2.1) (xrun_un S1 D1)
  have q1_ : h1 = g1 := q1_
  subst q1_
  obtain ⟨u2_, g2, D2, -, -, F2⟩ := fm h1 _ H1_ Y1 hp
  have q2_ := congrArg (fun o => o.2.1) (xrun_un S2 D2)
  have q2_ : h2 = g2 := q2_
  subst q2_
  have m1_ := inv_bq H_ H1_
  have m2_ := inv_bq H1_ H2_
  exact ⟨v_, h1, S1, H1_, Y1, v2, h2, S2, H2_, Y2, ⟨R2, S_, S', ⟨K_, K'⟩, ⟨EXc_bw (EXc_bw X0 m1_ F1_ e1_) m2_ F2 e5_, EXi_bw (EXi_bw X1 m1_ F1_ e2_) m2_ F2 e6_⟩, EMb_bw (tm10 K_) (EMb_bw (tm10 K_) M0 F1_ e3_) F2 e7_, EMb_bw (tm10 K') (EMb_bw (tm10 K') M1_ F1_ e4_) F2 e8⟩, E2⟩
/-- a turn that changes echoes: what it does -/
def exE (eq_ : Bool) (cx cm : Nat) (es : List bP) : Prop := ∀ (W_ : Nat → List Int32) (V : Nat → Int32) (S_ S' : List eCo × (Int32 × Nat)) (h_ : xH) (as_ : List Jvm.Term), bInv bZ bIj h_ → okS W_ V → (okE S_ ∧ okE S') → SX W_ V h_ → (EXc S_.1 S_.2.1 S_.2.2 h_ ∧ EXi S'.1 S'.2.1 S'.2.2 h_) → bPs es as_ → ∃ (T T' : List eCo × (Int32 × Nat)) (y_ : Int32) (h1 : xH), ((okE T ∧ okE T') ∧ xrun 999 cx 0 (xal 0 (.index 0 :: as_)) [] h_ (some (.int y_), h1, [])) ∧ ((∀ Wx_ : bW, bInv bZ bIj h1 → bfr Wx_ h_ h1 → eiwQ Wx_ = true ∨ (eq_ = false) → EXc T.1 T.2.1 T.2.2 h1 ∧ EXi T'.1 T'.2.1 T'.2.2 h1) ∧ ∀ hh : xH, bInv bZ bIj hh → SM W_ V hh → EMb 339 (tmEc S_.1) S_.2.1 S_.2.2 hh → EMb 340 (tmEc S'.1) S'.2.1 S'.2.2 hh → ∃ (y2 : Int32) (h2 : xH), xrun 999 cm 0 (xal 0 (.index 338 :: as_)) [] hh (some (.int y2), h2, []) ∧ ((∀ Wm_ : bW, bInv bZ bIj h2 → bfr Wm_ hh h2 → emwQ Wm_ 340 = true ∨ (eq_ = false) → EMb 339 (tmEc T.1) T.2.1 T.2.2 h2 ∧ EMb 340 (tmEc T'.1) T'.2.1 T'.2.2 h2) ∧ (eq_ = true → y_ = y2)))
theorem lwPg_EE {cx cm : Nat} {es : List bP} {Wx_ Wm_ : bW} {eq_ eq2 : Bool} (fx : lwFr cx 0 es Wx_) (fm : lwFr cm 338 es Wm_) (hW : (lWx Wx_ && lWm Wm_) = true) (hE : ((emwQ Wx_ 339 && emwQ Wx_ 340) && (exwQ Wm_ && eiwQ Wm_)) = true) (hI : (!eq_ || (eiwQ Wx_ && emwQ Wm_ 340)) = true) (P_ : lwPg RS eq2 cx cm es) (EX_ : exE eq_ cx cm es) : lwPg RE eq_ cx cm es := by
  intro h_ as_ H_ X_ ⟨R0_, S_, S', KK_, XX, M0, M1_⟩ hp
  simp only [Bool.and_eq_true] at hE
  rw [Bool.and_eq_true] at hW
  obtain ⟨⟨e3_, e4_⟩, e5_, e6_⟩ := hE
  obtain ⟨v_, h1, S1, H1_, Y1, v2, h2, S2, H2_, Y2, R2, -⟩ := P_ h_ as_ H_ X_ R0_ hp
  obtain ⟨W_, V, K_, HX, HM_⟩ := R0_
  obtain ⟨u_, g1, D1, -, -, F1_⟩ := fx h_ _ H_ X_ hp
  have q1_ := congrArg (fun o => o.2.1) (xrun_un S1 D1)
  have q1_ : h1 = g1 := q1_
  subst q1_
  obtain ⟨u2_, g2, D2, -, -, F2⟩ := fm h1 _ H1_ Y1 hp
  have q2_ := congrArg (fun o => o.2.1) (xrun_un S2 D2)
  have q2_ : h2 = g2 := q2_
  subst q2_
  have m1_ := inv_bq H_ H1_
  have m2_ := inv_bq H1_ H2_
  obtain ⟨T, T', y_, k1_, ⟨KT_, C1_⟩, XT, EM_⟩ := EX_ W_ V S_ S' h_ as_ H_ K_ KK_ HX XX hp
  have z1 := xrun_un S1 C1_
  have w1_ : h1 = k1_ := congrArg (fun o => o.2.1) z1
  have w2_ : v_ = y_ := by
    have k_ : some (Jvm.Term.int v_) = some (.int y_) := congrArg (fun o => o.1) z1
    exact Jvm.Term.int.inj (Option.some.inj k_)
  subst w1_
  subst w2_
  have hi_ : ∀ (b_ : Bool) (p_ q_ : Bool), (!b_ || (p_ && q_)) = true → (p_ = true ∨ b_ = false) ∧ (q_ = true ∨ b_ = false) := by decide
  obtain ⟨i1_, i2_⟩ := hi_ _ _ _ hI
  obtain ⟨A1, A2⟩ := XT Wx_ H1_ F1_ i1_
  have HM1 : SM W_ V h1 := SM_fr HM_ m1_ (fun c_ j_ hc_ => F1_ c_ j_ (lWx_ok hW.1 (smc_lo hc_)))
  obtain ⟨y2, k2_, C2_, MT, E2⟩ := EM_ h1 H1_ HM1 (EMb_bw (tm10 KK_.1) M0 F1_ e3_) (EMb_bw (tm10 KK_.2) M1_ F1_ e4_)
  have z2 := xrun_un S2 C2_
  have w3_ : h2 = k2_ := congrArg (fun o => o.2.1) z2
  have w4_ : v2 = y2 := by
    have k_ : some (Jvm.Term.int v2) = some (.int y2) := congrArg (fun o => o.1) z2
    exact Jvm.Term.int.inj (Option.some.inj k_)
  subst w3_
  subst w4_
  obtain ⟨B1, B2⟩ := MT Wm_ H2_ F2 i2_
  exact ⟨v_, h1, S1, H1_, Y1, v2, h2, S2, H2_, Y2, ⟨R2, T, T', KT_, ⟨EXc_bw A1 m2_ F2 e5_, EXi_bw A2 m2_ F2 e6_⟩, B1, B2⟩, E2⟩
theorem exE_shout : exE true 101 211 (lwI 2) := by
  intro W_ V S_ S' h_ as_ B_ K_ KK_ H_ XX hp
  obtain ⟨z_, b0, rfl, hp0⟩ := laS hp
  obtain ⟨d_, b1, rfl, hp1⟩ := laS hp0
  have eZ := la0 hp1
  subst eZ
  obtain ⟨h1, m_, ⟨q_, kq⟩, r_⟩ := x_shE (z_ := z_) (d_ := d_) B_ K_ KK_.1 H_ XX.1
  refine ⟨(shE V S_ z_ d_).1, S', (shE V S_ z_ d_).2, h1, ⟨⟨kq, KK_.2⟩, r_ 999 (by omega)⟩, fun Wx_ _ F_ i_ => ?_, fun hh Bh Hh M0 M1_ => ?_⟩
  · rcases i_ with i_ | i_
    · exact ⟨q_, EXi_bw XX.2 m_ F_ i_⟩
    · cases i_
  · obtain ⟨h2, m2_, q2_, r2⟩ := m_shE (z_ := z_) (d_ := d_) Bh K_ KK_.1 Hh M0
    refine ⟨(shE V S_ z_ d_).2, h2, r2 999 (by omega), fun Wm_ _ F_ i_ => ?_, fun _ => rfl⟩
    rcases i_ with i_ | i_
    · exact ⟨q2_, EMb_bw (tm10 KK_.2) M1_ F_ i_⟩
    · cases i_
theorem exE_seconds : exE true 102 212 (lwI 1) := by
  intro W_ V S_ S' h_ as_ B_ K_ KK_ H_ XX hp
  obtain ⟨z_, b0, rfl, hp0⟩ := laS hp
  have eZ := la0 hp0
  subst eZ
  obtain ⟨h1, m_, ⟨q_, kq⟩, r_⟩ := x_secE (z_ := z_) B_ K_ KK_.1 H_ XX.1
  refine ⟨(secE S_ z_).1, S', (secE S_ z_).2, h1, ⟨⟨kq, KK_.2⟩, r_ 999 (by omega)⟩, fun Wx_ _ F_ i_ => ?_, fun hh Bh Hh M0 M1_ => ?_⟩
  · rcases i_ with i_ | i_
    · exact ⟨q_, EXi_bw XX.2 m_ F_ i_⟩
    · cases i_
  · obtain ⟨h2, m2_, q2_, r2⟩ := m_secE (z_ := z_) Bh KK_.1 M0
    refine ⟨(secE S_ z_).2, h2, r2 999 (by omega), fun Wm_ _ F_ i_ => ?_, fun _ => rfl⟩
    rcases i_ with i_ | i_
    · exact ⟨q2_, EMb_bw (tm10 KK_.2) M1_ F_ i_⟩
    · cases i_
theorem exE_image : exE false 112 232 (lwI 0) := by
  intro W_ V S_ S' h_ as_ B_ K_ KK_ H_ XX hp
  have eZ := la0 hp
  subst eZ
  obtain ⟨y_, h1, q_, r_⟩ := x_imE B_ H_ XX.1
  refine ⟨S_, S_, y_, h1, ⟨⟨KK_.1, KK_.1⟩, r_ 999 (by omega)⟩, fun _ _ _ _ => q_, fun hh Bh Hh M0 M1_ => ?_⟩
  obtain ⟨y2, h2, r2, q2_⟩ := m_imE Bh M0
  exact ⟨y2, h2, r2 999 (by omega), fun _ b_ _ _ => q2_ b_, fun e_ => by cases e_⟩
theorem exE_restore : exE false 113 233 (lwI 0) := by
  intro W_ V S_ S' h_ as_ B_ K_ KK_ H_ XX hp
  have eZ := la0 hp
  subst eZ
  obtain ⟨y_, h1, ⟨q0, q1_⟩, r_⟩ := x_rsE B_ H_ XX.1 XX.2
  by_cases gz : V 200 = 0
  · refine ⟨S_, S', y_, h1, ⟨KK_, r_ 999 (by omega)⟩, fun _ b_ _ _ => ⟨by have z_ := q0 b_; rw [if_pos gz] at z_; exact z_, q1_⟩, fun hh Bh Hh M0 M1_ => ?_⟩
    obtain ⟨y2, h2, r2, q2_⟩ := m_rsE Bh Hh.2.2.2.1 M0 M1_
    exact ⟨y2, h2, r2 999 (by omega), fun _ b_ _ _ => ⟨by have z_ := (q2_ b_).1; rw [if_pos gz] at z_; exact z_, (q2_ b_).2⟩, fun e_ => by cases e_⟩
  · refine ⟨S', S', y_, h1, ⟨⟨KK_.2, KK_.2⟩, r_ 999 (by omega)⟩, fun _ b_ _ _ => ⟨by have z_ := q0 b_; rw [if_neg gz] at z_; exact z_, q1_⟩, fun hh Bh Hh M0 M1_ => ?_⟩
    obtain ⟨y2, h2, r2, q2_⟩ := m_rsE Bh Hh.2.2.2.1 M0 M1_
    exact ⟨y2, h2, r2 999 (by omega), fun _ b_ _ _ => ⟨by have z_ := (q2_ b_).1; rw [if_neg gz] at z_; exact z_, (q2_ b_).2⟩, fun e_ => by cases e_⟩
