-- ===== THE TRACE: the law
def TT (h_ : xH) : Prop := ∀ q_ ∈ vTr, tv h_ q_.1.1 q_.1.2 = tv h_ q_.2.1 q_.2.2
def RC (h_ : xH) : Prop := RE h_ ∧ TT h_
def ttw (W_ : bW) : Bool := vTr.all (fun q_ => !(biw W_ q_.1.1 q_.1.2) && !(biw W_ q_.2.1 q_.2.2))
theorem TT_bw {h_ h' : xH} {Wx_ : bW} (t_ : TT h_) (F_ : bfr Wx_ h_ h') (k_ : ttw Wx_ = true) : TT h' := by
  unfold ttw at k_
  intro q_ hq
  have e_ := List.all_eq_true.mp k_ q_ hq
  rw [Bool.and_eq_true] at e_
  rw [tv_eq (F_ _ _ (nbw e_.1)), tv_eq (F_ _ _ (nbw e_.2))]
  exact t_ q_ hq
theorem lwPg_T {cx cm : Nat} {es : List bP} {Wx_ Wm_ : bW} {eq_ : Bool} (fx : lwFr cx 0 es Wx_) (fm : lwFr cm 338 es Wm_) (hT_ : (ttw Wx_ && ttw Wm_) = true) (P_ : lwPg RE eq_ cx cm es) : lwPg RC eq_ cx cm es := by
  intro h_ as_ H_ X_ ⟨R0_, t_⟩ hp
  rw [Bool.and_eq_true] at hT_
  obtain ⟨v_, h1, S1, H1_, Y1, v2, h2, S2, H2_, Y2, R2, E2⟩ := P_ h_ as_ H_ X_ R0_ hp
  obtain ⟨u_, g1, D1, -, -, F1_⟩ := fx h_ _ H_ X_ hp
  have q1_ : h1 = g1 := congrArg (fun o => o.2.1) (xrun_un S1 D1)
  subst q1_
  obtain ⟨u2_, g2, D2, -, -, F2⟩ := fm h1 _ H1_ Y1 hp
  have q2_ : h2 = g2 := congrArg (fun o => o.2.1) (xrun_un S2 D2)
  subst q2_
  exact ⟨v_, h1, S1, H1_, Y1, v2, h2, S2, H2_, Y2, ⟨R2, TT_bw (TT_bw t_ F1_ hT_.1) F2 hT_.2⟩, E2⟩
/-- the pairs that voices want -/
def RPv : lRel := (vTr ++ (((1, 10), (339, 1)) :: (List.range 8).flatMap (fun k_ => [((58 + k_, 0), (339, 10 + 3 * k_ + 0)), ((58 + k_, 1), (339, 10 + 3 * k_ + 1))])), (List.range 8).map (fun k_ => (32 + 2 * k_, (0 : Int), (6 : Int))))
theorem lpv_k : (List.range 8).all (fun k_ => decide (lpx RPv (32 + 2 * k_) = (58 + k_, 0))) = true := by decide +kernel
theorem lRk_v : lRk RPv = true := by decide +kernel
theorem RC_p {h_ : xH} (R_ : RS h_) (t_ : TT h_) : lRp RPv h_ := by
  obtain ⟨W_, V, K_, HX, HM_⟩ := R_
  have rk : ∀ k_ j_, k_ < 8 → j_ < 3 → tv h_ (58 + k_) j_ = tv h_ 339 (10 + 3 * k_ + j_) := fun k_ j_ hk hj => by
    rw [tv_at (SX_v HX (rk_in (k_ := k_) (j_ := j_) hk hj).1), tv_at (SM_v HM_ (rk_in (k_ := k_) (j_ := j_) hk hj).2)]
  refine ⟨fun q_ hq => ?_, fun u_ hu => ?_⟩
  · rcases List.mem_append.mp hq with a_ | a_
    · exact t_ q_ a_
    · rcases List.mem_cons.mp a_ with rfl | a_
      · show tv h_ 1 10 = tv h_ 339 1
        rw [tv_at (SX_v HX (show ((1, 10), 1) ∈ wvX by decide)), tv_at (SM_v HM_ (show (1, 1) ∈ wvM by decide))]
      · obtain ⟨k_, hk, a_⟩ := List.mem_flatMap.mp a_
        have hk := List.mem_range.mp hk
        rcases List.mem_cons.mp a_ with rfl | a_
        · exact rk k_ 0 hk (by omega)
        · rw [List.mem_singleton.mp a_]
          exact rk k_ 1 hk (by omega)
  · obtain ⟨k_, hk, rfl⟩ := List.mem_map.mp hu
    have e_ := of_decide_eq_true (List.all_eq_true.mp lpv_k k_ hk)
    have hk := List.mem_range.mp hk
    show (0 : Int) ≤ tv h_ (lpx RPv (32 + 2 * k_)).1 (lpx RPv (32 + 2 * k_)).2 ∧ tv h_ (lpx RPv (32 + 2 * k_)).1 (lpx RPv (32 + 2 * k_)).2 ≤ 6
    rw [e_]
    show (0 : Int) ≤ tv h_ (58 + k_) 0 ∧ tv h_ (58 + k_) 0 ≤ 6
    rw [tv_at (SX_v HX (rk_in (k_ := k_) (j_ := 0) hk (by omega)).1)]
    have kd := (K_.1.2.1 k_ hk).1
    unfold i3b at kd
    rw [Nat.zero_add] at kd
    exact kd
theorem lwPg_V {Wx_ Wm_ : bW} (fx : lwFr 106 0 (lwI 3) Wx_) (fm : lwFr 225 338 (lwI 3) Wm_) (hk : (lexk RPv vTr Wx_ Wm_ && (vRk RPv && vTr.all (fun u_ => RPv.1.any (fun q_ => decide (q_ = u_))))) = true) (P_ : lwPg RE false 106 225 (lwI 3)) : lwPg RC false 106 225 (lwI 3) := by
  intro h_ as_ H_ X_ ⟨R0_, t_⟩ hp
  obtain ⟨v_, h1, S1, H1_, Y1, v2, h2, S2, H2_, Y2, R2, E2⟩ := P_ h_ as_ H_ X_ R0_ hp
  have Q_ := voice_prT (eq_ := false) fx fm hk lRk_v
  obtain ⟨u_, g1, D1, -, -, Q2_⟩ := Q_ h_ as_ H_ X_ (RC_p R0_.1 t_) hp
  have q1_ : h1 = g1 := congrArg (fun o => o.2.1) (xrun_un S1 D1)
  subst q1_
  obtain ⟨u2_, g2, D2, -, -, R3, -⟩ := Q2_ as_ hp (fun j_ => rfl)
  have q2_ : h2 = g2 := congrArg (fun o => o.2.1) (xrun_un S2 D2)
  subst q2_
  exact ⟨v_, h1, S1, H1_, Y1, v2, h2, S2, H2_, Y2, ⟨R2, fun q_ hq => R3.1 q_ (List.mem_append.mpr (Or.inl hq))⟩, E2⟩
theorem lwPg_cnt {Wx_ : bW} (fx : lwFr 116 0 (lwI 1) Wx_) (hW : (lWx Wx_ && (emwQ Wx_ 339 && !(biw Wx_ 338 19))) = true) (P_ : lwPg RC false 116 236 (lwI 1)) : lwPg RC true 116 236 (lwI 1) := by
  intro h_ as_ H_ X_ Rc hp
  simp only [Bool.and_eq_true] at hW
  obtain ⟨k1_, k2_, k3_⟩ := hW
  obtain ⟨v_, h1, S1, H1_, Y1, v2, h2, S2, H2_, Y2, R2, -⟩ := P_ h_ as_ H_ X_ Rc hp
  obtain ⟨⟨⟨W_, V, K_, HX, HM_⟩, S_, S', KK_, XX, M0, M1_⟩, t_⟩ := Rc
  obtain ⟨z_, b0, rfl, hp0⟩ := laS hp
  have eZ := la0 hp0
  subst eZ
  obtain ⟨u_, g1, D1, -, -, F1_⟩ := fx h_ _ H_ X_ hp
  have q1_ : h1 = g1 := congrArg (fun o => o.2.1) (xrun_un S1 D1)
  subst q1_
  obtain ⟨y_, oy⟩ := in_ex (a_ := 311) (j_ := 1) H_ (by decide +kernel)
  obtain ⟨y2, oy2⟩ := in_ex (a_ := 338) (j_ := 19) H_ (by decide +kernel)
  have ey : y_ = y2 := Int32.toInt_inj.mp ((tv_at oy).symm.trans ((t_ ((311, 1), (338, 19)) List.mem_cons_self).trans (tv_at oy2)))
  subst ey
  obtain ⟨c1_, -, r1_⟩ := x_cnt (z_ := z_) H_ HX XX.1 oy
  obtain ⟨c2_, -, r2⟩ := m_cnt (z_ := z_) H1_ (SM_fr HM_ (inv_bq H_ H1_) (fun c_ j_ hc_ => F1_ c_ j_ (lWx_ok k1_ (smc_lo hc_)))) (EMb_bw (tm10 KK_.1) M0 F1_ k2_) ((F1_ _ _ (nbw k3_)).trans oy2)
  have e1_ : v_ = cntF W_ V S_ y_ z_ := by
    have k_ : some (Jvm.Term.int v_) = some (.int (cntF W_ V S_ y_ z_)) := congrArg (fun o => o.1) (xrun_un S1 (r1_ 999 (by omega)))
    exact Jvm.Term.int.inj (Option.some.inj k_)
  have e2_ : v2 = cntF W_ V S_ y_ z_ := by
    have k_ : some (Jvm.Term.int v2) = some (.int (cntF W_ V S_ y_ z_)) := congrArg (fun o => o.1) (xrun_un S2 (r2 999 (by omega)))
    exact Jvm.Term.int.inj (Option.some.inj k_)
  exact ⟨v_, h1, S1, H1_, Y1, v2, h2, S2, H2_, Y2, R2, fun _ => e1_.trans e2_.symm⟩
