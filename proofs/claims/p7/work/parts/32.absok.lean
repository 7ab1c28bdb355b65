set_option maxHeartbeats 4000000 in
/-- WHAT THE ABSTRACT INTERPRETER SAYS HOLDS -/
theorem babs_ok {Z : List (Nat × Nat)} {I : Nat → Nat → Option bN} {mp : Nat → Nat → Nat} {mq : Nat → Nat → Nat → Nat} {jn : Nat → List bT → List bT} {gm : Nat → bT → bT → bG} (hZ : Z.length = 354) : ∀ (f d mi pc stop nb : Nat) (Ss : List bT) (r : List bT × List bRet), babs Z I mp mq jn gm f d mi pc stop nb Ss = some r → ∀ S ∈ Ss, nb ≤ S.2.1 → ∀ (p : Nat → Int) (lo : xL) (st : List Jvm.Term) (h : xH), bR Z I p S lo st h → bEnd Z I p nb d mi pc lo st h stop r.1 r.2 := by
  intro f
  induction f with
  | zero => intro d mi pc stop nb Ss r hs; cases hs
  | succ f ih =>
  intro d mi pc stop nb Ss r hs S hS hn p lo st h R
  simp only [babs] at hs
  cases hst : Nat.beq pc stop with
  | true =>
    rw [hst] at hs
    cases hs
    have e := Nat.eq_of_beq_eq_true hst
    subst e
    exact Or.inl ⟨S, hS, p, lo, st, h, fun _ _ => rfl, hn, R, fun o H => H⟩
  | false =>
  rw [hst] at hs
  simp only at hs
  rcases Ss with _ | ⟨S1, _ | ⟨S2, T⟩⟩
  · cases hS
  · have e1 := List.mem_singleton.mp hS
    subst e1
    simp only at hs
    cases hcd : xcd mi pc with
    | none => rw [hcd] at hs; cases hs
    | some e =>
    rw [hcd] at hs
    simp only at hs
    have plain : xpl e = true → (match bnx Z I mi pc e S with
            | none => none
            | some qs => match bcol (fun q : bQ => babs Z I mp mq jn gm f d mi q.1 (mp mi pc) S.2.1 [q.2]) qs with
              | none => none
              | some r => match Nat.beq (mp mi pc) stop with
                | true => some r
                | false => match bcov I gm S.2.1 r.1 (jn S.2.1 r.1) with
                  | false => none
                  | true => match babs Z I mp mq jn gm f d mi (mp mi pc) stop S.2.1 (jn S.2.1 r.1) with
                    | none => none
                    | some q => some (q.1, r.2 ++ q.2)) = some r → bEnd Z I p nb d mi pc lo st h stop r.1 r.2 := by
      intro hp hs
      cases hb : bnx Z I mi pc e S with
      | none => rw [hb] at hs; cases hs
      | some qs =>
      rw [hb] at hs
      simp only at hs
      cases hc : bcol (fun q : bQ => babs Z I mp mq jn gm f d mi q.1 (mp mi pc) S.2.1 [q.2]) qs with
      | none => rw [hc] at hs; cases hs
      | some w =>
      rw [hc] at hs
      simp only at hs
      obtain ⟨q, hq, p1, lo1, st1, h1, a1, a2, a3, a4⟩ := bnx_ok R hb
      obtain ⟨z, z1, z2, z3⟩ := bcol_ok hc q hq
      have E1 := ih d mi q.1 (mp mi pc) S.2.1 [q.2] z z1 q.2 List.mem_cons_self a2 p1 lo1 st1 h1 a3
      have E2 : bEnd Z I p S.2.1 d mi pc lo st h (mp mi pc) w.1 w.2 := bEnd_led a1 (Nat.le_refl _) (bld_step hcd hp a4) z2 z3 E1
      cases hm : Nat.beq (mp mi pc) stop with
      | true =>
        rw [hm] at hs
        cases hs
        have e2 := Nat.eq_of_beq_eq_true hm
        rw [e2] at E2
        exact bEnd_led (fun _ _ => rfl) hn (fun o H => H) (fun _ q => q) (fun _ q => q) E2
      | false =>
        rw [hm] at hs
        simp only at hs
        cases hv : bcov I gm S.2.1 w.1 (jn S.2.1 w.1) with
        | false => rw [hv] at hs; cases hs
        | true =>
        rw [hv] at hs
        simp only at hs
        cases hk : babs Z I mp mq jn gm f d mi (mp mi pc) stop S.2.1 (jn S.2.1 w.1) with
        | none => rw [hk] at hs; cases hs
        | some y =>
        rw [hk] at hs
        cases hs
        have E3 := bEnd_meet (stop := stop) (ss1 := y.1) (rs1 := y.2) E2 hv (fun J hJ b1 p' lo' st' h' R' => ih d mi (mp mi pc) stop S.2.1 _ y hk J hJ b1 p' lo' st' h' R')
        exact bEnd_led (fun _ _ => rfl) hn (fun o H => H) (fun _ q => q) (fun _ q => q) E3
    obtain ⟨i, ln, ax⟩ := e
    cases i with
    | return_ =>
      simp only at hs
      obtain ⟨r1, r2, r3, r4, r5, r6, r7, r8, r9, rx⟩ := R
      cases hsa : S.2.2.2.1 with
      | cons v l => rw [hsa] at hs; cases hs
      | nil =>
        rw [hsa] at hs r7
        simp only at hs
        cases hr9 : xr mi with
        | some ty => rw [hr9] at hs; cases hs
        | none =>
          rw [hr9] at hs
          cases hs
          cases st with
          | cons t u => exact absurd r7 id
          | nil => exact Or.inr ⟨(none, S), List.mem_cons_self, p, none, h, fun _ _ => rfl, hn, ⟨r1, r2, r5, r8, r9, rfl⟩, xrun_return hcd hr9⟩
    | ireturn =>
      simp only at hs
      obtain ⟨r1, r2, r3, r4, r5, r6, r7, r8, r9, rx⟩ := R
      cases hsa : S.2.2.2.1 with
      | nil => rw [hsa] at hs; cases hs
      | cons v l =>
        rw [hsa] at hs r7 r4
        cases l with
        | cons v2 l2 => cases hs
        | nil =>
          simp only at hs
          cases hb : brtv (xr mi) S.1 v with
          | false => rw [hb] at hs; cases hs
          | true =>
            rw [hb] at hs
            cases hs
            cases st with
            | nil => exact absurd r7 id
            | cons t u =>
              cases u with
              | cons t2 u2 => exact absurd r7.2 id
              | nil =>
                unfold bSl at r4
                simp only [List.all_cons, Bool.and_eq_true] at r4
                exact Or.inr ⟨(some v, S), List.mem_cons_self, p, some t, h, fun _ _ => rfl, hn, ⟨r1, r2, r5, r8, r9, t, rfl, r7.1, r4.1⟩, xrun_ireturn hcd (brtv_ok r1 r7.1 hb)⟩
    | areturn => cases hs
    | invokespecial idx => cases hs
    | invokestatic idx =>
      simp only at hs
      rcases ax with _ | ⟨p0, _ | ⟨cm, _ | ⟨a1, _ | ⟨b1, _ | ⟨x9, t9⟩⟩⟩⟩⟩ <;> first | (cases hs; done) | skip
      rcases d with _ | d'
      · cases hs
      simp only at hs
      cases htk : btk (xn cm) S.2.2.2.1 [] with
      | none => rw [htk] at hs; cases hs
      | some q =>
      rw [htk] at hs
      obtain ⟨as, s⟩ := q
      simp only at hs
      cases hk : (Nat.ble (basz as) (xm cm) && bcc s) with
      | false => rw [hk] at hs; cases hs
      | true =>
      rw [hk] at hs
      simp only at hs
      cases hw : babs Z I mp mq jn gm f d' cm 0 99999 S.2.1 [(S.1, S.2.1, bal 0 as, [], S.2.2.2.2)] with
      | none => rw [hw] at hs; cases hs
      | some w =>
      rw [hw] at hs
      obtain ⟨w1, w2⟩ := w
      simp only at hs
      rcases w1 with _ | ⟨y1, y2⟩
      · simp only at hs
        cases hc : bcov I gm S.2.1 (w2.map (bcl S.2.2.1 s)) (jn S.2.1 (w2.map (bcl S.2.2.1 s))) with
        | false => rw [hc] at hs; cases hs
        | true =>
        rw [hc] at hs
        simp only at hs
        obtain ⟨G, n, la, sa, ov⟩ := S
        simp only at hs hc hw htk hn
        have R0 := R
        obtain ⟨r1, r2, r3, r4, r5, r6, r7, r8, r9, rx⟩ := R0
        simp only at r1 r2 r3 r4 r5 r6 r7 r8
        simp only [Bool.and_eq_true] at hk
        obtain ⟨k3, k4⟩ := hk
        obtain ⟨ts, s', t1, t2, t3⟩ := btk_ok (ac := []) htk r7 (show bSr p [] [] from trivial)
        have hl := btk_l htk r4 rfl
        have hx : lo.all (fun q => xidx 354 q.2) = true ∧ st.all (xidx 354) = true := by
          unfold xok at rx
          simpa only [Bool.and_eq_true] using rx
        have hxa := xtk_all t1 hx.2 rfl
        have R' : bR Z I p (G, n, bal 0 as, [], ov) (xal 0 ts) [] h := by
          refine ⟨r1, r2, bal_l hl.1, rfl, r5, bal_ok t2, trivial, r8, r9, ?_⟩
          unfold xok
          simp only [Bool.and_eq_true]
          exact ⟨xal_x hxa.1, rfl⟩
        have E1 := ih d' cm 0 99999 n _ ([], w2) hw _ List.mem_cons_self (Nat.le_refl _) p _ [] h R'
        rcases E1 with ⟨S', m, -⟩ | ⟨y, ym, p', tv, h', b1, b2, b3, b4⟩
        · exact absurd m List.not_mem_nil
        obtain ⟨q1, q2, q3, q4, q5, q6⟩ := b3
        have hxo : xok 354 lo s' = true := by
          unfold xok
          simp only [Bool.and_eq_true]
          exact ⟨hx.1, hxa.2⟩
        have Rc : bR Z I p' (bcl la s y) lo (xpr tv s') h' := by
          have hs1 : bSl y.2.2.1 s = true := bSl_up b2 hl.2
          have hs2 : bSr p' s s' := bSr_ag b1 hl.2 t3
          obtain ⟨yv, yS⟩ := y
          cases yv with
          | none =>
            simp only at q6
            subst q6
            exact ⟨q1, q2, bLl_up b2 r3, hs1, q3, bLr_ag b1 r3 r6, hs2, q4, q5, hxo⟩
          | some u =>
            obtain ⟨w, rfl, g1, g2⟩ := q6
            refine ⟨q1, q2, bLl_up b2 r3, ?_, q3, bLr_ag b1 r3 r6, ⟨g1, hs2⟩, q4, q5, ?_⟩
            · unfold bSl
              simp only [bcl, List.all_cons, Bool.and_eq_true]
              exact ⟨g2, hs1⟩
            · unfold xok at hxo ⊢
              simp only [xpr, List.all_cons, Bool.and_eq_true] at hxo ⊢
              exact ⟨hxo.1, bga_x g1, hxo.2⟩
        obtain ⟨J, hJ, j1, p2, j2, j3⟩ := bcov_ok Rc (List.mem_map.mpr ⟨y, ym, rfl⟩) hc
        have E2 := ih (d' + 1) mi (pc + 3) stop n _ r hs J hJ j1 p2 lo (xpr tv s') h' j3
        refine bEnd_led (fun w hw => (j2 w (by omega)).trans (b1 w (by omega))) hn ?_ (fun _ q => q) (fun _ q => q) E2
        intro o H
        refine xrun_static hcd t1 ?_ b4 H
        have hlen : h.length = 354 := r8.1.trans hZ
        simp only [Bool.and_eq_true]
        rw [hlen, basz_ok t2]
        exact ⟨k3, bcc_ok t3 k4 hxo⟩
      · cases hs
    | invokevirtual idx =>
      simp only at hs
      rcases ax with _ | ⟨p0, _ | ⟨cm, _ | ⟨a1, _ | ⟨b1, _ | ⟨d1, _ | ⟨x9, t9⟩⟩⟩⟩⟩⟩ <;> first | (cases hs; done) | skip
      rcases d with _ | d'
      · cases hs
      simp only at hs
      cases htk : btk (xn cm) S.2.2.2.1 [] with
      | none => rw [htk] at hs; cases hs
      | some q =>
      rw [htk] at hs
      obtain ⟨as, sl⟩ := q
      simp only at hs
      rcases sl with _ | ⟨v, s⟩
      · cases hs
      simp only at hs
      cases hv : bone v with
      | none => rw [hv] at hs; cases hs
      | some a =>
      rw [hv] at hs
      simp only at hs
      cases hz : xhg Z a with
      | none => rw [hz] at hs; cases hs
      | some z =>
      rw [hz] at hs
      simp only at hs
      cases hk : (Nat.beq z.1 (xo cm) && (Nat.ble z.1 12 && (Nat.ble (basz (v :: as)) (xm cm) && bcc s))) with
      | false => rw [hk] at hs; cases hs
      | true =>
      rw [hk] at hs
      simp only at hs
      cases hw : babs Z I mp mq jn gm f d' cm 0 99999 S.2.1 [(S.1, S.2.1, bal 0 (v :: as), [], S.2.2.2.2)] with
      | none => rw [hw] at hs; cases hs
      | some w =>
      rw [hw] at hs
      obtain ⟨w1, w2⟩ := w
      simp only at hs
      rcases w1 with _ | ⟨y1, y2⟩
      · simp only at hs
        cases hc : bcov I gm S.2.1 (w2.map (bcl S.2.2.1 s)) (jn S.2.1 (w2.map (bcl S.2.2.1 s))) with
        | false => rw [hc] at hs; cases hs
        | true =>
        rw [hc] at hs
        simp only at hs
        obtain ⟨G, n, la, sa, ov⟩ := S
        simp only at hs hc hw htk hn
        have R0 := R
        obtain ⟨r1, r2, r3, r4, r5, r6, r7, r8, r9, rx⟩ := R0
        simp only at r1 r2 r3 r4 r5 r6 r7 r8
        simp only [Bool.and_eq_true] at hk
        obtain ⟨k1, k2, k3, k4⟩ := hk
        obtain ⟨ts, s0, t1, t2, t3⟩ := btk_ok (ac := []) htk r7 (show bSr p [] [] from trivial)
        have hl := btk_l htk r4 rfl
        cases s0 with
        | nil => exact absurd t3 id
        | cons t s' =>
        have e0 := bone_ok hv t3.1
        subst e0
        have hx : lo.all (fun q => xidx 354 q.2) = true ∧ st.all (xidx 354) = true := by
          unfold xok at rx
          simpa only [Bool.and_eq_true] using rx
        have hxa := xtk_all t1 hx.2 rfl
        have hxs := hxa.2
        simp only [List.all_cons, Bool.and_eq_true] at hxs
        obtain ⟨c, c1, c2, c3, c4, c5⟩ := bR_cell R hz
        have hl2 := hl.2
        unfold bSl at hl2
        simp only [List.all_cons, Bool.and_eq_true] at hl2
        have hvas : bSl n (v :: as) = true := by
          unfold bSl
          simp only [List.all_cons, Bool.and_eq_true]
          exact ⟨hl2.1, hl.1⟩
        have R' : bR Z I p (G, n, bal 0 (v :: as), [], ov) (xal 0 (.index a :: ts)) [] h := by
          refine ⟨r1, r2, bal_l hvas, rfl, r5, bal_ok ⟨t3.1, t2⟩, trivial, r8, r9, ?_⟩
          unfold xok
          simp only [Bool.and_eq_true]
          exact ⟨xal_x (by simp only [List.all_cons, Bool.and_eq_true]; exact ⟨hxs.1, hxa.1⟩), rfl⟩
        have E1 := ih d' cm 0 99999 n _ ([], w2) hw _ List.mem_cons_self (Nat.le_refl _) p _ [] h R'
        rcases E1 with ⟨S', m, -⟩ | ⟨y, ym, p', tv, h', b1, b2, b3, b4⟩
        · exact absurd m List.not_mem_nil
        obtain ⟨q1, q2, q3, q4, q5, q6⟩ := b3
        have hxo : xok 354 lo s' = true := by
          unfold xok
          simp only [Bool.and_eq_true]
          exact ⟨hx.1, hxs.2⟩
        have Rc : bR Z I p' (bcl la s y) lo (xpr tv s') h' := by
          have hs1 : bSl y.2.2.1 s = true := bSl_up b2 hl2.2
          have hs2 : bSr p' s s' := bSr_ag b1 hl2.2 t3.2
          obtain ⟨yv, yS⟩ := y
          cases yv with
          | none =>
            simp only at q6
            subst q6
            exact ⟨q1, q2, bLl_up b2 r3, hs1, q3, bLr_ag b1 r3 r6, hs2, q4, q5, hxo⟩
          | some u =>
            obtain ⟨w, rfl, g1, g2⟩ := q6
            refine ⟨q1, q2, bLl_up b2 r3, ?_, q3, bLr_ag b1 r3 r6, ⟨g1, hs2⟩, q4, q5, ?_⟩
            · unfold bSl
              simp only [bcl, List.all_cons, Bool.and_eq_true]
              exact ⟨g2, hs1⟩
            · unfold xok at hxo ⊢
              simp only [xpr, List.all_cons, Bool.and_eq_true] at hxo ⊢
              exact ⟨hxo.1, bga_x g1, hxo.2⟩
        obtain ⟨J, hJ, j1, p2, j2, j3⟩ := bcov_ok Rc (List.mem_map.mpr ⟨y, ym, rfl⟩) hc
        have E2 := ih (d' + 1) mi (pc + 3) stop n _ r hs J hJ j1 p2 lo (xpr tv s') h' j3
        refine bEnd_led (fun w hw => (j2 w (by omega)).trans (b1 w (by omega))) hn ?_ (fun _ q => q) (fun _ q => q) E2
        intro o H
        refine xrun_virtual hcd t1 c1 ?_ b4 H
        have hlen : h.length = 354 := r8.1.trans hZ
        simp only [Bool.and_eq_true]
        rw [c2, hlen, basz_ok (p := p) (l := v :: as) (ts := .index a :: ts) ⟨t3.1, t2⟩]
        exact ⟨k1, k2, k3, bcc_ok t3.2 k4 hxo⟩
      · cases hs
    | _ => exact plain rfl hs
  · simp only at hs
    cases hc : bcol (fun S => babs Z I mp mq jn gm f d mi pc (mq mi pc stop) nb [S]) (S1 :: S2 :: T) with
    | none => rw [hc] at hs; cases hs
    | some w =>
    rw [hc] at hs
    simp only at hs
    obtain ⟨z, z1, z2, z3⟩ := bcol_ok hc S hS
    have E1 := ih d mi pc (mq mi pc stop) nb [S] z z1 S List.mem_cons_self hn p lo st h R
    have E2 : bEnd Z I p nb d mi pc lo st h (mq mi pc stop) w.1 w.2 := bEnd_led (fun _ _ => rfl) (Nat.le_refl _) (fun o H => H) z2 z3 E1
    cases hm : Nat.beq (mq mi pc stop) stop with
    | true =>
      rw [hm] at hs
      cases hs
      have e2 := Nat.eq_of_beq_eq_true hm
      rw [e2] at E2
      exact E2
    | false =>
      rw [hm] at hs
      simp only at hs
      cases hv : bcov I gm nb w.1 (jn nb w.1) with
      | false => rw [hv] at hs; cases hs
      | true =>
      rw [hv] at hs
      simp only at hs
      cases hk : babs Z I mp mq jn gm f d mi (mq mi pc stop) stop nb (jn nb w.1) with
      | none => rw [hk] at hs; cases hs
      | some y =>
      rw [hk] at hs
      cases hs
      exact bEnd_meet (stop := stop) (ss1 := y.1) (rs1 := y.2) E2 hv (fun J hJ b1 p' lo' st' h' R' => ih d mi (mq mi pc stop) stop nb _ y hk J hJ b1 p' lo' st' h' R')
