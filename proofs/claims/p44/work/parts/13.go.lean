abbrev xZ : Type := Nat × xL × List Jvm.Term × xH × List xB
/-- n instructions of one method, calls whole (f: their fuel) -/
noncomputable def xgo (n f d mi pc : Nat) (lo : xL) (st : List Jvm.Term) (h : xH) (E : List xB) : Option xZ := match n with
  | 0 => some (pc, lo, st, h, E)
  | n + 1 => match xcd mi pc with
    | none => none
    | some e => match e.1 with
      | .return_ => none
      | .ireturn => none
      | .areturn => none
      | .invokevirtual _ => match e.2.2 with
        | [_, cm, _, _, _] => match d with
          | 0 => none
          | d' + 1 => match xtk (xn cm) st [] with
            | none => none
            | some q => match q.2 with
              | .index a :: s' => match xhg h a with
                | none => none
                | some c => bif Nat.beq c.1 (xo cm) && (Nat.ble c.1 12 && (Nat.ble (xasz (.index a :: q.1)) (xm cm) && xcc h.length lo s')) then (match xev f d' cm 0 (xal 0 (.index a :: q.1)) [] h E with
                  | none => none
                  | some o => xfN (pc + 3) fun pc' => xgo n f (d' + 1) mi pc' lo (xpr o.1 s') o.2.1 (E.drop (E.length - o.2.2.length))) else none
              | _ => none
        | _ => none
      | .invokespecial _ => match e.2.2 with
        | [_, cm, _, _] => bif Nat.beq cm 900 then xsp mi pc e lo st h E (fun pc lo st h E => xgo n f d mi pc lo st h E) else (match d with
          | 0 => none
          | d' + 1 => match xtk (xn cm) st [] with
            | none => none
            | some q => match q.2 with
              | .index a :: s' => bif Nat.ble (xasz (.index a :: q.1)) (xm cm) && xcc h.length lo s' then (match xev f d' cm 0 (xal 0 (.index a :: q.1)) [] h E with
                  | none => none
                  | some o => xfN (pc + 3) fun pc' => xgo n f (d' + 1) mi pc' lo (xpr o.1 s') o.2.1 (E.drop (E.length - o.2.2.length))) else none
              | _ => none)
        | _ => none
      | .invokestatic _ => match e.2.2 with
        | [_, cm, _, _] => match d with
          | 0 => none
          | d' + 1 => match xtk (xn cm) st [] with
            | none => none
            | some q => bif Nat.ble (xasz q.1) (xm cm) && xcc h.length lo q.2 then (match xev f d' cm 0 (xal 0 q.1) [] h E with
                  | none => none
                  | some o => xfN (pc + 3) fun pc' => xgo n f (d' + 1) mi pc' lo (xpr o.1 q.2) o.2.1 (E.drop (E.length - o.2.2.length))) else none
        | [_, _, _, _, _] => xsp mi pc e lo st h E (fun pc lo st h E => xgo n f d mi pc lo st h E)
        | _ => none
      | _ => xsp mi pc e lo st h E (fun pc lo st h E => xgo n f d mi pc lo st h E)
theorem xgo_mono (f : Nat) : ∀ (n d mi pc : Nat) (lo : xL) (st : List Jvm.Term) (h : xH) (E : List xB) (o : xZ), xgo n f d mi pc lo st h E = some o → h.length ≤ o.2.2.2.1.length ∧ xhz h ≤ xhz o.2.2.2.1 ∧ (xhw h → xhw o.2.2.2.1) := by
  intro n
  induction n with
  | zero => intro d mi pc lo st h E o hs; cases hs; exact ⟨Nat.le_refl _, Nat.le_refl _, fun q => q⟩
  | succ n ih =>
    intro d mi pc lo st h E o hs
    simp only [xgo, xhg_eq] at hs
    have gen : ∀ e : Instr × Nat × List Nat, xsp mi pc e lo st h E (fun pc lo st h E => xgo n f d mi pc lo st h E) = some o → h.length ≤ o.2.2.2.1.length ∧ xhz h ≤ xhz o.2.2.2.1 ∧ (xhw h → xhw o.2.2.2.1) := by
      intro e hs
      obtain ⟨pc', lo', st', h', E', hk, h1, h2, h4⟩ := xsp_mono hs
      have h3 := ih d mi pc' lo' st' h' E' o hk
      exact ⟨Nat.le_trans h1 h3.1, Nat.le_trans h2 h3.2.1, fun q => h3.2.2 (h4 q)⟩
    have two : ∀ (d1 m1 : Nat) (l1 : xL) (d2 p2 : Nat) (st2 : Option Jvm.Term → List Jvm.Term) (E2 : xO → List xB), (match xev f d1 m1 0 l1 [] h E with
      | none => none
      | some o => xfN p2 fun pc' => xgo n f d2 mi pc' lo (st2 o.1) o.2.1 (E2 o)) = some o → h.length ≤ o.2.2.2.1.length ∧ xhz h ≤ xhz o.2.2.2.1 ∧ (xhw h → xhw o.2.2.2.1) := by
      intro d1 m1 l1 d2 p2 st2 E2 hs
      cases h1 : xev f d1 m1 0 l1 [] h E with
      | none => rw [h1] at hs; cases hs
      | some o1 =>
        rw [h1] at hs
        simp only [xfN_eq] at hs
        have a1 := xev_mono _ _ _ _ _ _ _ _ _ h1
        have a2 := ih _ _ _ _ _ _ _ _ hs
        exact ⟨Nat.le_trans a1.1 a2.1, Nat.le_trans a1.2.1 a2.2.1, fun q => a2.2.2 (a1.2.2 q)⟩
    cases hcd : xcd mi pc with
    | none => rw [hcd] at hs; cases hs
    | some e0 =>
      rw [hcd] at hs
      simp only [Bool.cond_eq_ite] at hs
      repeat' (first | (exact gen _ hs) | (exact two _ _ _ _ _ (fun v => xpr v _) (fun o => E.drop (E.length - o.2.2.length)) hs) | (cases hs; done) | (cases hs; exact ⟨Nat.le_refl _, Nat.le_refl _⟩) | split at hs)
/-- what a stretch says -/
def xS2 (r : Nat → Value) (d mi pc : Nat) (lo : xL) (st : List Jvm.Term) (h : xH) (E : List xB) (o : xZ) : Prop :=
  h.length ≤ o.2.2.2.1.length ∧ xhz h ≤ xhz o.2.2.2.1 ∧ ((∀ q ∈ E, xhold r q) → ∀ (p : Program) (l : Launch) (e : Env) (R : Room) (s : State) (m : MethodId) (args : Array Value) (below : List Frame) (meth : Method) (c : Code) (Q : State → Prop) (D : va_G) (dA : Nat → ClassId) (A : Nat → Prop) (n0 z0 : Nat) (ad0 : Nat → Nat), xCx p R s m args meth c r D dA A s.heap mi → d + 1 ≤ R.frames → 64 * (d + 1) ≤ R.locals → o.2.2.2.1.length - n0 ≤ R.cells → xhz o.2.2.2.1 - z0 ≤ R.slots →
    ((∀ q ∈ o.2.2.2.2, xhold r q) → xCf p l e R s m args below meth c Q r D dA A s.heap n0 z0 ad0 (xm mi) o.1 o.2.1 o.2.2.1 o.2.2.2.1) →
    xCf p l e R s m args below meth c Q r D dA A s.heap n0 z0 ad0 (xm mi) pc lo st h)
set_option maxHeartbeats 4000000 in
theorem xgo_sound (hT : xTok) {r : Nat → Value} (hr : xRr r) (f : Nat) : ∀ (n d mi pc : Nat) (lo : xL) (st : List Jvm.Term) (h : xH) (E : List xB) (o : xZ), xgo n f d mi pc lo st h E = some o → xS2 r d mi pc lo st h E o := by
  intro n
  induction n with
  | zero => intro d mi pc lo st h E o hs; cases hs; exact ⟨Nat.le_refl _, Nat.le_refl _, fun hE p l e R s m args below meth c Q D dA A n0 z0 ad0 G hRf hRl hRc hRs hQ => hQ hE⟩
  | succ n ih =>
  intro d mi pc lo st h E o hs
  have hmo := xgo_mono _ _ _ _ _ _ _ _ _ _ hs
  refine ⟨hmo.1, hmo.2.1, fun hE p l e R s m args below meth c Q D dA A n0 z0 ad0 G hRf hRl hRc hRs hQ => ?_⟩
  simp only [xgo, xhg_eq] at hs
  cases hcd : xcd mi pc with
  | none => rw [hcd] at hs; cases hs
  | some e0 =>
  rw [hcd] at hs
  have htk := hT mi pc e0 hcd
  simp only [xEb, Bool.and_eq_true, decide_eq_true_eq] at htk
  obtain ⟨hd, hln, hau⟩ := htk
  have gen : xsp mi pc e0 lo st h E (fun pc lo st h E => xgo n f d mi pc lo st h E) = some o → xCf p l e R s m args below meth c Q r D dA A s.heap n0 z0 ad0 (xm mi) pc lo st h := by
    intro hs
    obtain ⟨pc', lo', st', h', E', hk, hE', h1, h2, hC⟩ := xstep (l := l) (e := e) (below := below) (Q := Q) (n0 := n0) (z0 := z0) (ad0 := ad0) G hd hln hau hs
    have hI := ih d mi pc' lo' st' h' E' o hk
    exact hC (by have := hI.1; omega) (by have := hI.2.1; omega) hE (hI.2.2 (hE' hE) p l e R s m args below meth c Q D dA A n0 z0 ad0 G hRf hRl hRc hRs hQ)
  obtain ⟨hx, hb, hml, hts, hK, hNw, hown, -, hA, hin, hR1, hR64, hSt⟩ := id G
  obtain ⟨i, ln, ax⟩ := e0
  simp only at hd hln hau
  cases i with
  | return_ => cases hs
  | ireturn => cases hs
  | areturn => cases hs
  | invokevirtual idx =>
    have hd1 : decode (xb mi) pc = .ok (.invokevirtual idx, 3) := by rw [hd, Nat.eq_of_beq_eq_true (show Nat.beq ln _ = true from hln)]; rfl
    rcases ax with _ | ⟨p0, _ | ⟨cm, _ | ⟨a1, _ | ⟨b1, _ | ⟨d1, _ | ⟨x9, t9⟩⟩⟩⟩⟩⟩ <;> first | (cases hs; done) | skip
    rcases d with _ | d'
    · cases hs
    simp only at hs
    cases htk : xtk (xn cm) st [] with
    | none => rw [htk] at hs; cases hs
    | some q =>
    rw [htk] at hs
    obtain ⟨as, st2⟩ := q
    simp only at hs
    rcases st2 with _ | ⟨t0, s'⟩
    · cases hs
    cases t0 <;> first | (cases hs; done) | skip
    rename_i a
    simp only at hs
    cases hc : h[a]? with
    | none => rw [hc] at hs; cases hs
    | some c0 =>
    rw [hc] at hs
    simp only at hs
    cases hk : (Nat.beq c0.1 (xo cm) && (Nat.ble c0.1 12 && (Nat.ble (xasz (.index a :: as)) (xm cm) && xcc h.length lo s'))) with
    | false => simp [hk] at hs
    | true =>
    simp only [hk, cond_true] at hs
    cases ho : xev f d' cm 0 (xal 0 (.index a :: as)) [] h E with
    | none => rw [ho] at hs; cases hs
    | some o1 =>
    rw [ho] at hs
    simp only [xfN_eq] at hs
    simp only [Bool.and_eq_true] at hk
    obtain ⟨k1, k2, k3, k4⟩ := hk
    have hau := (Bool.and_eq_true_iff.mp hau).2
    simp only [Bool.and_eq_true, decide_eq_true_eq] at hau
    obtain ⟨u1, u2, u3, u4, u5, u6⟩ := hau
    obtain ⟨b, hb1, hb2, hb3⟩ := xtk_ok htk
    rw [List.append_nil] at hb1
    subst hb1
    subst hb2
    have m1 := xev_mono _ _ _ _ _ _ _ _ _ ho
    have m2 := xgo_mono _ _ _ _ _ _ _ _ _ _ hs
    intro hn hz hw0 ad H locs ls hag hP hD hS hl
    have hM := xmet hr u6 hw0 (xev_sound hT hr f d' cm 0 _ _ h E o1 ho) hE k3 l D dA ad H.size
    have hcb := xcb (d := d') (mc := o1.2.1.length - h.length) (ms := xhz o1.2.1 - xhz h) G u1 u6 (hts _ (xw u3 rfl)) (by omega) (by omega)
    have hcc := k4
    simp only [xcc, Bool.and_eq_true] at hcc
    have h6 := Nat.le_of_ble_eq_true hcc.1
    have hsm := xsum hr ad hcc.2.1
    have e1 := Nat.eq_of_beq_eq_true k1
    have e2 := Nat.le_of_ble_eq_true k2
    have he := xwv_at (r := r) (ad := ad) (dA := dA) hc
    rw [xcv_obj (by omega), e1] at he
    have hrc := va_recv hK hP (xcl (xo cm) (by omega)) he
    have hA1 := va_free hD hS hA (List.range (xwv r ad dA h).length) (wc := xwv r ad dA h) (by apply List.ext_getElem?; intro j; simp only [List.getElem?_map, List.getElem?_range']; by_cases hj : j < (xwv r ad dA h).length <;> simp [hj])
    have hpS := xpreS (av := (.index a :: as).map (xdv r ad)) (r := r) hK hNw hP hD hSt.2.1 hS hA1
    have hstk : (F0 m pc ls ((as.reverse ++ .index a :: s').map (xdv r ad))).stack = (as.map (xdv r ad)).reverse ++ .ref (ad a) :: s'.map (xdv r ad) := by simp [List.map_append, List.map_reverse, xdv]
    have K := (ih (d' + 1) mi (pc + 3) lo _ _ _ o hs).2.2 (fun q hq => hE q (List.mem_of_mem_drop hq)) p l e R s m args below meth c Q D dA A n0 z0 ad0 G hRf hRl hRc hRs hQ
    rcases hcb with hcb | hcb
    · exact xbehind (mi := mi) (va_runV (As := as.map (xdv r ad)) ⟨hx, hb, hml, hown, hts⟩ hM ⟨hcb, hts _ (xw u2 rfl), hts _ (xw u4 rfl)⟩ ⟨hpS.1, hrc, hpS.2⟩ rfl (by rw [List.length_map]; exact hb3) hl.1 hstk (lv_room (by omega)) hd1 ⟨by omega, by omega⟩) hS hA1 hA1 hn hz m1.1 m1.2.1 (m1.2.2 hw0) hag hl k4 K
    · exact xbehind (mi := mi) (va_runVN (As := as.map (xdv r ad)) ⟨hx, hb, hml, hown, hts⟩ hM ⟨hcb, hts _ (xw u2 rfl), hts _ (xw u4 rfl)⟩ ⟨hpS.1, hrc, hpS.2⟩ rfl (by rw [List.length_map]; exact hb3) hl.1 hstk (lv_room (by omega)) hd1 ⟨by omega, by omega⟩) hS hA1 hA1 hn hz m1.1 m1.2.1 (m1.2.2 hw0) hag hl k4 K
  | invokespecial idx =>
    have hd1 : decode (xb mi) pc = .ok (.invokespecial idx, 3) := by rw [hd, Nat.eq_of_beq_eq_true (show Nat.beq ln _ = true from hln)]; rfl
    rcases ax with _ | ⟨p0, _ | ⟨cm, _ | ⟨a1, _ | ⟨b1, _ | ⟨x9, t9⟩⟩⟩⟩⟩ <;> first | (cases hs; done) | skip
    simp only at hs
    cases h900 : Nat.beq cm 900 with
    | true => rw [h900, cond_true] at hs; exact gen hs
    | false =>
    rw [h900, cond_false] at hs
    rcases d with _ | d'
    · cases hs
    simp only at hs
    cases htk : xtk (xn cm) st [] with
    | none => rw [htk] at hs; cases hs
    | some q =>
    rw [htk] at hs
    obtain ⟨as, st2⟩ := q
    simp only at hs
    rcases st2 with _ | ⟨t0, s'⟩
    · cases hs
    cases t0 <;> first | (cases hs; done) | skip
    rename_i a
    simp only at hs
    cases hk : (Nat.ble (xasz (.index a :: as)) (xm cm) && xcc h.length lo s') with
    | false => simp [hk] at hs
    | true =>
    simp only [hk, cond_true] at hs
    cases ho : xev f d' cm 0 (xal 0 (.index a :: as)) [] h E with
    | none => rw [ho] at hs; cases hs
    | some o1 =>
    rw [ho] at hs
    simp only [xfN_eq] at hs
    simp only [Bool.and_eq_true] at hk
    obtain ⟨k3, k4⟩ := hk
    have hau := (Bool.and_eq_true_iff.mp hau).2
    simp only [h900] at hau
    simp only [Bool.and_eq_true, decide_eq_true_eq] at hau
    obtain ⟨u1, u2, u3, u4, u5, u6⟩ := hau
    obtain ⟨b, hb1, hb2, hb3⟩ := xtk_ok htk
    rw [List.append_nil] at hb1
    subst hb1
    subst hb2
    have m1 := xev_mono _ _ _ _ _ _ _ _ _ ho
    have m2 := xgo_mono _ _ _ _ _ _ _ _ _ _ hs
    intro hn hz hw0 ad H locs ls hag hP hD hS hl
    have hM := xmet hr u6 hw0 (xev_sound hT hr f d' cm 0 _ _ h E o1 ho) hE k3 l D dA ad H.size
    have hcb := xcb (d := d') (mc := o1.2.1.length - h.length) (ms := xhz o1.2.1 - xhz h) G u1 u6 (hts _ (xw u3 rfl)) (by omega) (by omega)
    rw [u5] at hcb
    have hcc := k4
    simp only [xcc, Bool.and_eq_true] at hcc
    have h6 := Nat.le_of_ble_eq_true hcc.1
    have hsm := xsum hr ad hcc.2.1
    have hA1 := va_free hD hS hA (List.range (xwv r ad dA h).length) (wc := xwv r ad dA h) (by apply List.ext_getElem?; intro j; simp only [List.getElem?_map, List.getElem?_range']; by_cases hj : j < (xwv r ad dA h).length <;> simp [hj])
    have hpS := xpreS (av := (.index a :: as).map (xdv r ad)) (r := r) hK hNw hP hD hSt.2.1 hS hA1
    have hstk : (F0 m pc ls ((as.reverse ++ .index a :: s').map (xdv r ad))).stack = (as.map (xdv r ad)).reverse ++ .ref (ad a) :: s'.map (xdv r ad) := by simp [List.map_append, List.map_reverse, xdv]
    have K := (ih (d' + 1) mi (pc + 3) lo _ _ _ o hs).2.2 (fun q hq => hE q (List.mem_of_mem_drop hq)) p l e R s m args below meth c Q D dA A n0 z0 ad0 G hRf hRl hRc hRs hQ
    rcases hcb with hcb | hcb
    · exact xbehind (mi := mi) (va_runI (As := as.map (xdv r ad)) ⟨hx, hb, hml, hown, hts⟩ hM ⟨hcb, u4, hts _ (xw u2 rfl)⟩ hpS rfl (by rw [List.length_map]; exact hb3) hl.1 hstk (lv_room (by omega)) hd1 ⟨by omega, by omega⟩) hS hA1 hA1 hn hz m1.1 m1.2.1 (m1.2.2 hw0) hag hl k4 K
    · exact xbehind (mi := mi) (va_runIN (As := as.map (xdv r ad)) ⟨hx, hb, hml, hown, hts⟩ hM ⟨hcb, u4, hts _ (xw u2 rfl)⟩ hpS rfl (by rw [List.length_map]; exact hb3) hl.1 hstk (lv_room (by omega)) hd1 ⟨by omega, by omega⟩) hS hA1 hA1 hn hz m1.1 m1.2.1 (m1.2.2 hw0) hag hl k4 K
  | invokestatic idx =>
    have hd1 : decode (xb mi) pc = .ok (.invokestatic idx, 3) := by rw [hd, Nat.eq_of_beq_eq_true (show Nat.beq ln _ = true from hln)]; rfl
    rcases ax with _ | ⟨p0, _ | ⟨cm, _ | ⟨a1, _ | ⟨b1, _ | ⟨d1, _ | ⟨x9, t9⟩⟩⟩⟩⟩⟩ <;> first | (cases hs; done) | (exact gen hs) | skip
    rcases d with _ | d'
    · cases hs
    simp only at hs
    cases htk : xtk (xn cm) st [] with
    | none => rw [htk] at hs; cases hs
    | some q =>
    rw [htk] at hs
    obtain ⟨as, s'⟩ := q
    simp only at hs
    cases hk : (Nat.ble (xasz as) (xm cm) && xcc h.length lo s') with
    | false => simp [hk] at hs
    | true =>
    simp only [hk, cond_true] at hs
    cases ho : xev f d' cm 0 (xal 0 as) [] h E with
    | none => rw [ho] at hs; cases hs
    | some o1 =>
    rw [ho] at hs
    simp only [xfN_eq] at hs
    simp only [Bool.and_eq_true] at hk
    obtain ⟨k3, k4⟩ := hk
    have hau := (Bool.and_eq_true_iff.mp hau).2
    simp only [Bool.and_eq_true, decide_eq_true_eq] at hau
    obtain ⟨u1, u2, u3, u6⟩ := hau
    obtain ⟨b, hb1, hb2, hb3⟩ := xtk_ok htk
    rw [List.append_nil] at hb1
    subst hb1
    subst hb2
    have m1 := xev_mono _ _ _ _ _ _ _ _ _ ho
    have m2 := xgo_mono _ _ _ _ _ _ _ _ _ _ hs
    intro hn hz hw0 ad H locs ls hag hP hD hS hl
    have hM := xmet hr u6 hw0 (xev_sound hT hr f d' cm 0 _ _ h E o1 ho) hE k3 l D dA ad H.size
    have hcb := xcb (d := d') (mc := o1.2.1.length - h.length) (ms := xhz o1.2.1 - xhz h) G u1 u6 (hts _ (xw u3 rfl)) (by omega) (by omega)
    have hcc := k4
    simp only [xcc, Bool.and_eq_true] at hcc
    have h6 := Nat.le_of_ble_eq_true hcc.1
    have hsm := xsum hr ad hcc.2.1
    have hA1 := va_free hD hS hA (List.range (xwv r ad dA h).length) (wc := xwv r ad dA h) (by apply List.ext_getElem?; intro j; simp only [List.getElem?_map, List.getElem?_range']; by_cases hj : j < (xwv r ad dA h).length <;> simp [hj])
    have hpS := xpreS (av := as.map (xdv r ad)) (r := r) hK hNw hP hD hSt.2.1 hS hA1
    have hstk : (F0 m pc ls ((as.reverse ++ s').map (xdv r ad))).stack = (as.map (xdv r ad)).reverse ++ s'.map (xdv r ad) := by simp [List.map_append, List.map_reverse]
    have K := (ih (d' + 1) mi (pc + 3) lo _ _ _ o hs).2.2 (fun q hq => hE q (List.mem_of_mem_drop hq)) p l e R s m args below meth c Q D dA A n0 z0 ad0 G hRf hRl hRc hRs hQ
    rcases hcb with hcb | hcb
    · exact xbehind (mi := mi) (va_runS (As := as.map (xdv r ad)) ⟨hx, hb, hml, hown, hts⟩ hM ⟨hcb, hts _ (xw u2 rfl)⟩ hpS rfl (by rw [List.length_map]; exact hb3) hl.1 hstk (lv_room (by omega)) hd1 ⟨by omega, by omega⟩) hS hA1 hA1 hn hz m1.1 m1.2.1 (m1.2.2 hw0) hag hl k4 K
    · exact xbehind (mi := mi) (va_runSN (As := as.map (xdv r ad)) ⟨hx, hb, hml, hown, hts⟩ hM ⟨hcb, hts _ (xw u2 rfl), trivial⟩ hpS rfl (by rw [List.length_map]; exact hb3) hl.1 hstk (lv_room (by omega)) hd1 ⟨by omega, by omega⟩) hS hA1 hA1 hn hz m1.1 m1.2.1 (m1.2.2 hw0) hag hl k4 K
  | _ => exact gen hs
