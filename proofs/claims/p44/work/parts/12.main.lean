-- ===== calls
section
variable {p : Program} {l : Launch} {e : Env} {R : Room} {s : State} {m : MethodId} {args : Array Value} {below : List Frame} {meth : Method} {c : Code} {Q : State → Prop} {r : Nat → Value} {D : va_G} {dA : Nat → ClassId} {A : Nat → Prop} {mi pc : Nat}
/-- the callee's words, and its link, by the table's row -/
theorem xcb (G : xCx p R s m args meth c r D dA A s.heap mi) {idx p0 cm d mc ms : Nat} (hl : xlnk mi idx p0 cm = true) (hm : xmok cm = true) (hini : (Cond.initialized (xy cm).cls).before args s = true) (hRf : d + 2 ≤ R.frames) (hRl : 64 * (d + 2) ≤ R.locals) :
    CallB R s args (xRn (xo mi)) idx (xy cm) (xb cm) (xm cm) (xr cm) (xws cm) (xroom d mc ms) mc ms (xn cm) ∨ va_CN R s args (xRn (xo mi)) idx (xy cm) xhost (xb cm) (xm cm) (xr cm) (xws cm) (xroom d mc ms) mc ms (xn cm) := by
  obtain ⟨hx, hb, hml, hts, hK, hNw, hown, hr, hA, hin, -, -, -⟩ := G
  simp only [xmok, Bool.and_eq_true, decide_eq_true_eq] at hm
  obtain ⟨hcw, hpl, hn1, hn2, hn3, hml20, hcl, -⟩ := hm
  have hm20 := Nat.le_of_ble_eq_true hml20
  have hR : (xroom d mc ms).frames + 1 ≤ R.frames ∧ 8 + (xm cm + 11) + (xroom d mc ms).locals ≤ R.locals := ⟨hRf, by show 8 + (xm cm + 11) + 64 * (d + 1) ≤ R.locals; omega⟩
  unfold xlnk at hl
  split at hl
  · right
    simp only [decide_eq_true_eq] at hl
    exact va_cnB (xn cm) hts (xws_good cm hcw) rfl rfl rfl (hNw.1 (xo mi, idx, cm) (List.mem_of_getElem? hl)) hini ⟨hn1, hn2, hn3⟩ hR
  · left
    simp only [decide_eq_true_eq] at hl
    exact callB_of (xn cm) hts (xws_good cm hcw) rfl rfl rfl hini (hts _ (xw hl rfl)) ⟨hn1, hn2, hn3⟩ hR
/-- what stands behind a call -/
theorem xbehind {H : Heap} {locs : List Loc} {ls : Array Slot} {st0 : List Value} {v : Option Jvm.Term} {h h1 : xH} {n0 z0 : Nat} {ad ad0 : Nat → Nat} {a : Array Value} {free : Addr → Prop} {lo : xL} {s' : List Jvm.Term}
    (hr : va_Run p l e R s m args below meth c H locs (h.length - n0) (xhz h - z0) (h1.length - h.length) (xhz h1 - xhz h) (F0 m pc ls st0) (s'.map (xdv r ad)) (xQ r D dA v h h1 ad H.size a) free) (hS : va_S A s.heap H locs) (hA1 : ∀ q, va_A (xwv r ad dA h) H.size q → A q) (hf : ∀ q, free q → A q)
    (hn : n0 ≤ h.length) (hz : z0 ≤ xhz h) (hn1 : h.length ≤ h1.length) (hz1 : xhz h ≤ xhz h1) (hw1 : xhw h1) (hag : ∀ i, i < n0 → ad i = ad0 i) (hl : lv_has ls (xm mi) (lo.map (fun q => (q.1, xdv r ad q.2)))) (hcc : xcc h.length lo s' = true)
    (K : xCf p l e R s m args below meth c Q r D dA A s.heap n0 (z0) ad0 (xm mi) (pc + 3) lo (xpr v s') h1) : W p l e R s m args below meth c H locs (h.length - n0) (xhz h - z0) Q (F0 m pc ls st0) := by
  simp only [xcc, Bool.and_eq_true] at hcc
  obtain ⟨-, -, hc1, hc2⟩ := hcc
  refine xcont hr hS hA1 hf (fun ad' H1 locs1 hag' hP1 hD1 hS1 => ?_)
  have K' := K (by omega) (by omega) hw1 ad' H1 locs1 ls (fun i hi => by rw [hag' i (by omega)]; exact hag i hi) hP1 hD1 hS1 (by rw [xlo_ag hag' hc1]; exact hl)
  have e1 : h.length - n0 + (h1.length - h.length) = h1.length - n0 := by omega
  have e2 : xhz h - z0 + (xhz h1 - xhz h) = xhz h1 - z0 := by omega
  rw [e1, e2]
  have e3 : (xpr v s').map (xdv r ad') = (v.map (xdv r ad')).toList ++ s'.map (xdv r ad) := by
    rw [← xmap_ag hag' hc2]
    cases v <;> rfl
  rw [← e3]
  exact K'
end
set_option maxHeartbeats 4000000 in
/-- WHAT THE EVALUATOR SAYS HOLDS OF THE MACHINE -/
theorem xev_sound (hT : xTok) {r : Nat → Value} (hr : xRr r) : ∀ (f d mi pc : Nat) (lo : xL) (st : List Jvm.Term) (h : xH) (E : List xB) (o : xO), xev f d mi pc lo st h E = some o → xS1 r d mi pc lo st h E o := by
  intro f
  induction f with
  | zero => intro d mi pc lo st h E o hs; cases hs
  | succ f ih =>
  intro d mi pc lo st h E o hs
  have hmo := xev_mono _ _ _ _ _ _ _ _ _ hs
  refine ⟨hmo.1, hmo.2.1, fun hE p l e R s m args below meth c Q D dA A n0 z0 ad0 G hRf hRl hRc hRs hQ => ?_⟩
  simp only [xev, xhg_eq] at hs
  cases hcd : xcd mi pc with
  | none => rw [hcd] at hs; cases hs
  | some e0 =>
  rw [hcd] at hs
  have htk := hT mi pc e0 hcd
  simp only [xEb, Bool.and_eq_true, decide_eq_true_eq] at htk
  obtain ⟨hd, hln, hau⟩ := htk
  have gen : xsp mi pc e0 lo st h E (fun pc lo st h E => xev f d mi pc lo st h E) = some o → xCf p l e R s m args below meth c Q r D dA A s.heap n0 z0 ad0 (xm mi) pc lo st h := by
    intro hs
    obtain ⟨pc', lo', st', h', E', hk, hE', h1, h2, hC⟩ := xstep (l := l) (e := e) (below := below) (Q := Q) (n0 := n0) (z0 := z0) (ad0 := ad0) G hd hln hau hs
    have hI := ih d mi pc' lo' st' h' E' o hk
    exact hC (by have := hI.1; omega) (by have := hI.2.1; omega) hE (hI.2.2 (hE' hE) p l e R s m args below meth c Q D dA A n0 z0 ad0 G hRf hRl hRc hRs hQ)
  obtain ⟨hx, hb, hml, hts, hK, hNw, hown, -, hA, hin, hR1, hR64, hSt⟩ := id G
  obtain ⟨i, ln, ax⟩ := e0
  simp only at hd hln hau
  cases i with
  | return_ =>
    have hd1 : decode (xb mi) pc = .ok (.return_, 1) := by rw [hd, Nat.eq_of_beq_eq_true (show Nat.beq ln _ = true from hln)]; rfl
    rcases st with _ | ⟨t, st⟩
    · simp only at hs
      cases hr9 : xr mi with
      | some ty => rw [hr9] at hs; cases hs
      | none =>
        rw [hr9] at hs
        cases hs
        intro hn hz hw0 ad H locs ls hag hP hD hS hl
        exact hQ pc ad H locs ls (Or.inl ⟨rfl, hr9, hd1⟩) hn hz hag hP hD hS
    · cases hs
  | ireturn =>
    have hd1 : decode (xb mi) pc = .ok (.ireturn, 1) := by rw [hd, Nat.eq_of_beq_eq_true (show Nat.beq ln _ = true from hln)]; rfl
    rcases st with _ | ⟨t, _ | ⟨t2, st⟩⟩
    · cases hs
    · simp only at hs
      cases ht : xrt (xr mi) t with
      | false => simp [ht] at hs
      | true =>
        simp only [ht, cond_true] at hs
        cases hs
        intro hn hz hw0 ad H locs ls hag hP hD hS hl
        exact hQ pc ad H locs ls (Or.inr (Or.inl ⟨t, rfl, ht, hd1⟩)) hn hz hag hP hD hS
    · cases hs
  | areturn =>
    have hd1 : decode (xb mi) pc = .ok (.areturn, 1) := by rw [hd, Nat.eq_of_beq_eq_true (show Nat.beq ln _ = true from hln)]; rfl
    rcases st with _ | ⟨t, _ | ⟨t2, st⟩⟩
    · cases hs
    · simp only at hs
      cases ht : xrr (xr mi) t with
      | false => simp [ht] at hs
      | true =>
        simp only [ht, cond_true] at hs
        cases hs
        intro hn hz hw0 ad H locs ls hag hP hD hS hl
        exact hQ pc ad H locs ls (Or.inr (Or.inr ⟨t, rfl, ht, hd1⟩)) hn hz hag hP hD hS
    · cases hs
  | invokevirtual idx =>
    have hd1 : decode (xb mi) pc = .ok (.invokevirtual idx, 3) := by rw [hd, Nat.eq_of_beq_eq_true (show Nat.beq ln _ = true from hln)]; rfl
    rcases ax with _ | ⟨p0, _ | ⟨cm, _ | ⟨a1, _ | ⟨b1, _ | ⟨d1, _ | ⟨e9, _ | ⟨x9, t9⟩⟩⟩⟩⟩⟩⟩ <;> first | (cases hs; done) | skip
    rotate_left
    · simp only at hs
      cases h9 : xixs d h.length lo st with
      | none => rw [h9] at hs; cases hs
      | some st' =>
      rw [h9] at hs
      simp only [xfN_eq] at hs
      obtain ⟨x, z, q, s', rfl, hk, hq, rfl⟩ := xixs_ok h9
      simp only [Bool.and_eq_true] at hk
      obtain ⟨k1, k2, k3⟩ := hk
      have k1 := Nat.le_of_ble_eq_true k1
      have K := (ih d mi (pc + 3) lo _ _ _ o hs).2.2 hE p l e R s m args below meth c Q D dA A n0 z0 ad0 G hRf hRl hRc hRs hQ
      exact xs_indexOf G hd1 hau k2 hq k3 ⟨by omega, by omega⟩ (by have := hmo.1; omega) (by have := hmo.2.1; omega) K
    rcases d with _ | d'
    · cases hs
    simp only at hs
    cases htk : xtk (xn cm) st [] with
    | none => rw [htk] at hs; cases hs
    | some q =>
    rw [htk] at hs
    obtain ⟨as, st2⟩ := q
    simp only at hs
    rcases st2 with _ | ⟨t0, s'⟩
    · cases hs
    cases t0 <;> first | (cases hs; done) | skip
    rename_i a
    simp only at hs
    cases hc : h[a]? with
    | none => rw [hc] at hs; cases hs
    | some c0 =>
    rw [hc] at hs
    simp only at hs
    cases hk : (Nat.beq c0.1 (xo cm) && (Nat.ble c0.1 12 && (Nat.ble (xasz (.index a :: as)) (xm cm) && xcc h.length lo s'))) with
    | false => simp [hk] at hs
    | true =>
    simp only [hk, cond_true] at hs
    cases ho : xev f d' cm 0 (xal 0 (.index a :: as)) [] h E with
    | none => rw [ho] at hs; cases hs
    | some o1 =>
    rw [ho] at hs
    simp only [xfN_eq] at hs
    simp only [Bool.and_eq_true] at hk
    obtain ⟨k1, k2, k3, k4⟩ := hk
    have hau := (Bool.and_eq_true_iff.mp hau).2
    simp only [Bool.and_eq_true, decide_eq_true_eq] at hau
    obtain ⟨u1, u2, u3, u4, u5, u6⟩ := hau
    obtain ⟨b, hb1, hb2, hb3⟩ := xtk_ok htk
    rw [List.append_nil] at hb1
    subst hb1
    subst hb2
    have m1 := xev_mono _ _ _ _ _ _ _ _ _ ho
    have m2 := xev_mono _ _ _ _ _ _ _ _ _ hs
    intro hn hz hw0 ad H locs ls hag hP hD hS hl
    have hM := xmet hr u6 hw0 (ih d' cm 0 _ _ h E o1 ho) hE k3 l D dA ad H.size
    have hcb := xcb (d := d') (mc := o1.2.1.length - h.length) (ms := xhz o1.2.1 - xhz h) G u1 u6 (hts _ (xw u3 rfl)) (by omega) (by omega)
    have hcc := k4
    simp only [xcc, Bool.and_eq_true] at hcc
    have h6 := Nat.le_of_ble_eq_true hcc.1
    have hsm := xsum hr ad hcc.2.1
    have e1 := Nat.eq_of_beq_eq_true k1
    have e2 := Nat.le_of_ble_eq_true k2
    have he := xwv_at (r := r) (ad := ad) (dA := dA) hc
    rw [xcv_obj (by omega), e1] at he
    have hrc := va_recv hK hP (xcl (xo cm) (by omega)) he
    have hA1 := va_free hD hS hA (List.range (xwv r ad dA h).length) (wc := xwv r ad dA h) (by apply List.ext_getElem?; intro j; simp only [List.getElem?_map, List.getElem?_range']; by_cases hj : j < (xwv r ad dA h).length <;> simp [hj])
    have hpS := xpreS (av := (.index a :: as).map (xdv r ad)) (r := r) hK hNw hP hD hSt.2.1 hS hA1
    have hstk : (F0 m pc ls ((as.reverse ++ .index a :: s').map (xdv r ad))).stack = (as.map (xdv r ad)).reverse ++ .ref (ad a) :: s'.map (xdv r ad) := by simp [List.map_append, List.map_reverse, xdv]
    have K := (ih (d' + 1) mi (pc + 3) lo _ _ _ o hs).2.2 (fun q hq => hE q (List.mem_of_mem_drop hq)) p l e R s m args below meth c Q D dA A n0 z0 ad0 G hRf hRl hRc hRs hQ
    rcases hcb with hcb | hcb
    · exact xbehind (mi := mi) (va_runV (As := as.map (xdv r ad)) ⟨hx, hb, hml, hown, hts⟩ hM ⟨hcb, hts _ (xw u2 rfl), hts _ (xw u4 rfl)⟩ ⟨hpS.1, hrc, hpS.2⟩ rfl (by rw [List.length_map]; exact hb3) hl.1 hstk (lv_room (by omega)) hd1 ⟨by omega, by omega⟩) hS hA1 hA1 hn hz m1.1 m1.2.1 (m1.2.2 hw0) hag hl k4 K
    · exact xbehind (mi := mi) (va_runVN (As := as.map (xdv r ad)) ⟨hx, hb, hml, hown, hts⟩ hM ⟨hcb, hts _ (xw u2 rfl), hts _ (xw u4 rfl)⟩ ⟨hpS.1, hrc, hpS.2⟩ rfl (by rw [List.length_map]; exact hb3) hl.1 hstk (lv_room (by omega)) hd1 ⟨by omega, by omega⟩) hS hA1 hA1 hn hz m1.1 m1.2.1 (m1.2.2 hw0) hag hl k4 K
  | invokespecial idx =>
    have hd1 : decode (xb mi) pc = .ok (.invokespecial idx, 3) := by rw [hd, Nat.eq_of_beq_eq_true (show Nat.beq ln _ = true from hln)]; rfl
    rcases ax with _ | ⟨p0, _ | ⟨cm, _ | ⟨a1, _ | ⟨b1, _ | ⟨x9, t9⟩⟩⟩⟩⟩ <;> first | (cases hs; done) | skip
    simp only at hs
    cases h900 : Nat.beq cm 900 with
    | true => rw [h900, cond_true] at hs; exact gen hs
    | false =>
    rw [h900, cond_false] at hs
    rcases d with _ | d'
    · cases hs
    simp only at hs
    cases htk : xtk (xn cm) st [] with
    | none => rw [htk] at hs; cases hs
    | some q =>
    rw [htk] at hs
    obtain ⟨as, st2⟩ := q
    simp only at hs
    rcases st2 with _ | ⟨t0, s'⟩
    · cases hs
    cases t0 <;> first | (cases hs; done) | skip
    rename_i a
    simp only at hs
    cases hk : (Nat.ble (xasz (.index a :: as)) (xm cm) && xcc h.length lo s') with
    | false => simp [hk] at hs
    | true =>
    simp only [hk, cond_true] at hs
    cases ho : xev f d' cm 0 (xal 0 (.index a :: as)) [] h E with
    | none => rw [ho] at hs; cases hs
    | some o1 =>
    rw [ho] at hs
    simp only [xfN_eq] at hs
    simp only [Bool.and_eq_true] at hk
    obtain ⟨k3, k4⟩ := hk
    have hau := (Bool.and_eq_true_iff.mp hau).2
    simp only [h900] at hau
    simp only [Bool.and_eq_true, decide_eq_true_eq] at hau
    obtain ⟨u1, u2, u3, u4, u5, u6⟩ := hau
    obtain ⟨b, hb1, hb2, hb3⟩ := xtk_ok htk
    rw [List.append_nil] at hb1
    subst hb1
    subst hb2
    have m1 := xev_mono _ _ _ _ _ _ _ _ _ ho
    have m2 := xev_mono _ _ _ _ _ _ _ _ _ hs
    intro hn hz hw0 ad H locs ls hag hP hD hS hl
    have hM := xmet hr u6 hw0 (ih d' cm 0 _ _ h E o1 ho) hE k3 l D dA ad H.size
    have hcb := xcb (d := d') (mc := o1.2.1.length - h.length) (ms := xhz o1.2.1 - xhz h) G u1 u6 (hts _ (xw u3 rfl)) (by omega) (by omega)
    rw [u5] at hcb
    have hcc := k4
    simp only [xcc, Bool.and_eq_true] at hcc
    have h6 := Nat.le_of_ble_eq_true hcc.1
    have hsm := xsum hr ad hcc.2.1
    have hA1 := va_free hD hS hA (List.range (xwv r ad dA h).length) (wc := xwv r ad dA h) (by apply List.ext_getElem?; intro j; simp only [List.getElem?_map, List.getElem?_range']; by_cases hj : j < (xwv r ad dA h).length <;> simp [hj])
    have hpS := xpreS (av := (.index a :: as).map (xdv r ad)) (r := r) hK hNw hP hD hSt.2.1 hS hA1
    have hstk : (F0 m pc ls ((as.reverse ++ .index a :: s').map (xdv r ad))).stack = (as.map (xdv r ad)).reverse ++ .ref (ad a) :: s'.map (xdv r ad) := by simp [List.map_append, List.map_reverse, xdv]
    have K := (ih (d' + 1) mi (pc + 3) lo _ _ _ o hs).2.2 (fun q hq => hE q (List.mem_of_mem_drop hq)) p l e R s m args below meth c Q D dA A n0 z0 ad0 G hRf hRl hRc hRs hQ
    rcases hcb with hcb | hcb
    · exact xbehind (mi := mi) (va_runI (As := as.map (xdv r ad)) ⟨hx, hb, hml, hown, hts⟩ hM ⟨hcb, u4, hts _ (xw u2 rfl)⟩ hpS rfl (by rw [List.length_map]; exact hb3) hl.1 hstk (lv_room (by omega)) hd1 ⟨by omega, by omega⟩) hS hA1 hA1 hn hz m1.1 m1.2.1 (m1.2.2 hw0) hag hl k4 K
    · exact xbehind (mi := mi) (va_runIN (As := as.map (xdv r ad)) ⟨hx, hb, hml, hown, hts⟩ hM ⟨hcb, u4, hts _ (xw u2 rfl)⟩ hpS rfl (by rw [List.length_map]; exact hb3) hl.1 hstk (lv_room (by omega)) hd1 ⟨by omega, by omega⟩) hS hA1 hA1 hn hz m1.1 m1.2.1 (m1.2.2 hw0) hag hl k4 K
  | invokestatic idx =>
    have hd1 : decode (xb mi) pc = .ok (.invokestatic idx, 3) := by rw [hd, Nat.eq_of_beq_eq_true (show Nat.beq ln _ = true from hln)]; rfl
    rcases ax with _ | ⟨p0, _ | ⟨cm, _ | ⟨a1, _ | ⟨b1, _ | ⟨d1, _ | ⟨x9, t9⟩⟩⟩⟩⟩⟩ <;> first | (cases hs; done) | (exact gen hs) | skip
    rcases d with _ | d'
    · cases hs
    simp only at hs
    cases htk : xtk (xn cm) st [] with
    | none => rw [htk] at hs; cases hs
    | some q =>
    rw [htk] at hs
    obtain ⟨as, s'⟩ := q
    simp only at hs
    cases hk : (Nat.ble (xasz as) (xm cm) && xcc h.length lo s') with
    | false => simp [hk] at hs
    | true =>
    simp only [hk, cond_true] at hs
    cases ho : xev f d' cm 0 (xal 0 as) [] h E with
    | none => rw [ho] at hs; cases hs
    | some o1 =>
    rw [ho] at hs
    simp only [xfN_eq] at hs
    simp only [Bool.and_eq_true] at hk
    obtain ⟨k3, k4⟩ := hk
    have hau := (Bool.and_eq_true_iff.mp hau).2
    simp only [Bool.and_eq_true, decide_eq_true_eq] at hau
    obtain ⟨u1, u2, u3, u6⟩ := hau
    obtain ⟨b, hb1, hb2, hb3⟩ := xtk_ok htk
    rw [List.append_nil] at hb1
    subst hb1
    subst hb2
    have m1 := xev_mono _ _ _ _ _ _ _ _ _ ho
    have m2 := xev_mono _ _ _ _ _ _ _ _ _ hs
    intro hn hz hw0 ad H locs ls hag hP hD hS hl
    have hM := xmet hr u6 hw0 (ih d' cm 0 _ _ h E o1 ho) hE k3 l D dA ad H.size
    have hcb := xcb (d := d') (mc := o1.2.1.length - h.length) (ms := xhz o1.2.1 - xhz h) G u1 u6 (hts _ (xw u3 rfl)) (by omega) (by omega)
    have hcc := k4
    simp only [xcc, Bool.and_eq_true] at hcc
    have h6 := Nat.le_of_ble_eq_true hcc.1
    have hsm := xsum hr ad hcc.2.1
    have hA1 := va_free hD hS hA (List.range (xwv r ad dA h).length) (wc := xwv r ad dA h) (by apply List.ext_getElem?; intro j; simp only [List.getElem?_map, List.getElem?_range']; by_cases hj : j < (xwv r ad dA h).length <;> simp [hj])
    have hpS := xpreS (av := as.map (xdv r ad)) (r := r) hK hNw hP hD hSt.2.1 hS hA1
    have hstk : (F0 m pc ls ((as.reverse ++ s').map (xdv r ad))).stack = (as.map (xdv r ad)).reverse ++ s'.map (xdv r ad) := by simp [List.map_append, List.map_reverse]
    have K := (ih (d' + 1) mi (pc + 3) lo _ _ _ o hs).2.2 (fun q hq => hE q (List.mem_of_mem_drop hq)) p l e R s m args below meth c Q D dA A n0 z0 ad0 G hRf hRl hRc hRs hQ
    rcases hcb with hcb | hcb
    · exact xbehind (mi := mi) (va_runS (As := as.map (xdv r ad)) ⟨hx, hb, hml, hown, hts⟩ hM ⟨hcb, hts _ (xw u2 rfl)⟩ hpS rfl (by rw [List.length_map]; exact hb3) hl.1 hstk (lv_room (by omega)) hd1 ⟨by omega, by omega⟩) hS hA1 hA1 hn hz m1.1 m1.2.1 (m1.2.2 hw0) hag hl k4 K
    · exact xbehind (mi := mi) (va_runSN (As := as.map (xdv r ad)) ⟨hx, hb, hml, hown, hts⟩ hM ⟨hcb, hts _ (xw u2 rfl), trivial⟩ hpS rfl (by rw [List.length_map]; exact hb3) hl.1 hstk (lv_room (by omega)) hd1 ⟨by omega, by omega⟩) hS hA1 hA1 hn hz m1.1 m1.2.1 (m1.2.2 hw0) hag hl k4 K
  | _ => exact gen hs
