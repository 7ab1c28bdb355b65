theorem XI_su {r : Nat → Value} {g : xL} {i : Nat} {u : Jvm.Term} (h : xlk g i = some u) : XI (xsuR g r) (.arg i) = XI r u := by
  rw [XI_eq, XI_eq]
  show (xti (xsuR g r i)).toInt = _
  unfold xsuR
  rw [h]
theorem XI_sn {r : Nat → Value} {g : xL} {i : Nat} (h : xlk g i = none) : XI (xsuR g r) (.arg i) = XI r (.arg i) := by
  rw [XI_eq, XI_eq]
  show (xti (xsuR g r i)).toInt = (xti (r i)).toInt
  unfold xsuR
  rw [h]
theorem XI_no {r r' : Nat → Value} {a b : Nat} (hag : ∀ i, ¬ (a ≤ i ∧ i ≤ b) → r' i = r i) {t : Jvm.Term} (h : xno a b t = true) : XI r' t = XI r t := by
  rw [XI_eq, XI_eq, xno_dv hag xid t h]
theorem XI_clamp {r : Nat → Value} {x : Jvm.Term} {n : Int} (hx : XI r x = n) (h1 : -20 ≤ n) (h2 : n ≤ 19) : XI r (.op2 .fcmpl (.int (-20)) (.op2 .fcmpg (.int 19) x)) = n := by
  have e1 := XI_min (a := .int 19) (b := x) (XI_lit (by decide +kernel : (19 : Int32).toInt = 19)) hx
  have e2 := XI_max (XI_lit (by decide +kernel : (-20 : Int32).toInt = -20)) e1
  rw [e2]
  by_cases h3 : n < 19
  · rw [if_pos h3]
    by_cases h4 : -20 < n
    · rw [if_pos h4]
    · rw [if_neg h4]; omega
  · rw [if_neg h3, if_pos (by omega)]; omega
/-- an evaluation that ends so, with no condition left -/
def xou (z : Option xO) (v : Option Jvm.Term) (h : xH) : Bool := match z with
  | none => false
  | some q => (match v with
    | none => (match q.1 with
      | none => true
      | some _ => false)
    | some t => (match q.1 with
      | none => false
      | some u => xeT u t)) && (xeH q.2.1 h && (match q.2.2 with
    | [] => true
    | _ => false))
theorem xou_eq {z : Option xO} {v : Option Jvm.Term} {h : xH} (q : xou z v h = true) : z = some (v, h, []) := by
  cases z with
  | none => cases q
  | some z =>
    obtain ⟨z1, z2, z3⟩ := z
    simp only [xou, Bool.and_eq_true] at q
    obtain ⟨q1, q2, q3⟩ := q
    cases z3 with
    | cons a t => cases q3
    | nil =>
      rw [xeH_eq q2]
      cases v with
      | none => cases z1 with
        | none => rfl
        | some u => cases q1
      | some t => cases z1 with
        | none => cases q1
        | some u => rw [xeT_eq q1]
theorem xS1_ou {r : Nat → Value} (hr : xRr r) {f d mi pc : Nat} {lo : xL} {st : List Jvm.Term} {h h1 : xH} {E : List xB} {v : Option Jvm.Term} (hs : xou (xev f d mi pc lo st h E) v h1 = true) : xS1 r d mi pc lo st h E (v, h1, []) := xev_sound xtok hr _ _ _ _ _ _ _ _ _ (xou_eq hs)
/-- here a method is called on a place, with these arguments -/
noncomputable def xclk (mi pc : Nat) (lo : xL) (st : List Jvm.Term) (h : xH) (cm a : Nat) (as s' : List Jvm.Term) : Bool := match xcd mi pc with
  | none => false
  | some e => match e.1 with
    | .invokevirtual _ => match e.2.2 with
      | [_, cm', _, _, _] => Nat.beq cm' cm && (match xtk (xn cm) st [] with
        | none => false
        | some q => xeL q.1 as && (xeL q.2 (.index a :: s') && (match xhg h a with
          | none => false
          | some c => Nat.beq c.1 (xo cm) && (Nat.ble c.1 12 && (Nat.ble (xasz (.index a :: as)) (xm cm) && xcc h.length lo s')))))
      | _ => false
    | _ => false
noncomputable def xclks (mi pc : Nat) (lo : xL) (st : List Jvm.Term) (h : xH) (cm : Nat) (as s' : List Jvm.Term) : Bool := match xcd mi pc with
  | none => false
  | some e => match e.1 with
    | .invokestatic _ => match e.2.2 with
      | [_, cm', _, _] => Nat.beq cm' cm && (match xtk (xn cm) st [] with
        | none => false
        | some q => xeL q.1 as && (xeL q.2 s' && (Nat.ble (xasz as) (xm cm) && xcc h.length lo s')))
      | _ => false
    | _ => false
theorem xTr_cb {r : Nat → Value} (hr : xRr r) {d' mi pc cm a : Nat} {lo : xL} {st as s' : List Jvm.Term} {h h1 : xH} {v : Option Jvm.Term} {E' : List xB} (hk : xclk mi pc lo st h cm a as s' = true) (S : xS1 r d' cm 0 (xal 0 (.index a :: as)) [] h [] (v, h1, E')) (hw1 : xhw h1) : xTr r r (d' + 1) mi pc lo st h (pc + 3) lo (xpr v s') h1 := by
  unfold xclk at hk
  cases hcd : xcd mi pc with
  | none => rw [hcd] at hk; cases hk
  | some e =>
  rw [hcd] at hk
  obtain ⟨i, ln, ax⟩ := e
  cases i <;> first | (cases hk; done) | skip
  rcases ax with _ | ⟨p0, _ | ⟨cm', _ | ⟨a1, _ | ⟨b1, _ | ⟨d1, _ | ⟨x9, t9⟩⟩⟩⟩⟩⟩ <;> first | (cases hk; done) | skip
  simp only [Bool.and_eq_true] at hk
  obtain ⟨k1, k2⟩ := hk
  have k1 := Nat.eq_of_beq_eq_true k1
  subst k1
  cases htk : xtk (xn cm') st [] with
  | none => rw [htk] at k2; cases k2
  | some q =>
  rw [htk] at k2
  obtain ⟨as', st2⟩ := q
  simp only [Bool.and_eq_true] at k2
  obtain ⟨k2, k3, k4⟩ := k2
  have k2 := xeL_eq k2
  have k3 := xeL_eq k3
  subst k2
  subst k3
  cases hc : xhg h a with
  | none => rw [hc] at k4; cases k4
  | some c =>
  rw [hc] at k4
  rw [xhg_eq] at hc
  exact xTr_call xtok hr hcd htk hc (by simp only [Bool.and_eq_true] at k4 ⊢; exact k4) S hw1
set_option maxHeartbeats 4000000 in
/-- a static method called -/
theorem xTr_cs {r : Nat → Value} (hr : xRr r) {d' mi pc cm : Nat} {lo : xL} {st as s' : List Jvm.Term} {h h1 : xH} {v : Option Jvm.Term} {E' : List xB} (hk : xclks mi pc lo st h cm as s' = true) (S : xS1 r d' cm 0 (xal 0 as) [] h [] (v, h1, E')) (hw1 : xhw h1) : xTr r r (d' + 1) mi pc lo st h (pc + 3) lo (xpr v s') h1 := by
  unfold xclks at hk
  cases hcd : xcd mi pc with
  | none => rw [hcd] at hk; cases hk
  | some e =>
  rw [hcd] at hk
  obtain ⟨i, ln, ax⟩ := e
  cases i <;> first | (cases hk; done) | skip
  rename_i idx
  rcases ax with _ | ⟨p0, _ | ⟨cm', _ | ⟨a1, _ | ⟨b1, _ | ⟨x9, t9⟩⟩⟩⟩⟩ <;> first | (cases hk; done) | skip
  simp only [Bool.and_eq_true] at hk
  obtain ⟨k1, k2⟩ := hk
  have k1 := Nat.eq_of_beq_eq_true k1
  subst k1
  cases htk : xtk (xn cm') st [] with
  | none => rw [htk] at k2; cases k2
  | some q =>
  rw [htk] at k2
  obtain ⟨as', st2⟩ := q
  simp only [Bool.and_eq_true] at k2
  obtain ⟨k2, k3, k4⟩ := k2
  have k2 := xeL_eq k2
  have k3 := xeL_eq k3
  subst k2
  subst k3
  have htk9 := xtok mi pc _ hcd
  simp only [xEb, Bool.and_eq_true, decide_eq_true_eq] at htk9
  obtain ⟨hd, hln, hau⟩ := htk9
  have hd1 : decode (xb mi) pc = .ok (.invokestatic idx, 3) := by rw [hd, Nat.eq_of_beq_eq_true (show Nat.beq ln _ = true from hln)]; rfl
  obtain ⟨k3, k4⟩ := k4
  have hau := (Bool.and_eq_true_iff.mp hau).2
  simp only [Bool.and_eq_true, decide_eq_true_eq] at hau
  obtain ⟨u1, u2, u3, u6⟩ := hau
  obtain ⟨b, hb1, hb2, hb3⟩ := xtk_ok htk
  rw [List.append_nil] at hb1
  subst hb1
  subst hb2
  refine ⟨S.1, S.2.1, fun p l e R s m args below meth c Q D dA A n0 z0 ad0 G hRf hRl hRc hRs K => ?_⟩
  obtain ⟨hx, hb, hml, hts, hK, hNw, hown, -, hA, hin, hR1, hR64, -⟩ := id G
  have m1 : h.length ≤ h1.length := S.1
  have m2 : xhz h ≤ xhz h1 := S.2.1
  intro hn hz hw0 ad H locs ls hag hP hD hS hl
  have hM := xmet hr u6 hw0 S (fun q h => absurd h List.not_mem_nil) k3 l D dA ad H.size
  dsimp only at hM
  have hcb := xcb (d := d') (mc := h1.length - h.length) (ms := xhz h1 - xhz h) G u1 u6 (hts _ (xw u3 rfl)) (by omega) (by omega)
  have hcc := k4
  simp only [xcc, Bool.and_eq_true] at hcc
  have h6 := Nat.le_of_ble_eq_true hcc.1
  have hsm := xsum hr ad hcc.2.1
  have hpS := xpreS (av := as'.map (xdv r ad)) (r := r) hK hNw hP hD
  have hA1 := va_free hD hS hA (List.range (xwv r ad dA h).length) (wc := xwv r ad dA h) (by apply List.ext_getElem?; intro j; simp only [List.getElem?_map, List.getElem?_range']; by_cases hj : j < (xwv r ad dA h).length <;> simp [hj])
  have hstk : (F0 m pc ls ((as'.reverse ++ st2).map (xdv r ad))).stack = (as'.map (xdv r ad)).reverse ++ st2.map (xdv r ad) := by simp [List.map_append, List.map_reverse]
  rcases hcb with hcb | hcb
  · exact xbehind (mi := mi) (va_runS (As := as'.map (xdv r ad)) ⟨hx, hb, hml, hown, hts⟩ hM ⟨hcb, hts _ (xw u2 rfl)⟩ hpS rfl (by rw [List.length_map]; exact hb3) hl.1 hstk (lv_room (by omega)) hd1 ⟨by omega, by omega⟩) hS hA1 hA1 hn hz m1 m2 hw1 hag hl k4 K
  · exact xbehind (mi := mi) (va_runSN (As := as'.map (xdv r ad)) ⟨hx, hb, hml, hown, hts⟩ hM ⟨hcb, hts _ (xw u2 rfl), trivial⟩ hpS rfl (by rw [List.length_map]; exact hb3) hl.1 hstk (lv_room (by omega)) hd1 ⟨by omega, by omega⟩) hS hA1 hA1 hn hz m1 m2 hw1 hag hl k4 K
/-- an evaluation of a part, that ends with 1 -/
theorem xend {r : Nat → Value} (hr : xRr r) {f d mi pc pc1 : Nat} {lo lo1 : xL} {st st1 : List Jvm.Term} {h h1 : xH} {E : List xB} (T : xTr r r d mi pc lo st h pc1 lo1 st1 h1) (hE : ∀ q ∈ E, xhold r q) (hf : xfin (xev f d mi pc1 lo1 st1 h1 E) = true) : ∃ o, xS1 r d mi pc lo st h [] o ∧ xfin (some o) = true := by
  cases ho : xev f d mi pc1 lo1 st1 h1 E with
  | none => rw [ho] at hf; cases hf
  | some o =>
    rw [ho] at hf
    exact ⟨o, xS1_tr T hE (xev_sound xtok hr _ _ _ _ _ _ _ _ _ ho), hf⟩
