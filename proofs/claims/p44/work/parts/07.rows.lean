-- ===== the rows of the heap's instructions
theorem xdfix (n : Nat) : ∀ ci : Nat, ci < 13 → (xdf ci).all (xidx n) = true := fun ci h => match ci, h with
  | 0, _ => rfl
  | 1, _ => rfl
  | 2, _ => rfl
  | 3, _ => rfl
  | 4, _ => rfl
  | 5, _ => rfl
  | 6, _ => rfl
  | 7, _ => rfl
  | 8, _ => rfl
  | 9, _ => rfl
  | 10, _ => rfl
  | 11, _ => rfl
  | 12, _ => rfl
  | n + 13, h => absurd h (by omega)
theorem xb20 {n : Nat} (h : n < 20) : Nat.ble 20 n = false := by
  cases hq : Nat.ble 20 n with
  | false => rfl
  | true => have := Nat.le_of_ble_eq_true hq; omega
theorem xcv_obj {r : Nat → Value} {ad : Nat → Nat} {dA : Nat → ClassId} {c : xC} (h : c.1 < 20) : xcv r ad dA c = .inr (c.1, c.2.map (xdv r ad)) := by
  unfold xcv
  rw [xb20 h]
theorem xcv_int {r : Nat → Value} {ad : Nat → Nat} {dA : Nat → ClassId} {c : xC} (h : c.1 = 20) : xcv r ad dA c = .inl (dA 0, c.2.length, .inl (fun j => xti (xdv r ad (c.2.getD j (.int 0))))) := by
  unfold xcv
  rw [h]
theorem xcv_ref {r : Nat → Value} {ad : Nat → Nat} {dA : Nat → ClassId} {c : xC} (h : 21 ≤ c.1) : xcv r ad dA c = .inl (dA (c.1 - 20), c.2.length, .inr (.inr (.inr (.inr (fun j => xtr (xdv r ad (c.2.getD j .null))))))) := by
  have h1 : Nat.ble 20 c.1 = true := Nat.ble_eq_true_of_le (by omega)
  have h2 : Nat.beq c.1 20 = false := by
    cases hq : Nat.beq c.1 20 with
    | false => rfl
    | true => have := Nat.eq_of_beq_eq_true hq; omega
  unfold xcv
  rw [h1, h2]
theorem xfits_ok {r : Nat → Value} (hr : xRr r) (ad : Nat → Nat) {ty : FieldType} {t : Jvm.Term} (h : xfits ty t = true) : narrow ty (xdv r ad t) = xdv r ad t ∧ fits ty (xdv r ad t) = true := by
  cases ty with
  | int => rw [xI_dv hr ad (t := t) h]; exact ⟨rfl, rfl⟩
  | boolean =>
    simp only [xfits] at h
    cases hl : xlit t with
    | none => rw [hl] at h; cases h
    | some v =>
      rw [hl] at h
      rw [xlit_eq hl]
      simp only [Bool.or_eq_true, decide_eq_true_eq] at h
      rcases h with rfl | rfl <;> exact ⟨rfl, rfl⟩
  | object n => rw [xF_dv hr ad (t := t) h]; cases xtr (xdv r ad t) <;> exact ⟨rfl, rfl⟩
  | array n => rw [xF_dv hr ad (t := t) h]; cases xtr (xdv r ad t) <;> exact ⟨rfl, rfl⟩
  | _ => exact absurd h (by simp [xfits])
theorem xix_ok {t : Jvm.Term} {n j : Nat} (h : xix t n = some j) : ∃ v : Int32, t = .int v ∧ vp_in v n ∧ v.toNatClampNeg = j ∧ j < n := by
  cases t <;> simp only [xix] at h <;> first | (cases h; done) | skip
  rename_i v
  cases hq : (decide (v < 0) || Nat.ble n v.toNatClampNeg) with
  | true => rw [hq] at h; cases h
  | false =>
    rw [hq] at h
    simp only [Bool.or_eq_false_iff, decide_eq_false_iff_not] at hq
    have hn : ¬ n ≤ v.toNatClampNeg := fun q => by rw [Nat.ble_eq_true_of_le q] at hq; exact absurd hq.2 (by decide)
    have hj : v.toNatClampNeg = j := Option.some.inj h
    exact ⟨v, rfl, fun q => q.elim hq.1 hn, hj, by omega⟩
theorem xset_i {r : Nat → Value} {ad : Nat → Nat} {l : List Jvm.Term} {j : Nat} {t : Jvm.Term} (h : j < l.length) : upd (fun i => xti (xdv r ad (l.getD i (.int 0)))) j (xti (xdv r ad t)) = fun i => xti (xdv r ad ((l.set j t).getD i (.int 0))) := by
  funext i
  unfold upd
  simp only [List.getD_eq_getElem?_getD]
  by_cases e : i = j
  · subst e
    rw [if_pos rfl, List.getElem?_set_self h]
    rfl
  · rw [if_neg e, List.getElem?_set_ne (fun q => e q.symm)]
theorem xset_q {r : Nat → Value} {ad : Nat → Nat} {l : List Jvm.Term} {j : Nat} {t : Jvm.Term} (h : j < l.length) : va_up (fun i => xtr (xdv r ad (l.getD i .null))) j (xtr (xdv r ad t)) = fun i => xtr (xdv r ad ((l.set j t).getD i .null)) := by
  funext i
  unfold va_up
  simp only [List.getD_eq_getElem?_getD]
  by_cases e : i = j
  · subst e
    rw [if_pos rfl, List.getElem?_set_self h]
    rfl
  · rw [if_neg e, List.getElem?_set_ne (fun q => e q.symm)]
section
variable {p : Program} {l : Launch} {e : Env} {R : Room} {s : State} {m : MethodId} {args : Array Value} {below : List Frame} {meth : Method} {c : Code} {Q : State → Prop} {r : Nat → Value} {D : va_G} {dA : Nat → ClassId} {A : Nat → Prop} {H0 : Heap} {n0 z0 : Nat} {ad0 : Nat → Nat} {mi pc : Nat} {lo : xL} {st : List Jvm.Term} {h : xH} {E : List xB} {β : Type} {res : β} {k : Nat → xL → List Jvm.Term → xH → List xB → Option β}
theorem xs_getfield (G : xCx p R s m args meth c r D dA A H0 mi) {idx ln : Nat} {ax : List Nat} (hd : decode (xb mi) pc = .ok (.getfield idx, 3)) (ha : xau mi (.getfield idx) ln ax = true) (hs : xsp mi pc (.getfield idx, ln, ax) lo st h E k = some res) :
    xR1 p l e R s m args below meth c Q r D dA A H0 n0 z0 ad0 (xm mi) pc lo st h E β k res := by
  obtain ⟨hx, hb, hml, hts, hK, hNw, hown, hr, hA, hin, hRf, hRl, hSc⟩ := G
  rcases ax with _ | ⟨p0, _ | ⟨ci, _ | ⟨kf, _ | ⟨x9, t9⟩⟩⟩⟩ <;> simp only [xsp, xhg_eq] at hs <;> first | (cases hs; done) | skip
  rcases st with _ | ⟨t0, s'⟩
  · cases hs
  cases t0 <;> first | (cases hs; done) | skip
  rename_i a
  cases hc : h[a]? with
  | none => simp [hc] at hs
  | some c0 =>
  cases h1 : Nat.beq c0.1 ci with
  | false => simp [hc, h1] at hs
  | true =>
  cases h2 : c0.2[kf]? with
  | none => simp [hc, h1, h2] at hs
  | some t =>
  simp only [hc, h1, h2, cond_true] at hs
  simp only [xau, Bool.and_eq_true, decide_eq_true_eq] at ha
  obtain ⟨-, ha1, ha2, ha3⟩ := ha
  have hci : ci < 13 := Nat.le_of_ble_eq_true ha2
  have hkf : kf < xN ci := Nat.le_of_ble_eq_true ha3
  have e1 : c0.1 = ci := Nat.eq_of_beq_eq_true h1
  refine xR1_push hs (fun ad H locs ls cl sl hP hl K => ?_)
  have he := xwv_at (r := r) (ad := ad) (dA := dA) hc
  rw [xcv_obj (by omega), e1] at he
  exact va_get hx hb hts (xinU ci hci) hown hK hP a he (xcl ci hci) kf hkf (hts _ (xw ha1 rfl)) (fun x h => h) (v := xdv r ad t) (by rw [List.getElem?_map, h2]; rfl) hd K
theorem xs_putfield (G : xCx p R s m args meth c r D dA A H0 mi) {idx ln : Nat} {ax : List Nat} (hd : decode (xb mi) pc = .ok (.putfield idx, 3)) (ha : xau mi (.putfield idx) ln ax = true) (hs : xsp mi pc (.putfield idx, ln, ax) lo st h E k = some res) :
    xR1 p l e R s m args below meth c Q r D dA A H0 n0 z0 ad0 (xm mi) pc lo st h E β k res := by
  obtain ⟨hx, hb, hml, hts, hK, hNw, hown, hr, hA, hin, hRf, hRl, hSc⟩ := G
  rcases ax with _ | ⟨p0, _ | ⟨ci, _ | ⟨kf, _ | ⟨x9, t9⟩⟩⟩⟩ <;> simp only [xsp, xhg_eq] at hs <;> first | (cases hs; done) | skip
  rcases st with _ | ⟨t, _ | ⟨t0, s'⟩⟩
  · cases hs
  · cases hs
  cases t0 <;> first | (cases hs; done) | skip
  rename_i a
  cases hc : h[a]? with
  | none => simp [hc] at hs
  | some c0 =>
  simp only [hc] at hs
  cases h1 : (Nat.beq c0.1 ci && (Nat.ble (kf + 1) c0.2.length && (xidx h.length t && (xfits (xty ci kf) t && ((!(xT ci kf).2.2.2) || (xisInit mi && Nat.beq (xo mi) ci)))))) with
  | false => simp [h1] at hs
  | true =>
  simp only [h1, cond_true, xst_eq, xfN_eq] at hs
  simp only [Bool.and_eq_true] at h1
  obtain ⟨h1, h2, h2i, h3, h4⟩ := h1
  simp only [xau, Bool.and_eq_true, decide_eq_true_eq] at ha
  obtain ⟨-, ha1, ha2, ha3, ha4⟩ := ha
  have hci : ci < 13 := Nat.le_of_ble_eq_true ha2
  have hkf : kf < xN ci := Nat.le_of_ble_eq_true ha3
  have e1 : c0.1 = ci := Nat.eq_of_beq_eq_true h1
  have hle : kf < c0.2.length := Nat.le_of_ble_eq_true h2
  have hz' : xhz (h.set a (c0.1, c0.2.set kf t)) = xhz h := xhz_set hc (by simp)
  refine ⟨_, _, _, _, _, hs, fun q => q, by rw [List.length_set]; exact Nat.le_refl _, by rw [hz']; exact Nat.le_refl _, fun _ _ _ C hn hz hw0 ad H locs ls hag hP hD hS hl => ?_⟩
  have he := xwv_at (r := r) (ad := ad) (dA := dA) hc
  rw [xcv_obj (by omega), e1] at he
  have hw : (xwv r ad dA h).set a (ad a, .inr (ci, (c0.2.map (xdv r ad)).set kf (xdv r ad t))) = xwv r ad dA (h.set a (c0.1, c0.2.set kf t)) := by
    rw [← xwv_set hc, xcv_obj (by show c0.1 < 20; omega), List.map_set, e1]
  obtain ⟨hna, hfi⟩ := xfits_ok hr ad h3
  have hw1 : xhw (h.set a (c0.1, c0.2.set kf t)) := xhw_set hw0 (xokc_set hw0 hc h2i)
  unfold xCf at C
  rw [List.length_set, hz'] at C
  cases hfin : (xT ci kf).2.2.2 with
  | false =>
    refine va_put hx hb hts (xinU ci hci) (xty ci) (xtyok ci hci) (xnmok ci hci) hown hK hP hD hS a he (xcl ci hci) kf hkf (hts _ (xw ha1 rfl)) (fun x h => h) hfin (xtyok ci hci kf hkf) hna hfi (by rw [List.length_map]; exact hle) hd (fun H1 locs1 hP1 hD1 hS1 => ?_)
    rw [hw] at hP1 hD1
    exact C hn hz hw1 ad H1 locs1 ls hag hP1 hD1 hS1 hl
  | true =>
    rw [hfin] at h4
    simp only [Bool.not_true, Bool.false_or, Bool.and_eq_true, xisInit, decide_eq_true_eq] at h4
    have e2 : xo mi = ci := Nat.eq_of_beq_eq_true h4.2
    refine va_putF hx hb hts (xinU ci hci) (xty ci) (xtyok ci hci) (xnmok ci hci) hown hK hP hD hS a he (xcl ci hci) kf hkf (hts _ (xw ha1 rfl)) (fun x h => h) hfin (hin (by simp only [xisInit, decide_eq_true_eq]; exact h4.1)) (by rw [e2]; exact ha4) (xtyok ci hci kf hkf) hna hfi (by rw [List.length_map]; exact hle) hd (fun H1 locs1 hP1 hD1 hS1 => ?_)
    rw [hw] at hP1 hD1
    exact C hn hz hw1 ad H1 locs1 ls hag hP1 hD1 hS1 hl
theorem xs_new (G : xCx p R s m args meth c r D dA A H0 mi) {idx ln : Nat} {ax : List Nat} (hd : decode (xb mi) pc = .ok (.new idx, 3)) (ha : xau mi (.new idx) ln ax = true) (hs : xsp mi pc (.new idx, ln, ax) lo st h E k = some res) :
    xR1 p l e R s m args below meth c Q r D dA A H0 n0 z0 ad0 (xm mi) pc lo st h E β k res := by
  obtain ⟨hx, hb, hml, hts, hK, hNw, hown, hr, hA, hin, hRf, hRl, hSc⟩ := G
  rcases ax with _ | ⟨p0, _ | ⟨ci, _ | ⟨a1, _ | ⟨b1, _ | ⟨x9, t9⟩⟩⟩⟩⟩ <;> simp only [xsp, xhg_eq] at hs <;> first | (cases hs; done) | skip
  cases hk : xok h.length lo st with
  | false => simp [hk] at hs
  | true =>
  simp only [hk, cond_true, xap_eq, xpu, xfT_eq, xfN_eq] at hs
  simp only [xok, Bool.and_eq_true] at hk
  obtain ⟨hk2, hk3⟩ := hk
  simp only [xau, Bool.and_eq_true, decide_eq_true_eq] at ha
  obtain ⟨-, ha1, ha2, ha3, ha4⟩ := ha
  have hci : ci < 13 := Nat.le_of_ble_eq_true ha4
  have hN := xdflen ci hci
  refine ⟨_, _, _, _, _, hs, fun q => q, by rw [List.length_append]; omega, by rw [xhz_app]; omega, fun hc1 hc2 _ C hn hz hw0 ad H locs ls hag hP hD hS hl => ?_⟩
  rw [List.length_append, List.length_singleton] at hc1
  rw [xhz_app] at hc2
  simp only at hc2
  refine va_new (ci := ci) (fs := (xdf ci).map (xdv r ad)) hx hb hts (xinU ci hci) (xty ci) (xtyok ci hci) hown (hts _ (xw ha1 rfl)) (hts _ (xw ha2 rfl)) (hts _ (xw ha3 rfl)) hK hP hD hS hA (xcl ci hci) (xdfok r ad ci hci) (by omega) (by omega) hd (fun q H1 hP1 hD1 hS1 => ?_)
  have hcv : xcv r (xup ad h.length q) dA (ci, xdf ci) = .inr (ci, (xdf ci).map (xdv r ad)) := by
    rw [xcv_obj (by show ci < 20; omega), xmap_up (xdfix _ ci hci)]
  have hw : xwv r (xup ad h.length q) dA (h ++ [(ci, xdf ci)]) = xwv r ad dA h ++ [(q, .inr (ci, (xdf ci).map (xdv r ad)))] := by
    rw [xwv_up hw0, hcv]
  have hw1 : xhw (h ++ [(ci, xdf ci)]) := xhw_app hw0 (xokc_all (xdfix _ ci hci))
  have C' := C (by rw [List.length_append]; omega) (by rw [xhz_app]; omega) hw1 (xup ad h.length q) H1 locs ls (fun i hi => by rw [xup_lt i (by omega)]; exact hag i hi) (by rw [hw]; exact hP1) (by rw [hw]; exact hD1) hS1 (by rw [xlo_up hk2]; exact hl)
  rw [List.map_cons, xmap_up hk3] at C'
  have e3 : (h ++ [(ci, xdf ci)]).length - n0 = h.length - n0 + 1 := by rw [List.length_append, List.length_singleton]; omega
  have e4 : xhz (h ++ [(ci, xdf ci)]) - z0 = xhz h - z0 + xN ci := by rw [xhz_app]; simp only; omega
  rw [e3, e4] at C'
  have e5 : xdv r (xup ad h.length q) (.index h.length) = .ref q := by show Value.ref (xup ad h.length q h.length) = _; rw [xup_self]
  rw [e5] at C'
  exact C'
theorem xK_int (hK : va_K D vwCl (xtys dA) s) {cA : ClassId} (h : va_K D vwCl (xtys dA ++ [(cA, .int)]) s) : cA = dA 0 := by
  have h1 := (h.2 5 (cA, .int) rfl).2
  have h2 := (hK.2 0 (dA 0, .int) rfl).2
  exact Option.some.inj (h1.symm.trans h2)
theorem xK_ref (hK : va_K D vwCl (xtys dA) s) {kk : Nat} (hk1 : Nat.ble 21 kk = true) (hk2 : Nat.ble kk 24 = true) {cA : ClassId} (h : va_K D vwCl (xtys dA ++ [(cA, .object (xkc kk))]) s) : cA = dA (kk - 20) := by
  obtain ⟨k1, c1, -, -, -, f1⟩ := (h.2 5 (cA, .object (xkc kk)) rfl).2
  have h1 := Nat.le_of_ble_eq_true hk1
  have h2 := Nat.le_of_ble_eq_true hk2
  rcases (show kk = 21 ∨ kk = 22 ∨ kk = 23 ∨ kk = 24 by omega) with rfl | rfl | rfl | rfl
  · obtain ⟨k2, c2, -, -, -, f2⟩ := (hK.2 1 (dA 1, .object RX6) rfl).2
    exact Option.some.inj (f1.symm.trans f2)
  · obtain ⟨k2, c2, -, -, -, f2⟩ := (hK.2 2 (dA 2, .object RX5) rfl).2
    exact Option.some.inj (f1.symm.trans f2)
  · obtain ⟨k2, c2, -, -, -, f2⟩ := (hK.2 3 (dA 3, .object RX9) rfl).2
    exact Option.some.inj (f1.symm.trans f2)
  · obtain ⟨k2, c2, -, -, -, f2⟩ := (hK.2 4 (dA 4, .object RX7) rfl).2
    exact Option.some.inj (f1.symm.trans f2)
theorem xrep_get {t : Jvm.Term} (n i : Nat) : (List.replicate n t).getD i t = t := by
  rw [List.getD_eq_getElem?_getD, List.getElem?_replicate]
  split <;> rfl
theorem xs_newarray (G : xCx p R s m args meth c r D dA A H0 mi) {ty : ArrayType} {ln : Nat} {ax : List Nat} (hd : decode (xb mi) pc = .ok (.newarray ty, 2)) (ha : xau mi (.newarray ty) ln ax = true) (hs : xsp mi pc (.newarray ty, ln, ax) lo st h E k = some res) :
    xR1 p l e R s m args below meth c Q r D dA A H0 n0 z0 ad0 (xm mi) pc lo st h E β k res := by
  obtain ⟨hx, hb, hml, hts, hK, hNw, hown, hr, hA, hin, hRf, hRl, hSc⟩ := G
  simp only [xsp, xhg_eq] at hs
  rcases st with _ | ⟨t0, s'⟩
  · cases hs
  cases t0 <;> first | (cases hs; done) | skip
  rename_i n
  simp only at hs
  cases hk : (decide (ty = .int) && ((!decide (n < 0)) && (Nat.ble n.toNatClampNeg 5000 && xok h.length lo s'))) with
  | false => simp [hk] at hs
  | true =>
  simp only [hk, cond_true, xap_eq, xpu, xfT_eq, xfN_eq, xfL_eq] at hs
  simp only [xok, Bool.and_eq_true, decide_eq_true_eq, Bool.not_eq_true', decide_eq_false_iff_not] at hk
  obtain ⟨rfl, hn0, hbl, hk2, hk3⟩ := hk
  have hbl := Nat.le_of_ble_eq_true hbl
  rcases ax with _ | ⟨p0, _ | ⟨x9, t9⟩⟩ <;> simp only [xau, Bool.and_eq_true, decide_eq_true_eq] at ha <;> first | (exact absurd ha.2 (by decide)) | skip
  generalize hNe : n.toNatClampNeg = N at hs hbl
  refine ⟨_, _, _, _, _, hs, fun q => q, by rw [List.length_append]; omega, by rw [xhz_app]; omega, fun hc1 hc2 _ C hn hz hw0 ad H locs ls hag hP hD hS hl => ?_⟩
  rw [List.length_append, List.length_singleton] at hc1
  rw [xhz_app] at hc2
  simp only [List.length_replicate] at hc2
  refine va_newa (atype := .int) (a0 := (N, .inl (fun _ => 0))) hx hb (hts _ (xw ha.2 rfl)) rfl hK hP hD hS hA (fun _ => rfl) hn0 hNe (by show N * 4 ≤ 536870912; omega) (by omega) (by omega) hd (fun q cA H1 hK1 hP1 hD1 hS1 => ?_)
  have hcA := xK_int hK hK1
  subst hcA
  have hcv : xcv r (xup ad h.length q) dA (20, List.replicate N (.int 0)) = .inl (dA 0, N, .inl (fun _ => 0)) := by
    rw [xcv_int rfl]
    simp only [List.length_replicate, xrep_get]
    rfl
  have hw : xwv r (xup ad h.length q) dA (h ++ [(20, List.replicate N (.int 0))]) = xwv r ad dA h ++ [(q, .inl (dA 0, N, .inl (fun _ => 0)))] := by
    rw [xwv_up hw0, hcv]
  have hw1 : xhw (h ++ [(20, List.replicate N (.int 0))]) := xhw_app hw0 xokc_20
  have C' := C (by rw [List.length_append]; omega) (by rw [xhz_app]; omega) hw1 (xup ad h.length q) H1 locs ls (fun i hi => by rw [xup_lt i (by omega)]; exact hag i hi) (by rw [hw]; exact hP1) (by rw [hw]; exact hD1) hS1 (by rw [xlo_up hk2]; exact hl)
  rw [List.map_cons, xmap_up hk3] at C'
  have e3 : (h ++ [(20, List.replicate N (Jvm.Term.int 0))]).length - n0 = h.length - n0 + 1 := by rw [List.length_append, List.length_singleton]; omega
  have e4 : xhz (h ++ [(20, List.replicate N (Jvm.Term.int 0))]) - z0 = xhz h - z0 + N := by rw [xhz_app]; simp only [List.length_replicate]; omega
  rw [e3, e4] at C'
  have e5 : xdv r (xup ad h.length q) (.index h.length) = .ref q := by show Value.ref (xup ad h.length q h.length) = _; rw [xup_self]
  rw [e5] at C'
  exact C'
theorem xs_anewarray (G : xCx p R s m args meth c r D dA A H0 mi) {idx ln : Nat} {ax : List Nat} (hd : decode (xb mi) pc = .ok (.anewarray idx, 3)) (ha : xau mi (.anewarray idx) ln ax = true) (hs : xsp mi pc (.anewarray idx, ln, ax) lo st h E k = some res) :
    xR1 p l e R s m args below meth c Q r D dA A H0 n0 z0 ad0 (xm mi) pc lo st h E β k res := by
  obtain ⟨hx, hb, hml, hts, hK, hNw, hown, hr, hA, hin, hRf, hRl, hSc⟩ := G
  rcases ax with _ | ⟨p0, _ | ⟨kk, _ | ⟨x9, t9⟩⟩⟩ <;> simp only [xsp, xhg_eq] at hs <;> first | (cases hs; done) | skip
  rcases st with _ | ⟨t0, s'⟩
  · cases hs
  cases t0 <;> first | (cases hs; done) | skip
  rename_i n
  simp only at hs
  cases hk : ((!decide (n < 0)) && (Nat.ble n.toNatClampNeg 5000 && xok h.length lo s')) with
  | false => simp [hk] at hs
  | true =>
  simp only [hk, cond_true, xap_eq, xpu, xfT_eq, xfN_eq, xfL_eq] at hs
  simp only [xok, Bool.and_eq_true, Bool.not_eq_true', decide_eq_false_iff_not] at hk
  obtain ⟨hn0, hbl, hk2, hk3⟩ := hk
  have hbl := Nat.le_of_ble_eq_true hbl
  simp only [xau, Bool.and_eq_true, decide_eq_true_eq] at ha
  obtain ⟨-, ha1, ha2, ha3⟩ := ha
  have h21 := Nat.le_of_ble_eq_true ha2
  generalize hNe : n.toNatClampNeg = N at hs hbl
  refine ⟨_, _, _, _, _, hs, fun q => q, by rw [List.length_append]; omega, by rw [xhz_app]; omega, fun hc1 hc2 _ C hn hz hw0 ad H locs ls hag hP hD hS hl => ?_⟩
  rw [List.length_append, List.length_singleton] at hc1
  rw [xhz_app] at hc2
  simp only [List.length_replicate] at hc2
  refine va_newq hx hb hown (hts _ (xw ha1 rfl)) (hNw.2.1 kk ha2 ha3) hK hP hD hS hA hn0 hNe (by omega) (by omega) (by omega) hd (fun q cA H1 hK1 hP1 hD1 hS1 => ?_)
  have hcA := xK_ref hK ha2 ha3 hK1
  subst hcA
  have hcv : xcv r (xup ad h.length q) dA (kk, List.replicate N .null) = .inl (dA (kk - 20), N, .inr (.inr (.inr (.inr (fun _ => none))))) := by
    rw [xcv_ref h21]
    simp only [List.length_replicate, xrep_get]
    rfl
  have hw : xwv r (xup ad h.length q) dA (h ++ [(kk, List.replicate N .null)]) = xwv r ad dA h ++ [(q, .inl (dA (kk - 20), N, .inr (.inr (.inr (.inr (fun _ => none))))))] := by
    rw [xwv_up hw0, hcv]
  have hw1 : xhw (h ++ [(kk, List.replicate N .null)]) := xhw_app hw0 (xokc_all (List.all_eq_true.mpr (fun t ht => by rw [List.eq_of_mem_replicate ht]; rfl)))
  have C' := C (by rw [List.length_append]; omega) (by rw [xhz_app]; omega) hw1 (xup ad h.length q) H1 locs ls (fun i hi => by rw [xup_lt i (by omega)]; exact hag i hi) (by rw [hw]; exact hP1) (by rw [hw]; exact hD1) hS1 (by rw [xlo_up hk2]; exact hl)
  rw [List.map_cons, xmap_up hk3] at C'
  have e3 : (h ++ [(kk, List.replicate N Jvm.Term.null)]).length - n0 = h.length - n0 + 1 := by rw [List.length_append, List.length_singleton]; omega
  have e4 : xhz (h ++ [(kk, List.replicate N Jvm.Term.null)]) - z0 = xhz h - z0 + N := by rw [xhz_app]; simp only [List.length_replicate]; omega
  rw [e3, e4] at C'
  have e5 : xdv r (xup ad h.length q) (.index h.length) = .ref q := by show Value.ref (xup ad h.length q h.length) = _; rw [xup_self]
  rw [e5] at C'
  exact C'
theorem xs_arraylength (G : xCx p R s m args meth c r D dA A H0 mi) {ln : Nat} {ax : List Nat} (hd : decode (xb mi) pc = .ok (.arraylength, 1)) (hs : xsp mi pc (.arraylength, ln, ax) lo st h E k = some res) :
    xR1 p l e R s m args below meth c Q r D dA A H0 n0 z0 ad0 (xm mi) pc lo st h E β k res := by
  obtain ⟨hx, hb, hml, hts, hK, hNw, hown, hr, hA, hin, hRf, hRl, hSc⟩ := G
  simp only [xsp, xhg_eq] at hs
  rcases st with _ | ⟨t0, s'⟩
  · cases hs
  cases t0 <;> first | (cases hs; done) | skip
  · rename_i z
    simp only at hs
    cases h1 : (Nat.beq z 100 && Nat.beq mi xlaw) with
    | false => simp [h1] at hs
    | true =>
    simp only [h1, cond_true, xpu, xfT_eq, xfN_eq] at hs
    simp only [Bool.and_eq_true] at h1
    have e1 := Nat.eq_of_beq_eq_true h1.1
    subst e1
    obtain ⟨b, L, xs, r1, r2, hX, hbl, hbA, -, -⟩ := hSc.1 (Nat.eq_of_beq_eq_true h1.2)
    refine ⟨_, _, _, _, _, hs, fun q => q, Nat.le_refl _, Nat.le_refl _, fun _ _ _ C hn hz hw0 ad H locs ls hag hP hD hS hl => ?_⟩
    have K := C hn hz hw0 ad H locs ls hag hP hD hS hl
    simp only [List.map_cons, xdv, r1, r2] at K ⊢
    exact va_slen hx hb hX hbl hbA hS hd K
  rename_i a
  simp only at hs
  cases hc : h[a]? with
  | none => simp [hc] at hs
  | some c0 =>
  simp only [hc] at hs
  cases h1 : (Nat.ble 20 c0.1 && Nat.ble c0.1 24) with
  | false => simp [h1] at hs
  | true =>
  simp only [h1, cond_true] at hs
  simp only [Bool.and_eq_true] at h1
  have k1 := Nat.le_of_ble_eq_true h1.1
  have k2 := Nat.le_of_ble_eq_true h1.2
  refine xR1_push hs (fun ad H locs ls cl sl hP hl K => ?_)
  have he := xwv_at (r := r) (ad := ad) (dA := dA) hc
  rcases (show c0.1 = 20 ∨ c0.1 = 21 ∨ c0.1 = 22 ∨ c0.1 = 23 ∨ c0.1 = 24 by omega) with q | q | q | q | q
  · rw [xcv_int q] at he
    exact va_alen hx hb hK hP a 0 he rfl rfl hd K
  · rw [xcv_ref (by omega), q] at he
    exact va_alen hx hb hK hP a 1 he rfl rfl hd K
  · rw [xcv_ref (by omega), q] at he
    exact va_alen hx hb hK hP a 2 he rfl rfl hd K
  · rw [xcv_ref (by omega), q] at he
    exact va_alen hx hb hK hP a 3 he rfl rfl hd K
  · rw [xcv_ref (by omega), q] at he
    exact va_alen hx hb hK hP a 4 he rfl rfl hd K
theorem xs_iaload (G : xCx p R s m args meth c r D dA A H0 mi) {ln : Nat} {ax : List Nat} (hd : decode (xb mi) pc = .ok (.iaload, 1)) (hs : xsp mi pc (.iaload, ln, ax) lo st h E k = some res) :
    xR1 p l e R s m args below meth c Q r D dA A H0 n0 z0 ad0 (xm mi) pc lo st h E β k res := by
  obtain ⟨hx, hb, hml, hts, hK, hNw, hown, hr, hA, hin, hRf, hRl, hSc⟩ := G
  simp only [xsp, xhg_eq] at hs
  rcases st with _ | ⟨i, _ | ⟨t0, s'⟩⟩
  · cases hs
  · cases hs
  cases t0 <;> first | (cases hs; done) | skip
  · rename_i z
    simp only at hs
    cases h1 : (Nat.beq z 100 && Nat.beq mi xlaw) with
    | false =>
      simp only [h1, cond_false] at hs
      cases h9 : (Nat.ble 150 z && Nat.ble z 199) with
      | false => simp [h9] at hs
      | true =>
      simp only [h9, cond_true] at hs
      simp only [Bool.and_eq_true] at h9
      cases hq : xsta (z - 150) with
      | none => rw [hq] at hs; cases hs
      | some q =>
      rw [hq] at hs
      simp only at hs
      cases hj : xix i q.2.2.2.length with
      | none => rw [hj] at hs; cases hs
      | some j =>
      rw [hj] at hs
      simp only at hs
      obtain ⟨v, rfl, hv, hvj, hjl⟩ := xix_ok hj
      have hz := Nat.le_of_ble_eq_true h9.1
      obtain ⟨t, r1, -, hT⟩ := hSc.2.1.1 _ q hq
      rw [show 150 + (z - 150) = z by omega] at r1
      have eH := hSc.2.2
      subst eH
      simp only [xpu, xfT_eq, xfN_eq] at hs
      refine ⟨_, _, _, _, _, hs, fun q => q, Nat.le_refl _, Nat.le_refl _, fun _ _ hh C hn hz hw0 ad H locs ls hag hP hD hS hl => ?_⟩
      have K := C hn hz hw0 ad H locs ls hag hP hD hS hl
      simp only [List.map_cons, xdv, r1] at K ⊢
      exact va_ti hx hb hT hS hv (by show Value.int _ = _; rw [hvj]) hd K
    | true =>
    simp only [h1, cond_true] at hs
    simp only [Bool.and_eq_true] at h1
    have e1 := Nat.eq_of_beq_eq_true h1.1
    subst e1
    obtain ⟨b, L, xs, r1, r2, hX, hbl, hbA, hL31, hrj, -⟩ := hSc.1 (Nat.eq_of_beq_eq_true h1.2)
    cases hj : xix i 49 with
    | none => simp [hj] at hs
    | some j =>
    simp only [hj] at hs
    rcases E with _ | ⟨q, E'⟩
    · cases hs
    simp only at hs
    cases h2 : (decide (q.1 = .lt) && (q.2.2.2 && (xq q.2.1 i && xq q.2.2.1 (.arg 49)))) with
    | false => simp [h2] at hs
    | true =>
    simp only [h2, cond_true] at hs
    simp only [Bool.and_eq_true, decide_eq_true_eq] at h2
    obtain ⟨q1, q2, q3, q4⟩ := h2
    obtain ⟨v, rfl, hv, hvj, hjl⟩ := xix_ok hj
    have hjv := hrj j hjl
    obtain ⟨E2, t2, hs, hE2⟩ := xls_ok r (by show r j = .int (xti (r j)); rw [hjv]; rfl) hs
    refine ⟨_, _, _, _, _, hs, fun q => (hE2 (fun z hz => q z (List.mem_cons_of_mem _ hz))).1, Nat.le_refl _, Nat.le_refl _, fun _ _ hh C hn hz hw0 ad H locs ls hag hP hD hS hl => ?_⟩
    have hq := hh _ List.mem_cons_self
    have ht2 := (hE2 (fun z hz => hh z (List.mem_cons_of_mem _ hz))).2 ad
    unfold xhold at hq
    rw [q2, q1, xq_eq _ _ q3, xq_eq _ _ q4] at hq
    simp only [xcm, xdv, r2, xti] at hq
    have hin2 : vp_in v L := by
      have h0 : ¬ v < 0 := fun z => hv (Or.inl z)
      obtain ⟨n, hn1, rfl⟩ := nI_of h0
      have hlt : n < L := (nI_ltI hn1 hL31).mp hq
      exact vp_in_nI hlt hL31
    have K := C hn hz hw0 ad H locs ls hag hP hD hS hl
    simp only [List.map_cons] at K ⊢
    rw [ht2] at K
    simp only [xdv, r1] at K ⊢
    rw [hjv, ← hvj] at K
    exact va_sld hx hb hX hbl hbA hS hin2 hd K
  rename_i a
  simp only at hs
  cases hc : h[a]? with
  | none => simp [hc] at hs
  | some c0 =>
  simp only [hc] at hs
  cases h1 : Nat.beq c0.1 20 with
  | false => simp [h1] at hs
  | true =>
  simp only [h1, cond_true] at hs
  cases hj : xix i c0.2.length with
  | none => simp [hj] at hs
  | some j =>
  simp only [hj] at hs
  cases h2 : c0.2[j]? with
  | none => simp [h2] at hs
  | some t =>
  simp only [h2] at hs
  cases ht : xI t with
  | false => simp [ht] at hs
  | true =>
  simp only [ht, cond_true] at hs
  obtain ⟨v, rfl, hv, hvj, hjl⟩ := xix_ok hj
  have e1 : c0.1 = 20 := Nat.eq_of_beq_eq_true h1
  refine xR1_push hs (fun ad H locs ls cl sl hP hl K => ?_)
  have he := xwv_at (r := r) (ad := ad) (dA := dA) hc
  rw [xcv_int e1] at he
  rw [xI_dv hr ad ht] at K
  refine va_iald hx hb hK hP a 0 he rfl hv hd ?_
  rw [hvj]
  simp only [List.getD_eq_getElem?_getD, h2, Option.getD_some]
  exact K
theorem xs_iastore (G : xCx p R s m args meth c r D dA A H0 mi) {ln : Nat} {ax : List Nat} (hd : decode (xb mi) pc = .ok (.iastore, 1)) (hs : xsp mi pc (.iastore, ln, ax) lo st h E k = some res) :
    xR1 p l e R s m args below meth c Q r D dA A H0 n0 z0 ad0 (xm mi) pc lo st h E β k res := by
  obtain ⟨hx, hb, hml, hts, hK, hNw, hown, hr, hA, hin, hRf, hRl, hSc⟩ := G
  simp only [xsp, xhg_eq] at hs
  rcases st with _ | ⟨t, _ | ⟨i, _ | ⟨t0, s'⟩⟩⟩
  · cases hs
  · cases hs
  · cases hs
  cases t0 <;> first | (cases hs; done) | skip
  rename_i a
  simp only at hs
  cases hc : h[a]? with
  | none => simp [hc] at hs
  | some c0 =>
  simp only [hc] at hs
  cases h1 : (Nat.beq c0.1 20 && xI t) with
  | false => simp [h1] at hs
  | true =>
  simp only [h1, cond_true] at hs
  simp only [Bool.and_eq_true] at h1
  obtain ⟨h1, ht⟩ := h1
  cases hj : xix i c0.2.length with
  | none => simp [hj] at hs
  | some j =>
  simp only [hj, xst_eq, xfN_eq] at hs
  obtain ⟨v, rfl, hv, hvj, hjl⟩ := xix_ok hj
  have e1 : c0.1 = 20 := Nat.eq_of_beq_eq_true h1
  have hz' : xhz (h.set a (c0.1, c0.2.set j t)) = xhz h := xhz_set hc (by simp)
  refine ⟨_, _, _, _, _, hs, fun q => q, by rw [List.length_set]; exact Nat.le_refl _, by rw [hz']; exact Nat.le_refl _, fun _ _ _ C hn hz hw0 ad H locs ls hag hP hD hS hl => ?_⟩
  have he := xwv_at (r := r) (ad := ad) (dA := dA) hc
  have hw : (xwv r ad dA h).set a (ad a, .inl (dA 0, c0.2.length, .inl (upd (fun j => xti (xdv r ad (c0.2.getD j (.int 0)))) j (xti (xdv r ad t))))) = xwv r ad dA (h.set a (c0.1, c0.2.set j t)) := by
    rw [← xwv_set hc, xcv_int (c := (c0.1, c0.2.set j t)) e1, xset_i hjl]
    simp only [List.length_set]
  have hw1 : xhw (h.set a (c0.1, c0.2.set j t)) := xhw_set hw0 (by rw [e1]; rfl)
  rw [xcv_int e1] at he
  unfold xCf at C
  rw [List.length_set, hz'] at C
  simp only [List.map_cons]
  rw [xI_dv hr ad ht]
  refine va_iast hx hb hK hP hD hS a 0 he rfl hv hd (fun H1 locs1 hP1 hD1 hS1 => ?_)
  rw [hvj, hw] at hP1 hD1
  exact C hn hz hw1 ad H1 locs1 ls hag hP1 hD1 hS1 hl
theorem xs_aaload (G : xCx p R s m args meth c r D dA A H0 mi) {ln : Nat} {ax : List Nat} (hd : decode (xb mi) pc = .ok (.aaload, 1)) (hs : xsp mi pc (.aaload, ln, ax) lo st h E k = some res) :
    xR1 p l e R s m args below meth c Q r D dA A H0 n0 z0 ad0 (xm mi) pc lo st h E β k res := by
  obtain ⟨hx, hb, hml, hts, hK, hNw, hown, hr, hA, hin, hRf, hRl, hSc⟩ := G
  simp only [xsp, xhg_eq] at hs
  rcases st with _ | ⟨i, _ | ⟨t0, s'⟩⟩
  · cases hs
  · cases hs
  cases t0 <;> first | (cases hs; done) | skip
  rename_i a
  simp only at hs
  cases hc : h[a]? with
  | none => simp [hc] at hs
  | some c0 =>
  simp only [hc] at hs
  cases h1 : (Nat.ble 21 c0.1 && Nat.ble c0.1 24) with
  | false => simp [h1] at hs
  | true =>
  simp only [h1, cond_true] at hs
  simp only [Bool.and_eq_true] at h1
  have k1 := Nat.le_of_ble_eq_true h1.1
  have k2 := Nat.le_of_ble_eq_true h1.2
  cases hj : xix i c0.2.length with
  | none => simp [hj] at hs
  | some j =>
  simp only [hj] at hs
  cases h2 : c0.2[j]? with
  | none => simp [h2] at hs
  | some t =>
  simp only [h2] at hs
  cases ht : xF t with
  | false => simp [ht] at hs
  | true =>
  simp only [ht, cond_true] at hs
  obtain ⟨v, rfl, hv, hvj, hjl⟩ := xix_ok hj
  refine xR1_push hs (fun ad H locs ls cl sl hP hl K => ?_)
  have he := xwv_at (r := r) (ad := ad) (dA := dA) hc
  rw [xcv_ref k1] at he
  rw [xF_dv hr ad ht] at K
  have K' : W p l e R s m args below meth c H locs cl sl Q (F0 m (pc + 1) ls (va_rf ((fun j => xtr (xdv r ad (c0.2.getD j .null))) v.toNatClampNeg) :: s'.map (xdv r ad))) := by
    rw [hvj]
    simp only [List.getD_eq_getElem?_getD, h2, Option.getD_some]
    exact K
  rcases (show c0.1 = 21 ∨ c0.1 = 22 ∨ c0.1 = 23 ∨ c0.1 = 24 by omega) with q | q | q | q
  · rw [q] at he
    exact va_aldq hx hb hK hP a 1 he rfl hv hd K'
  · rw [q] at he
    exact va_aldq hx hb hK hP a 2 he rfl hv hd K'
  · rw [q] at he
    exact va_aldq hx hb hK hP a 3 he rfl hv hd K'
  · rw [q] at he
    exact va_aldq hx hb hK hP a 4 he rfl hv hd K'
theorem xs_aastore (G : xCx p R s m args meth c r D dA A H0 mi) {ln : Nat} {ax : List Nat} (hd : decode (xb mi) pc = .ok (.aastore, 1)) (hs : xsp mi pc (.aastore, ln, ax) lo st h E k = some res) :
    xR1 p l e R s m args below meth c Q r D dA A H0 n0 z0 ad0 (xm mi) pc lo st h E β k res := by
  obtain ⟨hx, hb, hml, hts, hK, hNw, hown, hr, hA, hin, hRf, hRl, hSc⟩ := G
  simp only [xsp, xhg_eq] at hs
  rcases st with _ | ⟨t, _ | ⟨i, _ | ⟨t0, s'⟩⟩⟩
  · cases hs
  · cases t <;> cases hs
  · cases t <;> cases hs
  cases t <;> first | (cases hs; done) | skip
  rename_i v
  cases t0 <;> first | (cases hs; done) | skip
  rename_i a
  simp only at hs
  cases hc : h[a]? with
  | none => simp [hc] at hs
  | some c0 =>
  cases hv0 : h[v]? with
  | none => simp [hc, hv0] at hs
  | some d0 =>
  simp only [hc, hv0] at hs
  cases h1 : ((Nat.beq c0.1 21 && Nat.beq d0.1 6) || ((Nat.beq c0.1 22 && Nat.beq d0.1 5) || ((Nat.beq c0.1 23 && Nat.beq d0.1 9) || (Nat.beq c0.1 24 && Nat.beq d0.1 7)))) with
  | false => simp [h1] at hs
  | true =>
  simp only [h1, cond_true] at hs
  cases hj : xix i c0.2.length with
  | none => simp [hj] at hs
  | some j =>
  simp only [hj, xst_eq, xfN_eq] at hs
  obtain ⟨w, rfl, hv, hvj, hjl⟩ := xix_ok hj
  have h1 : (c0.1 = 21 ∧ d0.1 = 6) ∨ (c0.1 = 22 ∧ d0.1 = 5) ∨ (c0.1 = 23 ∧ d0.1 = 9) ∨ (c0.1 = 24 ∧ d0.1 = 7) := by
    simp only [Bool.or_eq_true, Bool.and_eq_true] at h1
    rcases h1 with q | q | q | q
    · exact Or.inl ⟨Nat.eq_of_beq_eq_true q.1, Nat.eq_of_beq_eq_true q.2⟩
    · exact Or.inr (Or.inl ⟨Nat.eq_of_beq_eq_true q.1, Nat.eq_of_beq_eq_true q.2⟩)
    · exact Or.inr (Or.inr (Or.inl ⟨Nat.eq_of_beq_eq_true q.1, Nat.eq_of_beq_eq_true q.2⟩))
    · exact Or.inr (Or.inr (Or.inr ⟨Nat.eq_of_beq_eq_true q.1, Nat.eq_of_beq_eq_true q.2⟩))
  have k1 : 21 ≤ c0.1 := by omega
  have hz' : xhz (h.set a (c0.1, c0.2.set j (.index v))) = xhz h := xhz_set hc (by simp)
  refine ⟨_, _, _, _, _, hs, fun q => q, by rw [List.length_set]; exact Nat.le_refl _, by rw [hz']; exact Nat.le_refl _, fun _ _ _ C hn hz hw0 ad H locs ls hag hP hD hS hl => ?_⟩
  have he := xwv_at (r := r) (ad := ad) (dA := dA) hc
  have hev := xwv_at (r := r) (ad := ad) (dA := dA) hv0
  rw [xcv_obj (by omega)] at hev
  have hw : (xwv r ad dA h).set a (ad a, .inl (dA (c0.1 - 20), c0.2.length, .inr (.inr (.inr (.inr (va_up (fun j => xtr (xdv r ad (c0.2.getD j .null))) j (some (ad v)))))))) = xwv r ad dA (h.set a (c0.1, c0.2.set j (.index v))) := by
    rw [← xwv_set hc, xcv_ref (c := (c0.1, c0.2.set j (.index v))) k1, ← xset_q hjl]
    simp only [List.length_set]
    rfl
  have hw1 : xhw (h.set a (c0.1, c0.2.set j (.index v))) := xhw_set hw0 (xokc_set hw0 hc (Nat.ble_eq_true_of_le (List.getElem?_eq_some_iff.mp hv0).1))
  rw [xcv_ref k1] at he
  unfold xCf at C
  rw [List.length_set, hz'] at C
  rcases h1 with ⟨q, q'⟩ | ⟨q, q'⟩ | ⟨q, q'⟩ | ⟨q, q'⟩
  · rw [q'] at hev
    refine va_astq hx hb hK hP hD hS a 1 v 6 he (by rw [q]; rfl) hev (xcl 6 (by decide)) hv hd (fun H1 locs1 hP1 hD1 hS1 => ?_)
    rw [hvj, hw] at hP1 hD1
    exact C hn hz hw1 ad H1 locs1 ls hag hP1 hD1 hS1 hl
  · rw [q'] at hev
    refine va_astq hx hb hK hP hD hS a 2 v 5 he (by rw [q]; rfl) hev (xcl 5 (by decide)) hv hd (fun H1 locs1 hP1 hD1 hS1 => ?_)
    rw [hvj, hw] at hP1 hD1
    exact C hn hz hw1 ad H1 locs1 ls hag hP1 hD1 hS1 hl
  · rw [q'] at hev
    refine va_astq hx hb hK hP hD hS a 3 v 9 he (by rw [q]; rfl) hev (xcl 9 (by decide)) hv hd (fun H1 locs1 hP1 hD1 hS1 => ?_)
    rw [hvj, hw] at hP1 hD1
    exact C hn hz hw1 ad H1 locs1 ls hag hP1 hD1 hS1 hl
  · rw [q'] at hev
    refine va_astq hx hb hK hP hD hS a 4 v 7 he (by rw [q]; rfl) hev (xcl 7 (by decide)) hv hd (fun H1 locs1 hP1 hD1 hS1 => ?_)
    rw [hvj, hw] at hP1 hD1
    exact C hn hz hw1 ad H1 locs1 ls hag hP1 hD1 hS1 hl
theorem xs_ifnonnull (G : xCx p R s m args meth c r D dA A H0 mi) {off : Int} {ln : Nat} {ax : List Nat} (hd : decode (xb mi) pc = .ok (.ifnonnull off, 3)) (hs : xsp mi pc (.ifnonnull off, ln, ax) lo st h E k = some res) :
    xR1 p l e R s m args below meth c Q r D dA A H0 n0 z0 ad0 (xm mi) pc lo st h E β k res := by
  obtain ⟨hx, hb, hml, hts, hK, hNw, hown, hr, hA, hin, hRf, hRl, hSc⟩ := G
  simp only [xsp, xhg_eq] at hs
  rcases st with _ | ⟨t0, s'⟩
  · cases hs
  cases t0 <;> first | (cases hs; done) | skip
  · simp only [xfN_eq] at hs
    exact xR1_same (mi := mi) hs (fun q => q) (fun _ ad H locs ls cl sl hP hl K => lv_ifnonnullN hx hb hd (K ls hl))
  · obtain ⟨t, ht, hs⟩ := xjp_go hs
    exact xR1_same (mi := mi) hs (fun q => q) (fun _ ad H locs ls cl sl hP hl K => lv_ifnonnull hx hb hd ht (K ls hl))
theorem xs_tableswitch (G : xCx p R s m args meth c r D dA A H0 mi) {dflt low high : Int} {offs : Array Int} {ln l9 : Nat} {ax : List Nat} (hd : decode (xb mi) pc = .ok (.tableswitch dflt low high offs, l9)) (hs : xsp mi pc (.tableswitch dflt low high offs, ln, ax) lo st h E k = some res) :
    xR1 p l e R s m args below meth c Q r D dA A H0 n0 z0 ad0 (xm mi) pc lo st h E β k res := by
  obtain ⟨hx, hb, hml, hts, hK, hNw, hown, hr, hA, hin, hRf, hRl, hSc⟩ := G
  simp only [xsp, xhg_eq] at hs
  rcases st with _ | ⟨t0, s'⟩
  · cases hs
  simp only at hs
  cases hlit : xlit t0 with
  | some v =>
    have e0 := xlit_eq hlit
    subst e0
    rw [hlit] at hs
    simp only at hs
    cases h1 : (decide (v.toInt < low) || decide (high < v.toInt)) with
    | true =>
      rw [h1] at hs
      obtain ⟨t, htg, hs⟩ := xjp_go hs
      simp only [Bool.or_eq_true, decide_eq_true_eq] at h1
      exact xR1_same (mi := mi) hs (fun q => q) (fun _ ad H locs ls cl sl hP hl K => lv_tableOut hx hb hd h1 htg (K ls hl))
    | false =>
      rw [h1] at hs
      simp only at hs
      simp only [Bool.or_eq_false_iff, decide_eq_false_iff_not] at h1
      cases ho : offs[(v.toInt - low).toNat]? with
      | none => rw [ho] at hs; cases hs
      | some off =>
        rw [ho] at hs
        obtain ⟨t, htg, hs⟩ := xjp_go hs
        exact xR1_same (mi := mi) hs (fun q => q) (fun _ ad H locs ls cl sl hP hl K => lv_tableIn hx hb hd h1.1 h1.2 ho htg (K ls hl))
  | none =>
    rw [hlit] at hs
    rcases E with _ | ⟨q, E'⟩
    · cases hs
    obtain ⟨qc, qa, qb, qs⟩ := q
    simp only [xts] at hs
    cases hw : xlit qb with
    | none => rw [hw] at hs; cases hs
    | some w =>
    rw [hw] at hs
    simp only at hs
    have e1 := xlit_eq hw
    subst e1
    cases h1 : (xI t0 && (xq qa t0 && qs)) with
    | false => rw [h1] at hs; cases hs
    | true =>
    rw [h1] at hs
    simp only at hs
    simp only [Bool.and_eq_true] at h1
    obtain ⟨ht, h1, h2⟩ := h1
    have e1 := xq_eq _ _ h1
    subst e1
    subst h2
    cases h3 : ((decide (qc = .lt) && decide (w.toInt = low)) || (decide (qc = .gt) && decide (w.toInt = high))) with
    | true =>
      rw [h3] at hs
      obtain ⟨t, htg, hs⟩ := xjp_go hs
      simp only [Bool.and_eq_true, Bool.or_eq_true, decide_eq_true_eq] at h3
      refine xR1_same (mi := mi) hs (fun q z hz => q z (List.mem_cons_of_mem _ hz)) (fun hh ad H locs ls cl sl hP hl K => ?_)
      have hq := hh _ List.mem_cons_self
      simp only [xhold] at hq
      rw [(xdv_ad r xid ad qa).1] at hq
      simp only [List.map_cons]
      rw [xI_dv hr ad ht]
      refine lv_tableOut hx hb hd ?_ htg (K ls hl)
      rcases h3 with ⟨e1, h3⟩ | ⟨e1, h3⟩
      · left
        rw [e1] at hq
        rw [← h3]
        exact Int32.lt_iff_toInt_lt.mp hq
      · right
        rw [e1] at hq
        rw [← h3]
        exact Int32.lt_iff_toInt_lt.mp hq
    | false =>
      rw [h3] at hs
      simp only at hs
      cases h4 : (decide (qc = .eq) && ((!decide (w.toInt < low)) && (!decide (high < w.toInt)))) with
      | false => rw [h4] at hs; cases hs
      | true =>
      rw [h4] at hs
      simp only at hs
      simp only [Bool.and_eq_true, decide_eq_true_eq, Bool.not_eq_true', decide_eq_false_iff_not] at h4
      obtain ⟨rfl, h5, h6⟩ := h4
      cases ho : offs[(w.toInt - low).toNat]? with
      | none => rw [ho] at hs; cases hs
      | some off =>
      rw [ho] at hs
      obtain ⟨t, htg, hs⟩ := xjp_go hs
      refine xR1_same (mi := mi) hs (fun q z hz => q z (List.mem_cons_of_mem _ hz)) (fun hh ad H locs ls cl sl hP hl K => ?_)
      have hq := hh _ List.mem_cons_self
      simp only [xhold, xcm] at hq
      rw [(xdv_ad r xid ad qa).1] at hq
      simp only [List.map_cons]
      rw [xI_dv hr ad ht, hq]
      exact lv_tableIn hx hb hd h5 h6 ho htg (K ls hl)
theorem xs_lookupswitch (G : xCx p R s m args meth c r D dA A H0 mi) {dflt : Int} {ps : Array (Int × Int)} {ln l9 : Nat} {ax : List Nat} (hd : decode (xb mi) pc = .ok (.lookupswitch dflt ps, l9)) (hs : xsp mi pc (.lookupswitch dflt ps, ln, ax) lo st h E k = some res) :
    xR1 p l e R s m args below meth c Q r D dA A H0 n0 z0 ad0 (xm mi) pc lo st h E β k res := by
  obtain ⟨hx, hb, hml, hts, hK, hNw, hown, hr, hA, hin, hRf, hRl, hSc⟩ := G
  simp only [xsp, xhg_eq] at hs
  rcases st with _ | ⟨t0, s'⟩
  · cases hs
  cases t0 <;> first | (cases hs; done) | skip
  rename_i v
  simp only at hs
  cases h1 : (ps.toList.zip (ps.toList.drop 1)).all (fun (a, next) => a.1 < next.1) with
  | false => rw [h1] at hs; cases hs
  | true =>
    rw [h1] at hs
    obtain ⟨t, htg, hs⟩ := xjp_go hs
    exact xR1_same (mi := mi) hs (fun q => q) (fun _ ad H locs ls cl sl hP hl K => lv_lookup hx hb hd h1 rfl htg (K ls hl))
theorem xs_ldc (G : xCx p R s m args meth c r D dA A H0 mi) {idx ln : Nat} {ax : List Nat} (hd : decode (xb mi) pc = .ok (.ldc idx, 2)) (ha : xau mi (.ldc idx) ln ax = true) (hs : xsp mi pc (.ldc idx, ln, ax) lo st h E k = some res) :
    xR1 p l e R s m args below meth c Q r D dA A H0 n0 z0 ad0 (xm mi) pc lo st h E β k res := by
  obtain ⟨hx, hb, hml, hts, hK, hNw, hown, hr, hA, hin, hRf, hRl, hSc⟩ := G
  rcases ax with _ | ⟨p0, _ | ⟨n, _ | ⟨n7, _ | ⟨x9, t9⟩⟩⟩⟩ <;> simp only [xsp, xhg_eq] at hs <;> first | (cases hs; done) | skip
  · simp only [xau, Bool.and_eq_true, decide_eq_true_eq] at ha
    exact xR1_push hs (fun ad H locs ls cl sl hP hl K => lv_ldc hx hb hown (hts _ (xw ha.2 rfl)) hd K)
  · have ha := (Bool.and_eq_true_iff.mp ha).2
    simp only at ha
    cases hq : xstr[n]? with
    | none => rw [hq] at ha; cases ha
    | some q =>
    rw [hq] at ha
    simp only [Bool.and_eq_true, decide_eq_true_eq] at ha
    obtain ⟨a, r1, hR⟩ := hNw.2.2.1 n q hq
    refine xR1_push hs (fun ad H locs ls cl sl hP hl K => ?_)
    simp only [xdv, r1] at K
    rw [ha.1, ha.2] at hR
    exact va_ldcS hx hb hown hR hd K
theorem xs_ldc_w (G : xCx p R s m args meth c r D dA A H0 mi) {idx ln : Nat} {ax : List Nat} (hd : decode (xb mi) pc = .ok (.ldc_w idx, 3)) (ha : xau mi (.ldc_w idx) ln ax = true) (hs : xsp mi pc (.ldc_w idx, ln, ax) lo st h E k = some res) :
    xR1 p l e R s m args below meth c Q r D dA A H0 n0 z0 ad0 (xm mi) pc lo st h E β k res := by
  obtain ⟨hx, hb, hml, hts, hK, hNw, hown, hr, hA, hin, hRf, hRl, hSc⟩ := G
  rcases ax with _ | ⟨p0, _ | ⟨n, _ | ⟨x9, t9⟩⟩⟩ <;> simp only [xsp, xhg_eq] at hs <;> first | (cases hs; done) | skip
  simp only [xau, Bool.and_eq_true, decide_eq_true_eq] at ha
  exact xR1_push hs (fun ad H locs ls cl sl hP hl K => lv_ldcw hx hb hown (hts _ (xw ha.2 rfl)) hd K)
theorem xs_ldc2_w (G : xCx p R s m args meth c r D dA A H0 mi) {idx ln : Nat} {ax : List Nat} (hd : decode (xb mi) pc = .ok (.ldc2_w idx, 3)) (ha : xau mi (.ldc2_w idx) ln ax = true) (hs : xsp mi pc (.ldc2_w idx, ln, ax) lo st h E k = some res) :
    xR1 p l e R s m args below meth c Q r D dA A H0 n0 z0 ad0 (xm mi) pc lo st h E β k res := by
  obtain ⟨hx, hb, hml, hts, hK, hNw, hown, hr, hA, hin, hRf, hRl, hSc⟩ := G
  rcases ax with _ | ⟨p0, _ | ⟨n, _ | ⟨x9, t9⟩⟩⟩ <;> simp only [xsp, xhg_eq] at hs <;> first | (cases hs; done) | skip
  simp only [xau, Bool.and_eq_true, decide_eq_true_eq] at ha
  exact xR1_push hs (fun ad H locs ls cl sl hP hl K => lv_ldc2 hx hb hown (hts _ (xw ha.2 rfl)) hd K)
theorem xsum (hr : xRr r) (ad : Nat → Nat) {s' : List Jvm.Term} (h : s'.all (fun t => !(xG t)) = true) : ((s'.map (xdv r ad)).map fun v => v.category).sum = s'.length := by
  induction s' with
  | nil => rfl
  | cons t s' ih =>
    simp only [List.all_cons, Bool.and_eq_true, Bool.not_eq_true'] at h
    simp only [List.map_cons, List.sum_cons, List.length_cons]
    rw [xcat hr ad h.1, ih h.2]
    omega
theorem xs_objInit (G : xCx p R s m args meth c r D dA A H0 mi) {idx ln p0 a b : Nat} (hd : decode (xb mi) pc = .ok (.invokespecial idx, 3)) (ha : xau mi (.invokespecial idx) ln [p0, 900, a, b] = true) (hs : xsp mi pc (.invokespecial idx, ln, [p0, 900, a, b]) lo st h E k = some res) :
    xR1 p l e R s m args below meth c Q r D dA A H0 n0 z0 ad0 (xm mi) pc lo st h E β k res := by
  obtain ⟨hx, hb, hml, hts, hK, hNw, hown, hr, hA, hin, hRf, hRl, hSc⟩ := G
  simp only [xsp, xhg_eq] at hs
  rw [show Nat.beq 900 900 = true from rfl, cond_true] at hs
  rcases st with _ | ⟨t0, s'⟩
  · cases hs
  cases t0 <;> first | (cases hs; done) | skip
  simp only at hs
  cases h1 : (Nat.ble s'.length 6 && s'.all (fun t => !(xG t))) with
  | false => simp [h1] at hs
  | true =>
  simp only [h1, cond_true, xfN_eq] at hs
  simp only [Bool.and_eq_true] at h1
  have hl6 := Nat.le_of_ble_eq_true h1.1
  have ha := (Bool.and_eq_true_iff.mp ha).2
  change (decide (lw_tbl[p0]? = some (.methodLink (xRn (xo mi)) idx objectInit)) && (decide (lw_tbl[a]? = some (.instanceMethod objectInit)) && decide (lw_tbl[b]? = some (.code objectInit ⟨#[0xb1]⟩ 1 none)))) = true at ha
  simp only [Bool.and_eq_true, decide_eq_true_eq] at ha
  refine xR1_same (mi := mi) hs (fun q => q) (fun _ ad H locs ls cl sl hP hl K => ?_)
  have hsz : ls.size = c.maxLocals := by rw [hml]; exact hl.1
  refine W.objInit hx hb hown (hts _ (xw ha.1 rfl)) (hts _ (xw ha.2.1 rfl)) (hts _ (xw ha.2.2 rfl)) rfl hsz rfl hd hRf ?_ (W.eq rfl (K ls hl))
  have h2 := xsum hr ad h1.2
  show 2 * 0 + _ + 12 ≤ R.locals
  omega
end
